def f_X7_outputAt_e75 (n : Nat) (x8 : SX) (v13 : Int32) (v14 : Int32) (v15 : Int32) : Option (Int32 × SX) := (qgd (qin v14 14610) ((qbd (f_X7_signOf n (x8.1 12 v14.toNatClampNeg) v15 v13) fun r17 => (qgd (qch r17) (some (r17, x8))))))
def f_X7_outputAt_l39 (n : Nat) (x8 : SX) : Nat → Int32 → Int32 → Int32 → Option (Int32 × SX)
  | 0, _, _, _ => none
  | m + 1, v21, v22, v23 => (qbd (f_X7_figures n v23) fun r25 => (if v21 ≤ (r25 + (1 : Int32)) then f_X7_outputAt_e75 n x8 v21 v22 v23 else (qbd (f_X7_figures n v23) fun r28 => (qnm (v21 - (r28 + (2 : Int32))) fun v30 => (qnm (v22 + v23) fun v31 => (qbd (f_X7_runFrom n x8 v31) fun r32 => (f_X7_outputAt_l39 n x8 m) v30 v31 r32))))))
def f_X7_outputAt (n : Nat) (x : SX) (a1 : Int32) : Option (Int32 × SX) := (qbd (f_X7_sizeToTold n x) fun r1 => (qbd (f_X7_in n a1 (0 : Int32) (r1 - (1 : Int32))) fun r3 => (qbd (if r3 = 0 then some (1 : Int32) else some (0 : Int32)) fun v5 => (qbd2 (f_X7_fails n x v5) fun r7 x8 => (if r7 = 0 then (qbd (f_X7_runFrom n x8 (0 : Int32)) fun r11 => f_X7_outputAt_l39 n x8 n a1 (0 : Int32) r11) else (qgd (qch (0 : Int32)) (some ((0 : Int32), x8))))))))
set_option maxHeartbeats 4000000 in
set_option maxRecDepth 100000 in
theorem t_X7_outputAt {G : gG} {l : Launch} {ad : Nat → Nat} {n : Nat} {x : SX} {a1 : Int32} {rv : Int32} {xr : SX} (hf : f_X7_outputAt n x a1 = some (rv, xr)) : MetI G l yX7_outputAt cX7_outputAt 5 (some .char) 2 0 0 47 [.ref (ad 0), .int a1] (wM G ad x) (wM G ad xr) rv := by
  refine k_ofI (by decide) (Nat.le_of_ble_eq_true rfl) ?_
  intro p e s m args below meth c ls A F hr hlk hl hw
  have hx := F.1
  have hb := F.2.1
  have hl : lv_has ls 5 [(0, .ref (ad 0)), (1, .int a1)] := hl
  unfold f_X7_outputAt at hf
  refine lv_aload_n hx hb dX7_outputAt_0 rfl (lv_at hl 0 rfl) ?_
  refine lv_iload_n hx hb dX7_outputAt_1 rfl (lv_at hl 1 rfl) ?_
  refine lv_iconst (v := 0) hx hb dX7_outputAt_2 (by decide) ?_
  refine lv_aload_n hx hb dX7_outputAt_3 rfl (lv_at hl 0 rfl) ?_
  obtain ⟨r1, h2, hf⟩ := qbd_e hf
  refine k_callVi' (rest := [.int (0 : Int32), .int a1, .ref (ad 0)]) (As := []) F ws_in (t_X7_sizeToTold h2) cv_X7_sizeToTold ml_X7_272 hw 0 rfl rfl rfl hl.1 rfl (Nat.le_of_ble_eq_true rfl) ⟨Nat.le_of_ble_eq_true rfl, Nat.le_of_ble_eq_true rfl⟩ ⟨Nat.le_of_ble_eq_true rfl, Nat.le_of_ble_eq_true rfl⟩ dX7_outputAt_4 (fun H locs hw => ?_)
  refine lv_iconst (v := 1) hx hb dX7_outputAt_7 (by decide) ?_
  refine lv_isub hx hb dX7_outputAt_8 ?_
  obtain ⟨r3, h4, hf⟩ := qbd_e hf
  refine k_callPi (rest := [.ref (ad 0)]) (As := [.int a1, .int (0 : Int32), .int (r1 - (1 : Int32))]) F ws_in (t_X7_in h4) cs_X7_in ml_X7_122 hw rfl hl.1 rfl (Nat.le_of_ble_eq_true rfl) ⟨Nat.le_of_ble_eq_true rfl, Nat.le_of_ble_eq_true rfl⟩ ⟨Nat.le_of_ble_eq_true rfl, Nat.le_of_ble_eq_true rfl⟩ dX7_outputAt_9 (fun H locs hw => ?_)
  obtain ⟨v5, hq36, hf⟩ := qbd_e hf
  have J6 : ∀ (H : Heap) (locs : List Loc) (ls : Array Slot), Wd G (wM G ad x) A s H locs → lv_has ls 5 [(0, .ref (ad 0)), (1, .int a1)] → W p l e (rmk 2 0 0 47) s m args below meth c H locs 0 0 (KQI G below args s A (wM G ad xr) rv 0 0) (F0 m 20 ls [.int v5, .ref (ad 0)]) := by
    intro H locs ls hw hl
    obtain ⟨r7, x8, h9, hf⟩ := qbd2_e hf
    refine k_callVi' (rest := []) (As := [.int v5]) F ws_in (t_X7_fails h9) cv_X7_fails ml_X7_126 hw 0 rfl rfl rfl hl.1 rfl (Nat.le_of_ble_eq_true rfl) ⟨Nat.le_of_ble_eq_true rfl, Nat.le_of_ble_eq_true rfl⟩ ⟨Nat.le_of_ble_eq_true rfl, Nat.le_of_ble_eq_true rfl⟩ dX7_outputAt_20 (fun H locs hw => ?_)
    refine lv_if_eq (tgt := 28) hx hb dX7_outputAt_23 rfl (fun c10 => ?_) (fun c10 => ?_)
    · have hf := q_t c10 hf
      refine lv_iload_n hx hb dX7_outputAt_28 rfl (lv_at hl 1 rfl) ?_
      refine lv_istore_n (lv' := [(2, .int a1), (0, .ref (ad 0)), (1, .int a1)]) hx hb dX7_outputAt_29 rfl hl (Nat.le_of_ble_eq_true rfl) rfl (fun ls hl => ?_)
      refine lv_iconst (v := 0) hx hb dX7_outputAt_30 (by decide) ?_
      refine lv_istore_n (lv' := [(3, .int (0 : Int32)), (2, .int a1), (0, .ref (ad 0)), (1, .int a1)]) hx hb dX7_outputAt_31 rfl hl (Nat.le_of_ble_eq_true rfl) rfl (fun ls hl => ?_)
      refine lv_aload_n hx hb dX7_outputAt_32 rfl (lv_at hl 2 rfl) ?_
      refine lv_iconst (v := 0) hx hb dX7_outputAt_33 (by decide) ?_
      obtain ⟨r11, h12, hf⟩ := qbd_e hf
      refine k_callVi' (rest := []) (As := [.int (0 : Int32)]) F ws_in (t_X7_runFrom h12) cv_X7_runFrom ml_X7_266 hw 0 rfl rfl rfl hl.1 rfl (Nat.le_of_ble_eq_true rfl) ⟨Nat.le_of_ble_eq_true rfl, Nat.le_of_ble_eq_true rfl⟩ ⟨Nat.le_of_ble_eq_true rfl, Nat.le_of_ble_eq_true rfl⟩ dX7_outputAt_34 (fun H locs hw => ?_)
      refine lv_istore (lv' := [(4, .int r11), (3, .int (0 : Int32)), (2, .int a1), (0, .ref (ad 0)), (1, .int a1)]) hx hb dX7_outputAt_37 hl (Nat.le_of_ble_eq_true rfl) rfl (fun ls hl => ?_)
      have E20 : ∀ (v13 : Int32) (v14 : Int32) (v15 : Int32) (H : Heap) (locs : List Loc) (ls : Array Slot), Wd G (wM G ad x8) A s H locs → lv_has ls 5 [(0, .ref (ad 0)), (2, .int v13), (3, .int v14), (4, .int v15)] → f_X7_outputAt_e75 n x8 v13 v14 v15 = some (rv, xr) → W p l e (rmk 2 0 0 47) s m args below meth c H locs 0 0 (KQI G below args s A (wM G ad xr) rv 0 0) (F0 m 75 ls []) := by
        intro v13 v14 v15 H locs ls hw hl hf
        unfold f_X7_outputAt_e75 at hf
        refine lv_aload_n hx hb dX7_outputAt_75 rfl (lv_at hl 0 rfl) ?_
        refine M_g_0_2 F ws_in hw fl_X7_9 dX7_outputAt_76 ?_
        refine lv_iload_n hx hb dX7_outputAt_79 rfl (lv_at hl 2 rfl) ?_
        obtain ⟨g16, hf⟩ := qgd_e hf
        refine M_l_12 F hw g16 dX7_outputAt_80 ?_
        refine lv_iload hx hb dX7_outputAt_81 (lv_at hl 3 rfl) ?_
        refine lv_iload_n hx hb dX7_outputAt_83 rfl (lv_at hl 1 rfl) ?_
        obtain ⟨r17, h18, hf⟩ := qbd_e hf
        refine k_callPi (rest := []) (As := [.int (x8.1 12 v14.toNatClampNeg), .int v15, .int v13]) F ws_in (t_X7_signOf h18) cs_X7_signOf ml_X7_275 hw rfl hl.1 rfl (Nat.le_of_ble_eq_true rfl) ⟨Nat.le_of_ble_eq_true rfl, Nat.le_of_ble_eq_true rfl⟩ ⟨Nat.le_of_ble_eq_true rfl, Nat.le_of_ble_eq_true rfl⟩ dX7_outputAt_84 (fun H locs hw => ?_)
        obtain ⟨g19, hf⟩ := qgd_e hf
        obtain ⟨rfl, rfl⟩ := q_s2 hf
        exact k_zret F hr hlk hw (qch_n g19) (Nat.le_of_ble_eq_true rfl) (Nat.le_of_ble_eq_true rfl) dX7_outputAt_87
      have L24 : ∀ (m0 : Nat) (v21 : Int32) (v22 : Int32) (v23 : Int32) (H : Heap) (locs : List Loc) (ls : Array Slot), Wd G (wM G ad x8) A s H locs → lv_has ls 5 [(0, .ref (ad 0)), (2, .int v21), (3, .int v22), (4, .int v23)] → f_X7_outputAt_l39 n x8 m0 v21 v22 v23 = some (rv, xr) → W p l e (rmk 2 0 0 47) s m args below meth c H locs 0 0 (KQI G below args s A (wM G ad xr) rv 0 0) (F0 m 39 ls []) := by
        intro m0
        induction m0 with
        | zero => intro v21 v22 v23 H locs ls hw hl hf; cases hf
        | succ mL24 ih24 =>
          intro v21 v22 v23 H locs ls hw hl hf
          unfold f_X7_outputAt_l39 at hf
          refine lv_iload_n hx hb dX7_outputAt_39 rfl (lv_at hl 1 rfl) ?_
          refine lv_iload hx hb dX7_outputAt_40 (lv_at hl 3 rfl) ?_
          obtain ⟨r25, h26, hf⟩ := qbd_e hf
          refine k_callPi (rest := [.int v21]) (As := [.int v23]) F ws_in (t_X7_figures h26) cs_X7_figures ml_X7_269 hw rfl hl.1 rfl (Nat.le_of_ble_eq_true rfl) ⟨Nat.le_of_ble_eq_true rfl, Nat.le_of_ble_eq_true rfl⟩ ⟨Nat.le_of_ble_eq_true rfl, Nat.le_of_ble_eq_true rfl⟩ dX7_outputAt_42 (fun H locs hw => ?_)
          refine lv_iconst (v := 1) hx hb dX7_outputAt_45 (by decide) ?_
          refine lv_iadd hx hb dX7_outputAt_46 ?_
          refine lv_icmp_le (tgt := 75) hx hb dX7_outputAt_47 rfl (fun c27 => ?_) (fun c27 => ?_)
          · have hf := q_t c27 hf
            exact E20 v21 v22 v23 _ _ _ hw (lv_sub hl [0, 1, 2, 3] rfl) hf
          · have hf := q_f c27 hf
            refine lv_iload_n hx hb dX7_outputAt_50 rfl (lv_at hl 1 rfl) ?_
            refine lv_iload hx hb dX7_outputAt_51 (lv_at hl 3 rfl) ?_
            obtain ⟨r28, h29, hf⟩ := qbd_e hf
            refine k_callPi (rest := [.int v21]) (As := [.int v23]) F ws_in (t_X7_figures h29) cs_X7_figures ml_X7_269 hw rfl hl.1 rfl (Nat.le_of_ble_eq_true rfl) ⟨Nat.le_of_ble_eq_true rfl, Nat.le_of_ble_eq_true rfl⟩ ⟨Nat.le_of_ble_eq_true rfl, Nat.le_of_ble_eq_true rfl⟩ dX7_outputAt_53 (fun H locs hw => ?_)
            refine lv_iconst (v := 2) hx hb dX7_outputAt_56 (by decide) ?_
            refine lv_iadd hx hb dX7_outputAt_57 ?_
            refine lv_isub hx hb dX7_outputAt_58 ?_
            refine lv_topi (fun v30 ev30 => ?_)
            have hf := qnm_k ev30 hf
            refine lv_istore_n (lv' := [(2, .int v30), (0, .ref (ad 0)), (3, .int v22), (4, .int v23)]) hx hb dX7_outputAt_59 rfl hl (Nat.le_of_ble_eq_true rfl) rfl (fun ls hl => ?_)
            refine lv_iload_n hx hb dX7_outputAt_60 rfl (lv_at hl 2 rfl) ?_
            refine lv_iload hx hb dX7_outputAt_61 (lv_at hl 3 rfl) ?_
            refine lv_iadd hx hb dX7_outputAt_63 ?_
            refine lv_topi (fun v31 ev31 => ?_)
            have hf := qnm_k ev31 hf
            refine lv_istore_n (lv' := [(3, .int v31), (2, .int v30), (0, .ref (ad 0)), (4, .int v23)]) hx hb dX7_outputAt_64 rfl hl (Nat.le_of_ble_eq_true rfl) rfl (fun ls hl => ?_)
            refine lv_aload_n hx hb dX7_outputAt_65 rfl (lv_at hl 2 rfl) ?_
            refine lv_iload_n hx hb dX7_outputAt_66 rfl (lv_at hl 0 rfl) ?_
            obtain ⟨r32, h33, hf⟩ := qbd_e hf
            refine k_callVi' (rest := []) (As := [.int v31]) F ws_in (t_X7_runFrom h33) cv_X7_runFrom ml_X7_266 hw 0 rfl rfl rfl hl.1 rfl (Nat.le_of_ble_eq_true rfl) ⟨Nat.le_of_ble_eq_true rfl, Nat.le_of_ble_eq_true rfl⟩ ⟨Nat.le_of_ble_eq_true rfl, Nat.le_of_ble_eq_true rfl⟩ dX7_outputAt_67 (fun H locs hw => ?_)
            refine lv_istore (lv' := [(4, .int r32), (3, .int v31), (2, .int v30), (0, .ref (ad 0))]) hx hb dX7_outputAt_70 hl (Nat.le_of_ble_eq_true rfl) rfl (fun ls hl => ?_)
            refine lv_goto (tgt := 39) hx hb dX7_outputAt_72 rfl ?_
            exact ih24 v30 v31 r32 _ _ _ hw (lv_sub hl [3, 2, 1, 0] rfl) hf
      exact L24 n a1 (0 : Int32) r11 _ _ _ hw (lv_sub hl [3, 2, 1, 0] rfl) hf
    · have hf := q_f c10 hf
      refine lv_iconst (v := 0) hx hb dX7_outputAt_26 (by decide) ?_
      obtain ⟨g34, hf⟩ := qgd_e hf
      obtain ⟨rfl, rfl⟩ := q_s2 hf
      exact k_zret F hr hlk hw (qch_n g34) (Nat.le_of_ble_eq_true rfl) (Nat.le_of_ble_eq_true rfl) dX7_outputAt_27
  have hf := hq36
  refine lv_if_eq (tgt := 19) hx hb dX7_outputAt_12 rfl (fun c35 => ?_) (fun c35 => ?_)
  · have hf := q_t c35 hf
    refine lv_iconst (v := 1) hx hb dX7_outputAt_19 (by decide) ?_
    obtain rfl := q_s hf
    exact J6 _ _ _ hw (lv_sub hl [0, 1] rfl)
  · have hf := q_f c35 hf
    refine lv_iconst (v := 0) hx hb dX7_outputAt_15 (by decide) ?_
    refine lv_goto (tgt := 20) hx hb dX7_outputAt_16 rfl ?_
    obtain rfl := q_s hf
    exact J6 _ _ _ hw (lv_sub hl [0, 1] rfl)
def f_X7_isConsistent_l57 (x1 : SX) : Nat → Int32 → Int32 → Option (Int32 × SX)
  | 0, _, _ => none
  | m + 1, v5, v6 => (if (x1.1 0 6) ≤ v6 then (qgd (qz v5) (some (v5, x1))) else (qbd (if v5 = 0 then some (0 : Int32) else (qgd (qin v6 10) ((if (x1.1 23 v6.toNatClampNeg) = 0 then (if (x1.1 49 v6.toNatClampNeg) < (x1.1 48 v6.toNatClampNeg) then some (0 : Int32) else some (1 : Int32)) else some (1 : Int32))))) fun v10 => (qnm (v6 + (1 : Int32)) fun v12 => (f_X7_isConsistent_l57 x1 m) v10 v12)))
def f_X7_isConsistent_e41 (x1 : SX) (n : Nat) (v2 : Int32) : Option (Int32 × SX) := (qbd (if v2 = (x1.1 0 4) then some (1 : Int32) else some (0 : Int32)) fun v3 => f_X7_isConsistent_l57 x1 n v3 (0 : Int32))
def f_X7_isConsistent_l9 (x1 : SX) (n : Nat) : Nat → Int32 → Int32 → Option (Int32 × SX)
  | 0, _, _ => none
  | m + 1, v21, v22 => (if (x1.1 0 1) ≤ v22 then f_X7_isConsistent_e41 x1 n v21 else (qgd (qin v22 14610) ((qbd (if (x1.1 12 v22.toNatClampNeg) = (2 : Int32) then some (1 : Int32) else some (0 : Int32)) fun v26 => (qnm (v21 + v26) fun v28 => (qnm (v22 + (1 : Int32)) fun v29 => (f_X7_isConsistent_l9 x1 n m) v28 v29))))))
def f_X7_isConsistent (n : Nat) (x : SX) : Option (Int32 × SX) := (qnm (si x 0 0 (0 : Int32)) fun x1 => f_X7_isConsistent_l9 x1 n n (0 : Int32) (0 : Int32))
set_option maxHeartbeats 4000000 in
set_option maxRecDepth 100000 in
theorem t_X7_isConsistent {G : gG} {l : Launch} {ad : Nat → Nat} {n : Nat} {x : SX} {rv : Int32} {xr : SX} (hf : f_X7_isConsistent n x = some (rv, xr)) : MetI G l yX7_isConsistent cX7_isConsistent 4 (some .boolean) 0 0 0 0 [.ref (ad 0)] (wM G ad x) (wM G ad xr) rv := by
  refine k_ofI (by decide) (Nat.le_of_ble_eq_true rfl) ?_
  intro p e s m args below meth c ls A F hr hlk hl hw
  have hx := F.1
  have hb := F.2.1
  have hl : lv_has ls 4 [(0, .ref (ad 0))] := hl
  unfold f_X7_isConsistent at hf
  refine lv_aload_n hx hb dX7_isConsistent_0 rfl (lv_at hl 0 rfl) ?_
  refine lv_iconst (v := 0) hx hb dX7_isConsistent_1 (by decide) ?_
  refine M_p_0_0 F ws_in hw fl_X7_93 dX7_isConsistent_2 (fun x1 ex1 H locs hw => ?_)
  have hf := qnm_k ex1 hf
  refine lv_iconst (v := 0) hx hb dX7_isConsistent_5 (by decide) ?_
  refine lv_istore_n (lv' := [(1, .int (0 : Int32)), (0, .ref (ad 0))]) hx hb dX7_isConsistent_6 rfl hl (Nat.le_of_ble_eq_true rfl) rfl (fun ls hl => ?_)
  refine lv_iconst (v := 0) hx hb dX7_isConsistent_7 (by decide) ?_
  refine lv_istore_n (lv' := [(2, .int (0 : Int32)), (1, .int (0 : Int32)), (0, .ref (ad 0))]) hx hb dX7_isConsistent_8 rfl hl (Nat.le_of_ble_eq_true rfl) rfl (fun ls hl => ?_)
  have E20 : ∀ (v2 : Int32) (H : Heap) (locs : List Loc) (ls : Array Slot), Wd G (wM G ad x1) A s H locs → lv_has ls 4 [(0, .ref (ad 0)), (1, .int v2)] → f_X7_isConsistent_e41 x1 n v2 = some (rv, xr) → W p l e (rmk 0 0 0 0) s m args below meth c H locs 0 0 (KQI G below args s A (wM G ad xr) rv 0 0) (F0 m 41 ls []) := by
    intro v2 H locs ls hw hl hf
    unfold f_X7_isConsistent_e41 at hf
    refine lv_iload_n hx hb dX7_isConsistent_41 rfl (lv_at hl 1 rfl) ?_
    refine lv_aload_n hx hb dX7_isConsistent_42 rfl (lv_at hl 0 rfl) ?_
    refine M_g_0_4 F ws_in hw fl_X7_203 dX7_isConsistent_43 ?_
    obtain ⟨v3, hq19, hf⟩ := qbd_e hf
    have J4 : ∀ (H : Heap) (locs : List Loc) (ls : Array Slot), Wd G (wM G ad x1) A s H locs → lv_has ls 4 [(0, .ref (ad 0))] → W p l e (rmk 0 0 0 0) s m args below meth c H locs 0 0 (KQI G below args s A (wM G ad xr) rv 0 0) (F0 m 54 ls [.int v3]) := by
      intro H locs ls hw hl
      refine lv_istore_n (lv' := [(2, .int v3), (0, .ref (ad 0))]) hx hb dX7_isConsistent_54 rfl hl (Nat.le_of_ble_eq_true rfl) rfl (fun ls hl => ?_)
      refine lv_iconst (v := 0) hx hb dX7_isConsistent_55 (by decide) ?_
      refine lv_istore_n (lv' := [(3, .int (0 : Int32)), (2, .int v3), (0, .ref (ad 0))]) hx hb dX7_isConsistent_56 rfl hl (Nat.le_of_ble_eq_true rfl) rfl (fun ls hl => ?_)
      have L7 : ∀ (m0 : Nat) (v5 : Int32) (v6 : Int32) (H : Heap) (locs : List Loc) (ls : Array Slot), Wd G (wM G ad x1) A s H locs → lv_has ls 4 [(0, .ref (ad 0)), (2, .int v5), (3, .int v6)] → f_X7_isConsistent_l57 x1 m0 v5 v6 = some (rv, xr) → W p l e (rmk 0 0 0 0) s m args below meth c H locs 0 0 (KQI G below args s A (wM G ad xr) rv 0 0) (F0 m 57 ls []) := by
        intro m0
        induction m0 with
        | zero => intro v5 v6 H locs ls hw hl hf; cases hf
        | succ mL7 ih7 =>
          intro v5 v6 H locs ls hw hl hf
          unfold f_X7_isConsistent_l57 at hf
          refine lv_iload_n hx hb dX7_isConsistent_57 rfl (lv_at hl 2 rfl) ?_
          refine lv_aload_n hx hb dX7_isConsistent_58 rfl (lv_at hl 0 rfl) ?_
          refine M_g_0_6 F ws_in hw fl_X7_140 dX7_isConsistent_59 ?_
          refine lv_icmp_ge (tgt := 105) hx hb dX7_isConsistent_62 rfl (fun c8 => ?_) (fun c8 => ?_)
          · have hf := q_t c8 hf
            refine lv_iload_n hx hb dX7_isConsistent_105 rfl (lv_at hl 1 rfl) ?_
            obtain ⟨g9, hf⟩ := qgd_e hf
            obtain ⟨rfl, rfl⟩ := q_s2 hf
            exact k_zret F hr hlk hw (qz_n g9) (Nat.le_of_ble_eq_true rfl) (Nat.le_of_ble_eq_true rfl) dX7_isConsistent_106
          · have hf := q_f c8 hf
            refine lv_iload_n hx hb dX7_isConsistent_65 rfl (lv_at hl 1 rfl) ?_
            obtain ⟨v10, hq17, hf⟩ := qbd_e hf
            have J11 : ∀ (H : Heap) (locs : List Loc) (ls : Array Slot), Wd G (wM G ad x1) A s H locs → lv_has ls 4 [(0, .ref (ad 0)), (3, .int v6)] → W p l e (rmk 0 0 0 0) s m args below meth c H locs 0 0 (KQI G below args s A (wM G ad xr) rv 0 0) (F0 m 98 ls [.int v10]) := by
              intro H locs ls hw hl
              refine lv_istore_n (lv' := [(2, .int v10), (0, .ref (ad 0)), (3, .int v6)]) hx hb dX7_isConsistent_98 rfl hl (Nat.le_of_ble_eq_true rfl) rfl (fun ls hl => ?_)
              obtain ⟨v12, ev12⟩ : ∃ y : Int32, y = v6 + (1 : Int32) := ⟨_, rfl⟩
              refine lv_iinc (v := v12) (lv' := [(3, .int v12), (2, .int v10), (0, .ref (ad 0))]) hx hb dX7_isConsistent_99 hl (k := 2) rfl (by rw [ev12]; rfl) (Nat.le_of_ble_eq_true rfl) rfl (fun ls hl => ?_)
              have hf := qnm_k ev12 hf
              refine lv_goto (tgt := 57) hx hb dX7_isConsistent_102 rfl ?_
              exact ih7 v10 v12 _ _ _ hw (lv_sub hl [2, 1, 0] rfl) hf
            have hf := hq17
            refine lv_if_eq (tgt := 97) hx hb dX7_isConsistent_66 rfl (fun c13 => ?_) (fun c13 => ?_)
            · have hf := q_t c13 hf
              refine lv_iconst (v := 0) hx hb dX7_isConsistent_97 (by decide) ?_
              obtain rfl := q_s hf
              exact J11 _ _ _ hw (lv_sub hl [0, 2] rfl)
            · have hf := q_f c13 hf
              refine lv_aload_n hx hb dX7_isConsistent_69 rfl (lv_at hl 0 rfl) ?_
              refine M_g_0_13 F ws_in hw fl_X7_35 dX7_isConsistent_70 ?_
              refine lv_iload_n hx hb dX7_isConsistent_73 rfl (lv_at hl 2 rfl) ?_
              obtain ⟨g14, hf⟩ := qgd_e hf
              refine M_l_23 F hw g14 dX7_isConsistent_74 ?_
              refine lv_if_ne (tgt := 93) hx hb dX7_isConsistent_75 rfl (fun c15 => ?_) (fun c15 => ?_)
              · have hf := q_f c15 hf
                refine lv_iconst (v := 1) hx hb dX7_isConsistent_93 (by decide) ?_
                refine lv_goto (tgt := 98) hx hb dX7_isConsistent_94 rfl ?_
                obtain rfl := q_s hf
                exact J11 _ _ _ hw (lv_sub hl [0, 2] rfl)
              · have hf := q_t c15 hf
                refine lv_aload_n hx hb dX7_isConsistent_78 rfl (lv_at hl 0 rfl) ?_
                refine M_g_0_38 F ws_in hw fl_X7_81 dX7_isConsistent_79 ?_
                refine lv_iload_n hx hb dX7_isConsistent_82 rfl (lv_at hl 2 rfl) ?_
                refine M_l_48 F hw g14 dX7_isConsistent_83 ?_
                refine lv_aload_n hx hb dX7_isConsistent_84 rfl (lv_at hl 0 rfl) ?_
                refine M_g_0_39 F ws_in hw fl_X7_84 dX7_isConsistent_85 ?_
                refine lv_iload_n hx hb dX7_isConsistent_88 rfl (lv_at hl 2 rfl) ?_
                refine M_l_49 F hw g14 dX7_isConsistent_89 ?_
                refine lv_icmp_gt (tgt := 97) hx hb dX7_isConsistent_90 rfl (fun c16 => ?_) (fun c16 => ?_)
                · have hf := q_t c16 hf
                  refine lv_iconst (v := 0) hx hb dX7_isConsistent_97 (by decide) ?_
                  obtain rfl := q_s hf
                  exact J11 _ _ _ hw (lv_sub hl [0, 2] rfl)
                · have hf := q_f c16 hf
                  refine lv_iconst (v := 1) hx hb dX7_isConsistent_93 (by decide) ?_
                  refine lv_goto (tgt := 98) hx hb dX7_isConsistent_94 rfl ?_
                  obtain rfl := q_s hf
                  exact J11 _ _ _ hw (lv_sub hl [0, 2] rfl)
      exact L7 n v3 (0 : Int32) _ _ _ hw (lv_sub hl [2, 1, 0] rfl) hf
    have hf := hq19
    refine lv_icmp_ne (tgt := 53) hx hb dX7_isConsistent_46 rfl (fun c18 => ?_) (fun c18 => ?_)
    · have hf := q_f c18 hf
      refine lv_iconst (v := 0) hx hb dX7_isConsistent_53 (by decide) ?_
      obtain rfl := q_s hf
      exact J4 _ _ _ hw (lv_sub hl [0] rfl)
    · have hf := q_t c18 hf
      refine lv_iconst (v := 1) hx hb dX7_isConsistent_49 (by decide) ?_
      refine lv_goto (tgt := 54) hx hb dX7_isConsistent_50 rfl ?_
      obtain rfl := q_s hf
      exact J4 _ _ _ hw (lv_sub hl [0] rfl)
  have L23 : ∀ (m0 : Nat) (v21 : Int32) (v22 : Int32) (H : Heap) (locs : List Loc) (ls : Array Slot), Wd G (wM G ad x1) A s H locs → lv_has ls 4 [(0, .ref (ad 0)), (1, .int v21), (2, .int v22)] → f_X7_isConsistent_l9 x1 n m0 v21 v22 = some (rv, xr) → W p l e (rmk 0 0 0 0) s m args below meth c H locs 0 0 (KQI G below args s A (wM G ad xr) rv 0 0) (F0 m 9 ls []) := by
    intro m0
    induction m0 with
    | zero => intro v21 v22 H locs ls hw hl hf; cases hf
    | succ mL23 ih23 =>
      intro v21 v22 H locs ls hw hl hf
      unfold f_X7_isConsistent_l9 at hf
      refine lv_iload_n hx hb dX7_isConsistent_9 rfl (lv_at hl 2 rfl) ?_
      refine lv_aload_n hx hb dX7_isConsistent_10 rfl (lv_at hl 0 rfl) ?_
      refine M_g_0_1 F ws_in hw fl_X7_187 dX7_isConsistent_11 ?_
      refine lv_icmp_ge (tgt := 41) hx hb dX7_isConsistent_14 rfl (fun c24 => ?_) (fun c24 => ?_)
      · have hf := q_t c24 hf
        exact E20 v21 _ _ _ hw (lv_sub hl [0, 1] rfl) hf
      · have hf := q_f c24 hf
        refine lv_iload_n hx hb dX7_isConsistent_17 rfl (lv_at hl 1 rfl) ?_
        refine lv_aload_n hx hb dX7_isConsistent_18 rfl (lv_at hl 0 rfl) ?_
        refine M_g_0_2 F ws_in hw fl_X7_9 dX7_isConsistent_19 ?_
        refine lv_iload_n hx hb dX7_isConsistent_22 rfl (lv_at hl 2 rfl) ?_
        obtain ⟨g25, hf⟩ := qgd_e hf
        refine M_l_12 F hw g25 dX7_isConsistent_23 ?_
        refine lv_iconst (v := 2) hx hb dX7_isConsistent_24 (by decide) ?_
        obtain ⟨v26, hq31, hf⟩ := qbd_e hf
        have J27 : ∀ (H : Heap) (locs : List Loc) (ls : Array Slot), Wd G (wM G ad x1) A s H locs → lv_has ls 4 [(0, .ref (ad 0)), (2, .int v22)] → W p l e (rmk 0 0 0 0) s m args below meth c H locs 0 0 (KQI G below args s A (wM G ad xr) rv 0 0) (F0 m 33 ls [.int v26, .int v21]) := by
          intro H locs ls hw hl
          refine lv_iadd hx hb dX7_isConsistent_33 ?_
          refine lv_topi (fun v28 ev28 => ?_)
          have hf := qnm_k ev28 hf
          refine lv_istore_n (lv' := [(1, .int v28), (0, .ref (ad 0)), (2, .int v22)]) hx hb dX7_isConsistent_34 rfl hl (Nat.le_of_ble_eq_true rfl) rfl (fun ls hl => ?_)
          obtain ⟨v29, ev29⟩ : ∃ y : Int32, y = v22 + (1 : Int32) := ⟨_, rfl⟩
          refine lv_iinc (v := v29) (lv' := [(2, .int v29), (1, .int v28), (0, .ref (ad 0))]) hx hb dX7_isConsistent_35 hl (k := 2) rfl (by rw [ev29]; rfl) (Nat.le_of_ble_eq_true rfl) rfl (fun ls hl => ?_)
          have hf := qnm_k ev29 hf
          refine lv_goto (tgt := 9) hx hb dX7_isConsistent_38 rfl ?_
          exact ih23 v28 v29 _ _ _ hw (lv_sub hl [2, 1, 0] rfl) hf
        have hf := hq31
        refine lv_icmp_ne (tgt := 32) hx hb dX7_isConsistent_25 rfl (fun c30 => ?_) (fun c30 => ?_)
        · have hf := q_f c30 hf
          refine lv_iconst (v := 0) hx hb dX7_isConsistent_32 (by decide) ?_
          obtain rfl := q_s hf
          exact J27 _ _ _ hw (lv_sub hl [0, 2] rfl)
        · have hf := q_t c30 hf
          refine lv_iconst (v := 1) hx hb dX7_isConsistent_28 (by decide) ?_
          refine lv_goto (tgt := 33) hx hb dX7_isConsistent_29 rfl ?_
          obtain rfl := q_s hf
          exact J27 _ _ _ hw (lv_sub hl [0, 2] rfl)
  exact L23 n (0 : Int32) (0 : Int32) _ _ _ hw (lv_sub hl [2, 1, 0] rfl) hf
