def f_X7_isTermOf (n : Nat) (x : SX) (a1 : Int32) (a2 : Int32) (a3 : Int32) : Option (Int32) := (qbd (f_X7_in n a1 (0 : Int32) (3 : Int32)) fun r1 => (qbd (if r1 = 0 then some (0 : Int32) else (qbd (f_X7_in n a2 (0 : Int32) (60 : Int32)) fun r7 => (if r7 = 0 then some (0 : Int32) else (qbd (f_X7_in n a3 (0 : Int32) (99 : Int32)) fun r10 => (if r10 = 0 then some (0 : Int32) else (if (a2 + a3) ≤ 0 then some (0 : Int32) else some (1 : Int32))))))) fun v3 => (qgd (qz v3) (some v3))))
set_option maxHeartbeats 4000000 in
set_option maxRecDepth 100000 in
theorem t_X7_isTermOf {G : gG} {l : Launch} {ad : Nat → Nat} {n : Nat} {x : SX} {a1 : Int32} {a2 : Int32} {a3 : Int32} {rv : Int32} (hf : f_X7_isTermOf n x a1 a2 a3 = some rv) : MetI G l yX7_isTermOf cX7_isTermOf 4 (some .boolean) 1 0 0 22 [.ref (ad 0), .int a1, .int a2, .int a3] (wM G ad x) (wM G ad x) rv := by
  refine k_ofI (by decide) (Nat.le_of_ble_eq_true rfl) ?_
  intro p e s m args below meth c ls A F hr hlk hl hw
  have hx := F.1
  have hb := F.2.1
  have hl : lv_has ls 4 [(0, .ref (ad 0)), (1, .int a1), (2, .int a2), (3, .int a3)] := hl
  unfold f_X7_isTermOf at hf
  refine lv_iload_n hx hb dX7_isTermOf_0 rfl (lv_at hl 1 rfl) ?_
  refine lv_iconst (v := 0) hx hb dX7_isTermOf_1 (by decide) ?_
  refine lv_iconst (v := 3) hx hb dX7_isTermOf_2 (by decide) ?_
  obtain ⟨r1, h2, hf⟩ := qbd_e hf
  refine k_callPi (rest := []) (As := [.int a1, .int (0 : Int32), .int (3 : Int32)]) F ws_in (t_X7_in h2) cs_X7_in ml_X7_122 hw rfl hl.1 rfl (Nat.le_of_ble_eq_true rfl) ⟨Nat.le_of_ble_eq_true rfl, Nat.le_of_ble_eq_true rfl⟩ ⟨Nat.le_of_ble_eq_true rfl, Nat.le_of_ble_eq_true rfl⟩ dX7_isTermOf_3 (fun H locs hw => ?_)
  obtain ⟨v3, hq14, hf⟩ := qbd_e hf
  have J4 : ∀ (H : Heap) (locs : List Loc) (ls : Array Slot), Wd G (wM G ad x) A s H locs → lv_has ls 4 [] → W p l e (rmk 1 0 0 22) s m args below meth c H locs 0 0 (KQI G below args s A (wM G ad x) rv 0 0) (F0 m 40 ls [.int v3]) := by
    intro H locs ls hw hl
    obtain ⟨g5, hf⟩ := qgd_e hf
    obtain rfl := q_s hf
    exact k_zret F hr hlk hw (qz_n g5) (Nat.le_of_ble_eq_true rfl) (Nat.le_of_ble_eq_true rfl) dX7_isTermOf_40
  have hf := hq14
  refine lv_if_eq (tgt := 39) hx hb dX7_isTermOf_6 rfl (fun c6 => ?_) (fun c6 => ?_)
  · have hf := q_t c6 hf
    refine lv_iconst (v := 0) hx hb dX7_isTermOf_39 (by decide) ?_
    obtain rfl := q_s hf
    exact J4 _ _ _ hw (lv_sub hl [] rfl)
  · have hf := q_f c6 hf
    refine lv_iload_n hx hb dX7_isTermOf_9 rfl (lv_at hl 2 rfl) ?_
    refine lv_iconst (v := 0) hx hb dX7_isTermOf_10 (by decide) ?_
    refine lv_bipush (v := 60) hx hb dX7_isTermOf_11 (by decide) ?_
    obtain ⟨r7, h8, hf⟩ := qbd_e hf
    refine k_callPi (rest := []) (As := [.int a2, .int (0 : Int32), .int (60 : Int32)]) F ws_in (t_X7_in h8) cs_X7_in ml_X7_122 hw rfl hl.1 rfl (Nat.le_of_ble_eq_true rfl) ⟨Nat.le_of_ble_eq_true rfl, Nat.le_of_ble_eq_true rfl⟩ ⟨Nat.le_of_ble_eq_true rfl, Nat.le_of_ble_eq_true rfl⟩ dX7_isTermOf_13 (fun H locs hw => ?_)
    refine lv_if_eq (tgt := 39) hx hb dX7_isTermOf_16 rfl (fun c9 => ?_) (fun c9 => ?_)
    · have hf := q_t c9 hf
      refine lv_iconst (v := 0) hx hb dX7_isTermOf_39 (by decide) ?_
      obtain rfl := q_s hf
      exact J4 _ _ _ hw (lv_sub hl [] rfl)
    · have hf := q_f c9 hf
      refine lv_iload_n hx hb dX7_isTermOf_19 rfl (lv_at hl 3 rfl) ?_
      refine lv_iconst (v := 0) hx hb dX7_isTermOf_20 (by decide) ?_
      refine lv_bipush (v := 99) hx hb dX7_isTermOf_21 (by decide) ?_
      obtain ⟨r10, h11, hf⟩ := qbd_e hf
      refine k_callPi (rest := []) (As := [.int a3, .int (0 : Int32), .int (99 : Int32)]) F ws_in (t_X7_in h11) cs_X7_in ml_X7_122 hw rfl hl.1 rfl (Nat.le_of_ble_eq_true rfl) ⟨Nat.le_of_ble_eq_true rfl, Nat.le_of_ble_eq_true rfl⟩ ⟨Nat.le_of_ble_eq_true rfl, Nat.le_of_ble_eq_true rfl⟩ dX7_isTermOf_23 (fun H locs hw => ?_)
      refine lv_if_eq (tgt := 39) hx hb dX7_isTermOf_26 rfl (fun c12 => ?_) (fun c12 => ?_)
      · have hf := q_t c12 hf
        refine lv_iconst (v := 0) hx hb dX7_isTermOf_39 (by decide) ?_
        obtain rfl := q_s hf
        exact J4 _ _ _ hw (lv_sub hl [] rfl)
      · have hf := q_f c12 hf
        refine lv_iload_n hx hb dX7_isTermOf_29 rfl (lv_at hl 2 rfl) ?_
        refine lv_iload_n hx hb dX7_isTermOf_30 rfl (lv_at hl 3 rfl) ?_
        refine lv_iadd hx hb dX7_isTermOf_31 ?_
        refine lv_if_le (tgt := 39) hx hb dX7_isTermOf_32 rfl (fun c13 => ?_) (fun c13 => ?_)
        · have hf := q_t c13 hf
          refine lv_iconst (v := 0) hx hb dX7_isTermOf_39 (by decide) ?_
          obtain rfl := q_s hf
          exact J4 _ _ _ hw (lv_sub hl [] rfl)
        · have hf := q_f c13 hf
          refine lv_iconst (v := 1) hx hb dX7_isTermOf_35 (by decide) ?_
          refine lv_goto (tgt := 40) hx hb dX7_isTermOf_36 rfl ?_
          obtain rfl := q_s hf
          exact J4 _ _ _ hw (lv_sub hl [] rfl)
def f_X7_imposes (n : Nat) (x : SX) (a1 : Int32) (a2 : Int32) (a3 : Int32) (a4 : Int32) : Option (Int32 × SX) := (qnm (x.1 0 6) fun v1 => (qgd (qin v1 10) ((qnm (si x 17 v1.toNatClampNeg a2) fun x3 => (qnm (si x3 18 v1.toNatClampNeg a3) fun x4 => (qnm (si x4 19 v1.toNatClampNeg a4) fun x5 => (qnm (si x5 20 v1.toNatClampNeg (x5.1 0 1)) fun x6 => (qnm (si x6 21 v1.toNatClampNeg (x6.1 0 1)) fun x7 => (qnm (si x7 22 v1.toNatClampNeg a1) fun x8 => (qnm (si x8 0 6 ((x8.1 0 6) + (1 : Int32))) fun x9 => (qbd (f_X7_works n x9) fun x10 => some (v1, x10))))))))))))
set_option maxHeartbeats 4000000 in
set_option maxRecDepth 100000 in
theorem t_X7_imposes {G : gG} {l : Launch} {ad : Nat → Nat} {n : Nat} {x : SX} {a1 : Int32} {a2 : Int32} {a3 : Int32} {a4 : Int32} {rv : Int32} {xr : SX} (hf : f_X7_imposes n x a1 a2 a3 a4 = some (rv, xr)) : MetI G l yX7_imposes cX7_imposes 6 (some .int) 6 0 0 136 [.ref (ad 0), .int a1, .int a2, .int a3, .int a4] (wM G ad x) (wM G ad xr) rv := by
  refine k_ofI (by decide) (Nat.le_of_ble_eq_true rfl) ?_
  intro p e s m args below meth c ls A F hr hlk hl hw
  have hx := F.1
  have hb := F.2.1
  have hl : lv_has ls 6 [(0, .ref (ad 0)), (1, .int a1), (2, .int a2), (3, .int a3), (4, .int a4)] := hl
  unfold f_X7_imposes at hf
  refine lv_aload_n hx hb dX7_imposes_0 rfl (lv_at hl 0 rfl) ?_
  refine M_g_0_6 F ws_in hw fl_X7_140 dX7_imposes_1 ?_
  refine lv_topi (fun v1 ev1 => ?_)
  have hf := qnm_k ev1 hf
  refine lv_istore (lv' := [(5, .int v1), (0, .ref (ad 0)), (1, .int a1), (2, .int a2), (3, .int a3), (4, .int a4)]) hx hb dX7_imposes_4 hl (Nat.le_of_ble_eq_true rfl) rfl (fun ls hl => ?_)
  refine lv_aload_n hx hb dX7_imposes_6 rfl (lv_at hl 1 rfl) ?_
  refine M_g_0_7 F ws_in hw fl_X7_17 dX7_imposes_7 ?_
  refine lv_iload hx hb dX7_imposes_10 (lv_at hl 0 rfl) ?_
  refine lv_iload_n hx hb dX7_imposes_12 rfl (lv_at hl 3 rfl) ?_
  obtain ⟨g2, hf⟩ := qgd_e hf
  refine M_s_17 F hw g2 dX7_imposes_13 (fun x3 ex3 H locs hw => ?_)
  have hf := qnm_k ex3 hf
  refine lv_aload_n hx hb dX7_imposes_14 rfl (lv_at hl 1 rfl) ?_
  refine M_g_0_8 F ws_in hw fl_X7_20 dX7_imposes_15 ?_
  refine lv_iload hx hb dX7_imposes_18 (lv_at hl 0 rfl) ?_
  refine lv_iload_n hx hb dX7_imposes_20 rfl (lv_at hl 4 rfl) ?_
  refine M_s_18 F hw g2 dX7_imposes_21 (fun x4 ex4 H locs hw => ?_)
  have hf := qnm_k ex4 hf
  refine lv_aload_n hx hb dX7_imposes_22 rfl (lv_at hl 1 rfl) ?_
  refine M_g_0_9 F ws_in hw fl_X7_23 dX7_imposes_23 ?_
  refine lv_iload hx hb dX7_imposes_26 (lv_at hl 0 rfl) ?_
  refine lv_iload hx hb dX7_imposes_28 (lv_at hl 5 rfl) ?_
  refine M_s_19 F hw g2 dX7_imposes_30 (fun x5 ex5 H locs hw => ?_)
  have hf := qnm_k ex5 hf
  refine lv_aload_n hx hb dX7_imposes_31 rfl (lv_at hl 1 rfl) ?_
  refine M_g_0_10 F ws_in hw fl_X7_26 dX7_imposes_32 ?_
  refine lv_iload hx hb dX7_imposes_35 (lv_at hl 0 rfl) ?_
  refine lv_aload_n hx hb dX7_imposes_37 rfl (lv_at hl 1 rfl) ?_
  refine M_g_0_1 F ws_in hw fl_X7_187 dX7_imposes_38 ?_
  refine M_s_20 F hw g2 dX7_imposes_41 (fun x6 ex6 H locs hw => ?_)
  have hf := qnm_k ex6 hf
  refine lv_aload_n hx hb dX7_imposes_42 rfl (lv_at hl 1 rfl) ?_
  refine M_g_0_11 F ws_in hw fl_X7_29 dX7_imposes_43 ?_
  refine lv_iload hx hb dX7_imposes_46 (lv_at hl 0 rfl) ?_
  refine lv_aload_n hx hb dX7_imposes_48 rfl (lv_at hl 1 rfl) ?_
  refine M_g_0_1 F ws_in hw fl_X7_187 dX7_imposes_49 ?_
  refine M_s_21 F hw g2 dX7_imposes_52 (fun x7 ex7 H locs hw => ?_)
  have hf := qnm_k ex7 hf
  refine lv_aload_n hx hb dX7_imposes_53 rfl (lv_at hl 1 rfl) ?_
  refine M_g_0_12 F ws_in hw fl_X7_32 dX7_imposes_54 ?_
  refine lv_iload hx hb dX7_imposes_57 (lv_at hl 0 rfl) ?_
  refine lv_iload_n hx hb dX7_imposes_59 rfl (lv_at hl 2 rfl) ?_
  refine M_s_22 F hw g2 dX7_imposes_60 (fun x8 ex8 H locs hw => ?_)
  have hf := qnm_k ex8 hf
  refine lv_aload_n hx hb dX7_imposes_61 rfl (lv_at hl 1 rfl) ?_
  refine lv_dup hx hb dX7_imposes_62 rfl ?_
  refine M_g_0_6 F ws_in hw fl_X7_140 dX7_imposes_63 ?_
  refine lv_iconst (v := 1) hx hb dX7_imposes_66 (by decide) ?_
  refine lv_iadd hx hb dX7_imposes_67 ?_
  refine M_p_0_6 F ws_in hw fl_X7_140 dX7_imposes_68 (fun x9 ex9 H locs hw => ?_)
  have hf := qnm_k ex9 hf
  refine lv_aload_n hx hb dX7_imposes_71 rfl (lv_at hl 1 rfl) ?_
  obtain ⟨x10, h11, hf⟩ := qbd_e hf
  refine k_callVv' (rest := []) (As := []) F ws_in (t_X7_works h11) cv_X7_works ml_X7_206 hw 0 rfl rfl rfl hl.1 rfl (Nat.le_of_ble_eq_true rfl) ⟨Nat.le_of_ble_eq_true rfl, Nat.le_of_ble_eq_true rfl⟩ ⟨Nat.le_of_ble_eq_true rfl, Nat.le_of_ble_eq_true rfl⟩ dX7_imposes_72 (fun H locs hw => ?_)
  refine lv_iload hx hb dX7_imposes_75 (lv_at hl 0 rfl) ?_
  obtain ⟨rfl, rfl⟩ := q_s2 hf
  exact k_iret F hr hlk hw (Nat.le_of_ble_eq_true rfl) (Nat.le_of_ble_eq_true rfl) dX7_imposes_77
def f_X7_impose (n : Nat) (x : SX) (a1 : Int32) (a2 : Int32) (a3 : Int32) : Option (Int32 × SX) := (qbd (f_X7_isTermOf n x a1 a2 a3) fun r1 => (qbd (if r1 = 0 then some (1 : Int32) else (if (x.1 0 6) = (10 : Int32) then some (2 : Int32) else some (0 : Int32))) fun v3 => (qbd2 (f_X7_fails n x v3) fun r5 x6 => (if r5 = 0 then (qbd2 (f_X7_imposes n x6 (-1 : Int32) a1 a2 a3) fun r9 x10 => some (r9, x10)) else some ((0 : Int32), x6)))))
set_option maxHeartbeats 4000000 in
set_option maxRecDepth 100000 in
theorem t_X7_impose {G : gG} {l : Launch} {ad : Nat → Nat} {n : Nat} {x : SX} {a1 : Int32} {a2 : Int32} {a3 : Int32} {rv : Int32} {xr : SX} (hf : f_X7_impose n x a1 a2 a3 = some (rv, xr)) : MetI G l yX7_impose cX7_impose 4 (some .int) 7 0 0 161 [.ref (ad 0), .int a1, .int a2, .int a3] (wM G ad x) (wM G ad xr) rv := by
  refine k_ofI (by decide) (Nat.le_of_ble_eq_true rfl) ?_
  intro p e s m args below meth c ls A F hr hlk hl hw
  have hx := F.1
  have hb := F.2.1
  have hl : lv_has ls 4 [(0, .ref (ad 0)), (1, .int a1), (2, .int a2), (3, .int a3)] := hl
  unfold f_X7_impose at hf
  refine lv_aload_n hx hb dX7_impose_0 rfl (lv_at hl 0 rfl) ?_
  refine lv_aload_n hx hb dX7_impose_1 rfl (lv_at hl 0 rfl) ?_
  refine lv_iload_n hx hb dX7_impose_2 rfl (lv_at hl 1 rfl) ?_
  refine lv_iload_n hx hb dX7_impose_3 rfl (lv_at hl 2 rfl) ?_
  refine lv_iload_n hx hb dX7_impose_4 rfl (lv_at hl 3 rfl) ?_
  obtain ⟨r1, h2, hf⟩ := qbd_e hf
  refine k_callVi' (rest := [.ref (ad 0)]) (As := [.int a1, .int a2, .int a3]) F ws_in (t_X7_isTermOf h2) cv_X7_isTermOf ml_X7_209 hw 0 rfl rfl rfl hl.1 rfl (Nat.le_of_ble_eq_true rfl) ⟨Nat.le_of_ble_eq_true rfl, Nat.le_of_ble_eq_true rfl⟩ ⟨Nat.le_of_ble_eq_true rfl, Nat.le_of_ble_eq_true rfl⟩ dX7_impose_5 (fun H locs hw => ?_)
  obtain ⟨v3, hq14, hf⟩ := qbd_e hf
  have J4 : ∀ (H : Heap) (locs : List Loc) (ls : Array Slot), Wd G (wM G ad x) A s H locs → lv_has ls 4 [(0, .ref (ad 0)), (1, .int a1), (2, .int a2), (3, .int a3)] → W p l e (rmk 7 0 0 161) s m args below meth c H locs 0 0 (KQI G below args s A (wM G ad xr) rv 0 0) (F0 m 29 ls [.int v3, .ref (ad 0)]) := by
    intro H locs ls hw hl
    obtain ⟨r5, x6, h7, hf⟩ := qbd2_e hf
    refine k_callVi' (rest := []) (As := [.int v3]) F ws_in (t_X7_fails h7) cv_X7_fails ml_X7_126 hw 0 rfl rfl rfl hl.1 rfl (Nat.le_of_ble_eq_true rfl) ⟨Nat.le_of_ble_eq_true rfl, Nat.le_of_ble_eq_true rfl⟩ ⟨Nat.le_of_ble_eq_true rfl, Nat.le_of_ble_eq_true rfl⟩ dX7_impose_29 (fun H locs hw => ?_)
    refine lv_if_eq (tgt := 37) hx hb dX7_impose_32 rfl (fun c8 => ?_) (fun c8 => ?_)
    · have hf := q_t c8 hf
      refine lv_aload_n hx hb dX7_impose_37 rfl (lv_at hl 0 rfl) ?_
      refine lv_iconst (v := -1) hx hb dX7_impose_38 (by decide) ?_
      refine lv_iload_n hx hb dX7_impose_39 rfl (lv_at hl 1 rfl) ?_
      refine lv_iload_n hx hb dX7_impose_40 rfl (lv_at hl 2 rfl) ?_
      refine lv_iload_n hx hb dX7_impose_41 rfl (lv_at hl 3 rfl) ?_
      obtain ⟨r9, x10, h11, hf⟩ := qbd2_e hf
      refine k_callVi' (rest := []) (As := [.int (-1 : Int32), .int a1, .int a2, .int a3]) F ws_in (t_X7_imposes h11) cv_X7_imposes ml_X7_212 hw 0 rfl rfl rfl hl.1 rfl (Nat.le_of_ble_eq_true rfl) ⟨Nat.le_of_ble_eq_true rfl, Nat.le_of_ble_eq_true rfl⟩ ⟨Nat.le_of_ble_eq_true rfl, Nat.le_of_ble_eq_true rfl⟩ dX7_impose_42 (fun H locs hw => ?_)
      obtain ⟨rfl, rfl⟩ := q_s2 hf
      exact k_iret F hr hlk hw (Nat.le_of_ble_eq_true rfl) (Nat.le_of_ble_eq_true rfl) dX7_impose_45
    · have hf := q_f c8 hf
      refine lv_iconst (v := 0) hx hb dX7_impose_35 (by decide) ?_
      obtain ⟨rfl, rfl⟩ := q_s2 hf
      exact k_iret F hr hlk hw (Nat.le_of_ble_eq_true rfl) (Nat.le_of_ble_eq_true rfl) dX7_impose_36
  have hf := hq14
  refine lv_if_ne (tgt := 15) hx hb dX7_impose_8 rfl (fun c12 => ?_) (fun c12 => ?_)
  · have hf := q_f c12 hf
    refine lv_aload_n hx hb dX7_impose_15 rfl (lv_at hl 0 rfl) ?_
    refine M_g_0_6 F ws_in hw fl_X7_140 dX7_impose_16 ?_
    refine lv_bipush (v := 10) hx hb dX7_impose_19 (by decide) ?_
    refine lv_icmp_ne (tgt := 28) hx hb dX7_impose_21 rfl (fun c13 => ?_) (fun c13 => ?_)
    · have hf := q_f c13 hf
      refine lv_iconst (v := 0) hx hb dX7_impose_28 (by decide) ?_
      obtain rfl := q_s hf
      exact J4 _ _ _ hw (lv_sub hl [0, 1, 2, 3] rfl)
    · have hf := q_t c13 hf
      refine lv_iconst (v := 2) hx hb dX7_impose_24 (by decide) ?_
      refine lv_goto (tgt := 29) hx hb dX7_impose_25 rfl ?_
      obtain rfl := q_s hf
      exact J4 _ _ _ hw (lv_sub hl [0, 1, 2, 3] rfl)
  · have hf := q_t c12 hf
    refine lv_iconst (v := 1) hx hb dX7_impose_11 (by decide) ?_
    refine lv_goto (tgt := 29) hx hb dX7_impose_12 rfl ?_
    obtain rfl := q_s hf
    exact J4 _ _ _ hw (lv_sub hl [0, 1, 2, 3] rfl)
def f_X7_canFollow (n : Nat) (x : SX) (a1 : Int32) : Option (Int32) := (qbd (if (10 : Int32) ≤ (x.1 0 6) then some (0 : Int32) else (qbd (f_X7_isIn n x a1) fun r5 => (if r5 = 0 then some (0 : Int32) else (qgd (qin a1 10) ((if (x.1 48 a1.toNatClampNeg) ≤ (x.1 0 1) then some (0 : Int32) else some (1 : Int32))))))) fun v1 => (qgd (qz v1) (some v1)))
set_option maxHeartbeats 4000000 in
set_option maxRecDepth 100000 in
theorem t_X7_canFollow {G : gG} {l : Launch} {ad : Nat → Nat} {n : Nat} {x : SX} {a1 : Int32} {rv : Int32} (hf : f_X7_canFollow n x a1 = some rv) : MetI G l yX7_canFollow cX7_canFollow 2 (some .boolean) 1 0 0 21 [.ref (ad 0), .int a1] (wM G ad x) (wM G ad x) rv := by
  refine k_ofI (by decide) (Nat.le_of_ble_eq_true rfl) ?_
  intro p e s m args below meth c ls A F hr hlk hl hw
  have hx := F.1
  have hb := F.2.1
  have hl : lv_has ls 2 [(0, .ref (ad 0)), (1, .int a1)] := hl
  unfold f_X7_canFollow at hf
  refine lv_aload_n hx hb dX7_canFollow_0 rfl (lv_at hl 0 rfl) ?_
  refine M_g_0_6 F ws_in hw fl_X7_140 dX7_canFollow_1 ?_
  refine lv_bipush (v := 10) hx hb dX7_canFollow_4 (by decide) ?_
  obtain ⟨v1, hq10, hf⟩ := qbd_e hf
  have J2 : ∀ (H : Heap) (locs : List Loc) (ls : Array Slot), Wd G (wM G ad x) A s H locs → lv_has ls 2 [] → W p l e (rmk 1 0 0 21) s m args below meth c H locs 0 0 (KQI G below args s A (wM G ad x) rv 0 0) (F0 m 35 ls [.int v1]) := by
    intro H locs ls hw hl
    obtain ⟨g3, hf⟩ := qgd_e hf
    obtain rfl := q_s hf
    exact k_zret F hr hlk hw (qz_n g3) (Nat.le_of_ble_eq_true rfl) (Nat.le_of_ble_eq_true rfl) dX7_canFollow_35
  have hf := hq10
  refine lv_icmp_ge (tgt := 34) hx hb dX7_canFollow_6 rfl (fun c4 => ?_) (fun c4 => ?_)
  · have hf := q_t c4 hf
    refine lv_iconst (v := 0) hx hb dX7_canFollow_34 (by decide) ?_
    obtain rfl := q_s hf
    exact J2 _ _ _ hw (lv_sub hl [] rfl)
  · have hf := q_f c4 hf
    refine lv_aload_n hx hb dX7_canFollow_9 rfl (lv_at hl 0 rfl) ?_
    refine lv_iload_n hx hb dX7_canFollow_10 rfl (lv_at hl 1 rfl) ?_
    obtain ⟨r5, h6, hf⟩ := qbd_e hf
    refine k_callVi' (rest := []) (As := [.int a1]) F ws_in (t_X7_isIn h6) cv_X7_isIn ml_X7_165 hw 0 rfl rfl rfl hl.1 rfl (Nat.le_of_ble_eq_true rfl) ⟨Nat.le_of_ble_eq_true rfl, Nat.le_of_ble_eq_true rfl⟩ ⟨Nat.le_of_ble_eq_true rfl, Nat.le_of_ble_eq_true rfl⟩ dX7_canFollow_11 (fun H locs hw => ?_)
    refine lv_if_eq (tgt := 34) hx hb dX7_canFollow_14 rfl (fun c7 => ?_) (fun c7 => ?_)
    · have hf := q_t c7 hf
      refine lv_iconst (v := 0) hx hb dX7_canFollow_34 (by decide) ?_
      obtain rfl := q_s hf
      exact J2 _ _ _ hw (lv_sub hl [] rfl)
    · have hf := q_f c7 hf
      refine lv_aload_n hx hb dX7_canFollow_17 rfl (lv_at hl 0 rfl) ?_
      refine M_g_0_38 F ws_in hw fl_X7_81 dX7_canFollow_18 ?_
      refine lv_iload_n hx hb dX7_canFollow_21 rfl (lv_at hl 1 rfl) ?_
      obtain ⟨g8, hf⟩ := qgd_e hf
      refine M_l_48 F hw g8 dX7_canFollow_22 ?_
      refine lv_aload_n hx hb dX7_canFollow_23 rfl (lv_at hl 0 rfl) ?_
      refine M_g_0_1 F ws_in hw fl_X7_187 dX7_canFollow_24 ?_
      refine lv_icmp_le (tgt := 34) hx hb dX7_canFollow_27 rfl (fun c9 => ?_) (fun c9 => ?_)
      · have hf := q_t c9 hf
        refine lv_iconst (v := 0) hx hb dX7_canFollow_34 (by decide) ?_
        obtain rfl := q_s hf
        exact J2 _ _ _ hw (lv_sub hl [] rfl)
      · have hf := q_f c9 hf
        refine lv_iconst (v := 1) hx hb dX7_canFollow_30 (by decide) ?_
        refine lv_goto (tgt := 35) hx hb dX7_canFollow_31 rfl ?_
        obtain rfl := q_s hf
        exact J2 _ _ _ hw (lv_sub hl [] rfl)
def f_X7_imposeConsecutive (n : Nat) (x : SX) (a1 : Int32) (a2 : Int32) (a3 : Int32) (a4 : Int32) : Option (Int32 × SX) := (qbd (f_X7_isTerm n x a1) fun r1 => (qbd (if r1 = 0 then some (1 : Int32) else (qbd (f_X7_isTermOf n x a2 a3 a4) fun r13 => (if r13 = 0 then some (2 : Int32) else (qbd (f_X7_canFollow n x a1) fun r16 => (if r16 = 0 then some (3 : Int32) else some (0 : Int32)))))) fun v3 => (qbd2 (f_X7_fails n x v3) fun r5 x6 => (if r5 = 0 then (qbd2 (f_X7_imposes n x6 a1 a2 a3 a4) fun r9 x10 => some (r9, x10)) else some ((0 : Int32), x6)))))
set_option maxHeartbeats 4000000 in
set_option maxRecDepth 100000 in
theorem t_X7_imposeConsecutive {G : gG} {l : Launch} {ad : Nat → Nat} {n : Nat} {x : SX} {a1 : Int32} {a2 : Int32} {a3 : Int32} {a4 : Int32} {rv : Int32} {xr : SX} (hf : f_X7_imposeConsecutive n x a1 a2 a3 a4 = some (rv, xr)) : MetI G l yX7_imposeConsecutive cX7_imposeConsecutive 5 (some .int) 7 0 0 161 [.ref (ad 0), .int a1, .int a2, .int a3, .int a4] (wM G ad x) (wM G ad xr) rv := by
  refine k_ofI (by decide) (Nat.le_of_ble_eq_true rfl) ?_
  intro p e s m args below meth c ls A F hr hlk hl hw
  have hx := F.1
  have hb := F.2.1
  have hl : lv_has ls 5 [(0, .ref (ad 0)), (1, .int a1), (2, .int a2), (3, .int a3), (4, .int a4)] := hl
  unfold f_X7_imposeConsecutive at hf
  refine lv_aload_n hx hb dX7_imposeConsecutive_0 rfl (lv_at hl 0 rfl) ?_
  refine lv_aload_n hx hb dX7_imposeConsecutive_1 rfl (lv_at hl 0 rfl) ?_
  refine lv_iload_n hx hb dX7_imposeConsecutive_2 rfl (lv_at hl 1 rfl) ?_
  obtain ⟨r1, h2, hf⟩ := qbd_e hf
  refine k_callVi' (rest := [.ref (ad 0)]) (As := [.int a1]) F ws_in (t_X7_isTerm h2) cv_X7_isTerm ml_X7_216 hw 0 rfl rfl rfl hl.1 rfl (Nat.le_of_ble_eq_true rfl) ⟨Nat.le_of_ble_eq_true rfl, Nat.le_of_ble_eq_true rfl⟩ ⟨Nat.le_of_ble_eq_true rfl, Nat.le_of_ble_eq_true rfl⟩ dX7_imposeConsecutive_3 (fun H locs hw => ?_)
  obtain ⟨v3, hq19, hf⟩ := qbd_e hf
  have J4 : ∀ (H : Heap) (locs : List Loc) (ls : Array Slot), Wd G (wM G ad x) A s H locs → lv_has ls 5 [(0, .ref (ad 0)), (1, .int a1), (2, .int a2), (3, .int a3), (4, .int a4)] → W p l e (rmk 7 0 0 161) s m args below meth c H locs 0 0 (KQI G below args s A (wM G ad xr) rv 0 0) (F0 m 41 ls [.int v3, .ref (ad 0)]) := by
    intro H locs ls hw hl
    obtain ⟨r5, x6, h7, hf⟩ := qbd2_e hf
    refine k_callVi' (rest := []) (As := [.int v3]) F ws_in (t_X7_fails h7) cv_X7_fails ml_X7_126 hw 0 rfl rfl rfl hl.1 rfl (Nat.le_of_ble_eq_true rfl) ⟨Nat.le_of_ble_eq_true rfl, Nat.le_of_ble_eq_true rfl⟩ ⟨Nat.le_of_ble_eq_true rfl, Nat.le_of_ble_eq_true rfl⟩ dX7_imposeConsecutive_41 (fun H locs hw => ?_)
    refine lv_if_eq (tgt := 49) hx hb dX7_imposeConsecutive_44 rfl (fun c8 => ?_) (fun c8 => ?_)
    · have hf := q_t c8 hf
      refine lv_aload_n hx hb dX7_imposeConsecutive_49 rfl (lv_at hl 0 rfl) ?_
      refine lv_iload_n hx hb dX7_imposeConsecutive_50 rfl (lv_at hl 1 rfl) ?_
      refine lv_iload_n hx hb dX7_imposeConsecutive_51 rfl (lv_at hl 2 rfl) ?_
      refine lv_iload_n hx hb dX7_imposeConsecutive_52 rfl (lv_at hl 3 rfl) ?_
      refine lv_iload hx hb dX7_imposeConsecutive_53 (lv_at hl 4 rfl) ?_
      obtain ⟨r9, x10, h11, hf⟩ := qbd2_e hf
      refine k_callVi' (rest := []) (As := [.int a1, .int a2, .int a3, .int a4]) F ws_in (t_X7_imposes h11) cv_X7_imposes ml_X7_212 hw 0 rfl rfl rfl hl.1 rfl (Nat.le_of_ble_eq_true rfl) ⟨Nat.le_of_ble_eq_true rfl, Nat.le_of_ble_eq_true rfl⟩ ⟨Nat.le_of_ble_eq_true rfl, Nat.le_of_ble_eq_true rfl⟩ dX7_imposeConsecutive_55 (fun H locs hw => ?_)
      obtain ⟨rfl, rfl⟩ := q_s2 hf
      exact k_iret F hr hlk hw (Nat.le_of_ble_eq_true rfl) (Nat.le_of_ble_eq_true rfl) dX7_imposeConsecutive_58
    · have hf := q_f c8 hf
      refine lv_iconst (v := 0) hx hb dX7_imposeConsecutive_47 (by decide) ?_
      obtain ⟨rfl, rfl⟩ := q_s2 hf
      exact k_iret F hr hlk hw (Nat.le_of_ble_eq_true rfl) (Nat.le_of_ble_eq_true rfl) dX7_imposeConsecutive_48
  have hf := hq19
  refine lv_if_ne (tgt := 13) hx hb dX7_imposeConsecutive_6 rfl (fun c12 => ?_) (fun c12 => ?_)
  · have hf := q_f c12 hf
    refine lv_aload_n hx hb dX7_imposeConsecutive_13 rfl (lv_at hl 0 rfl) ?_
    refine lv_iload_n hx hb dX7_imposeConsecutive_14 rfl (lv_at hl 2 rfl) ?_
    refine lv_iload_n hx hb dX7_imposeConsecutive_15 rfl (lv_at hl 3 rfl) ?_
    refine lv_iload hx hb dX7_imposeConsecutive_16 (lv_at hl 4 rfl) ?_
    obtain ⟨r13, h14, hf⟩ := qbd_e hf
    refine k_callVi' (rest := [.ref (ad 0)]) (As := [.int a2, .int a3, .int a4]) F ws_in (t_X7_isTermOf h14) cv_X7_isTermOf ml_X7_209 hw 0 rfl rfl rfl hl.1 rfl (Nat.le_of_ble_eq_true rfl) ⟨Nat.le_of_ble_eq_true rfl, Nat.le_of_ble_eq_true rfl⟩ ⟨Nat.le_of_ble_eq_true rfl, Nat.le_of_ble_eq_true rfl⟩ dX7_imposeConsecutive_18 (fun H locs hw => ?_)
    refine lv_if_ne (tgt := 28) hx hb dX7_imposeConsecutive_21 rfl (fun c15 => ?_) (fun c15 => ?_)
    · have hf := q_f c15 hf
      refine lv_aload_n hx hb dX7_imposeConsecutive_28 rfl (lv_at hl 0 rfl) ?_
      refine lv_iload_n hx hb dX7_imposeConsecutive_29 rfl (lv_at hl 1 rfl) ?_
      obtain ⟨r16, h17, hf⟩ := qbd_e hf
      refine k_callVi' (rest := [.ref (ad 0)]) (As := [.int a1]) F ws_in (t_X7_canFollow h17) cv_X7_canFollow ml_X7_219 hw 0 rfl rfl rfl hl.1 rfl (Nat.le_of_ble_eq_true rfl) ⟨Nat.le_of_ble_eq_true rfl, Nat.le_of_ble_eq_true rfl⟩ ⟨Nat.le_of_ble_eq_true rfl, Nat.le_of_ble_eq_true rfl⟩ dX7_imposeConsecutive_30 (fun H locs hw => ?_)
      refine lv_if_eq (tgt := 40) hx hb dX7_imposeConsecutive_33 rfl (fun c18 => ?_) (fun c18 => ?_)
      · have hf := q_t c18 hf
        refine lv_iconst (v := 3) hx hb dX7_imposeConsecutive_40 (by decide) ?_
        obtain rfl := q_s hf
        exact J4 _ _ _ hw (lv_sub hl [0, 1, 2, 3, 4] rfl)
      · have hf := q_f c18 hf
        refine lv_iconst (v := 0) hx hb dX7_imposeConsecutive_36 (by decide) ?_
        refine lv_goto (tgt := 41) hx hb dX7_imposeConsecutive_37 rfl ?_
        obtain rfl := q_s hf
        exact J4 _ _ _ hw (lv_sub hl [0, 1, 2, 3, 4] rfl)
    · have hf := q_t c15 hf
      refine lv_iconst (v := 2) hx hb dX7_imposeConsecutive_24 (by decide) ?_
      refine lv_goto (tgt := 41) hx hb dX7_imposeConsecutive_25 rfl ?_
      obtain rfl := q_s hf
      exact J4 _ _ _ hw (lv_sub hl [0, 1, 2, 3, 4] rfl)
  · have hf := q_t c12 hf
    refine lv_iconst (v := 1) hx hb dX7_imposeConsecutive_9 (by decide) ?_
    refine lv_goto (tgt := 41) hx hb dX7_imposeConsecutive_10 rfl ?_
    obtain rfl := q_s hf
    exact J4 _ _ _ hw (lv_sub hl [0, 1, 2, 3, 4] rfl)
def f_X7_canHaveRemand (n : Nat) (x : SX) (a1 : Int32) : Option (Int32) := (qbd (f_X7_isIn n x a1) fun r1 => (qbd (if r1 = 0 then some (0 : Int32) else (qgd (qin a1 10) ((if (x.1 20 a1.toNatClampNeg) = (x.1 0 1) then (if (8 : Int32) ≤ (x.1 0 14) then some (0 : Int32) else some (1 : Int32)) else some (0 : Int32))))) fun v3 => (qgd (qz v3) (some v3))))
set_option maxHeartbeats 4000000 in
set_option maxRecDepth 100000 in
theorem t_X7_canHaveRemand {G : gG} {l : Launch} {ad : Nat → Nat} {n : Nat} {x : SX} {a1 : Int32} {rv : Int32} (hf : f_X7_canHaveRemand n x a1 = some rv) : MetI G l yX7_canHaveRemand cX7_canHaveRemand 2 (some .boolean) 1 0 0 21 [.ref (ad 0), .int a1] (wM G ad x) (wM G ad x) rv := by
  refine k_ofI (by decide) (Nat.le_of_ble_eq_true rfl) ?_
  intro p e s m args below meth c ls A F hr hlk hl hw
  have hx := F.1
  have hb := F.2.1
  have hl : lv_has ls 2 [(0, .ref (ad 0)), (1, .int a1)] := hl
  unfold f_X7_canHaveRemand at hf
  refine lv_aload_n hx hb dX7_canHaveRemand_0 rfl (lv_at hl 0 rfl) ?_
  refine lv_iload_n hx hb dX7_canHaveRemand_1 rfl (lv_at hl 1 rfl) ?_
  obtain ⟨r1, h2, hf⟩ := qbd_e hf
  refine k_callVi' (rest := []) (As := [.int a1]) F ws_in (t_X7_isIn h2) cv_X7_isIn ml_X7_165 hw 0 rfl rfl rfl hl.1 rfl (Nat.le_of_ble_eq_true rfl) ⟨Nat.le_of_ble_eq_true rfl, Nat.le_of_ble_eq_true rfl⟩ ⟨Nat.le_of_ble_eq_true rfl, Nat.le_of_ble_eq_true rfl⟩ dX7_canHaveRemand_2 (fun H locs hw => ?_)
  obtain ⟨v3, hq10, hf⟩ := qbd_e hf
  have J4 : ∀ (H : Heap) (locs : List Loc) (ls : Array Slot), Wd G (wM G ad x) A s H locs → lv_has ls 2 [] → W p l e (rmk 1 0 0 21) s m args below meth c H locs 0 0 (KQI G below args s A (wM G ad x) rv 0 0) (F0 m 35 ls [.int v3]) := by
    intro H locs ls hw hl
    obtain ⟨g5, hf⟩ := qgd_e hf
    obtain rfl := q_s hf
    exact k_zret F hr hlk hw (qz_n g5) (Nat.le_of_ble_eq_true rfl) (Nat.le_of_ble_eq_true rfl) dX7_canHaveRemand_35
  have hf := hq10
  refine lv_if_eq (tgt := 34) hx hb dX7_canHaveRemand_5 rfl (fun c6 => ?_) (fun c6 => ?_)
  · have hf := q_t c6 hf
    refine lv_iconst (v := 0) hx hb dX7_canHaveRemand_34 (by decide) ?_
    obtain rfl := q_s hf
    exact J4 _ _ _ hw (lv_sub hl [] rfl)
  · have hf := q_f c6 hf
    refine lv_aload_n hx hb dX7_canHaveRemand_8 rfl (lv_at hl 0 rfl) ?_
    refine M_g_0_10 F ws_in hw fl_X7_26 dX7_canHaveRemand_9 ?_
    refine lv_iload_n hx hb dX7_canHaveRemand_12 rfl (lv_at hl 1 rfl) ?_
    obtain ⟨g7, hf⟩ := qgd_e hf
    refine M_l_20 F hw g7 dX7_canHaveRemand_13 ?_
    refine lv_aload_n hx hb dX7_canHaveRemand_14 rfl (lv_at hl 0 rfl) ?_
    refine M_g_0_1 F ws_in hw fl_X7_187 dX7_canHaveRemand_15 ?_
    refine lv_icmp_ne (tgt := 34) hx hb dX7_canHaveRemand_18 rfl (fun c8 => ?_) (fun c8 => ?_)
    · have hf := q_f c8 hf
      refine lv_iconst (v := 0) hx hb dX7_canHaveRemand_34 (by decide) ?_
      obtain rfl := q_s hf
      exact J4 _ _ _ hw (lv_sub hl [] rfl)
    · have hf := q_t c8 hf
      refine lv_aload_n hx hb dX7_canHaveRemand_21 rfl (lv_at hl 0 rfl) ?_
      refine M_g_0_14 F ws_in hw fl_X7_143 dX7_canHaveRemand_22 ?_
      refine lv_bipush (v := 8) hx hb dX7_canHaveRemand_25 (by decide) ?_
      refine lv_icmp_ge (tgt := 34) hx hb dX7_canHaveRemand_27 rfl (fun c9 => ?_) (fun c9 => ?_)
      · have hf := q_t c9 hf
        refine lv_iconst (v := 0) hx hb dX7_canHaveRemand_34 (by decide) ?_
        obtain rfl := q_s hf
        exact J4 _ _ _ hw (lv_sub hl [] rfl)
      · have hf := q_f c9 hf
        refine lv_iconst (v := 1) hx hb dX7_canHaveRemand_30 (by decide) ?_
        refine lv_goto (tgt := 35) hx hb dX7_canHaveRemand_31 rfl ?_
        obtain rfl := q_s hf
        exact J4 _ _ _ hw (lv_sub hl [] rfl)
def f_X7_addRemand (n : Nat) (x : SX) (a1 : Int32) (a2 : Int32) (a3 : Int32) : Option (Int32 × SX) := (qbd (if a2 < 0 then some (0 : Int32) else (if a3 < a2 then some (0 : Int32) else (if (x.1 0 1) ≤ a3 then some (0 : Int32) else some (1 : Int32)))) fun v1 => (qbd (f_X7_isTerm n x a1) fun r3 => (qbd (if r3 = 0 then some (1 : Int32) else (if v1 = 0 then some (2 : Int32) else (qbd (f_X7_canHaveRemand n x a1) fun r25 => (if r25 = 0 then some (3 : Int32) else some (0 : Int32))))) fun v5 => (qbd2 (f_X7_fails n x v5) fun r7 x8 => (if r7 = 0 then (qgd (qin (x8.1 0 14) 8) ((qnm (si x8 25 (x8.1 0 14).toNatClampNeg a1) fun x12 => (qgd (qin (x12.1 0 14) 8) ((qnm (si x12 26 (x12.1 0 14).toNatClampNeg a2) fun x14 => (qgd (qin (x14.1 0 14) 8) ((qnm (si x14 27 (x14.1 0 14).toNatClampNeg a3) fun x16 => (qnm (si x16 0 14 ((x16.1 0 14) + (1 : Int32))) fun x17 => (qbd (f_X7_works n x17) fun x18 => (qbd (f_X7_bounds n x18) fun x20 => (qgd (qin a1 10) (some ((x20.1 46 a1.toNatClampNeg), x20))))))))))))))) else some ((0 : Int32), x8))))))
set_option maxHeartbeats 4000000 in
set_option maxRecDepth 100000 in
theorem t_X7_addRemand {G : gG} {l : Launch} {ad : Nat → Nat} {n : Nat} {x : SX} {a1 : Int32} {a2 : Int32} {a3 : Int32} {rv : Int32} {xr : SX} (hf : f_X7_addRemand n x a1 a2 a3 = some (rv, xr)) : MetI G l yX7_addRemand cX7_addRemand 5 (some .int) 6 0 0 136 [.ref (ad 0), .int a1, .int a2, .int a3] (wM G ad x) (wM G ad xr) rv := by
  refine k_ofI (by decide) (Nat.le_of_ble_eq_true rfl) ?_
  intro p e s m args below meth c ls A F hr hlk hl hw
  have hx := F.1
  have hb := F.2.1
  have hl : lv_has ls 5 [(0, .ref (ad 0)), (1, .int a1), (2, .int a2), (3, .int a3)] := hl
  unfold f_X7_addRemand at hf
  refine lv_iload_n hx hb dX7_addRemand_0 rfl (lv_at hl 2 rfl) ?_
  obtain ⟨v1, hq32, hf⟩ := qbd_e hf
  have J2 : ∀ (H : Heap) (locs : List Loc) (ls : Array Slot), Wd G (wM G ad x) A s H locs → lv_has ls 5 [(0, .ref (ad 0)), (1, .int a1), (2, .int a2), (3, .int a3)] → W p l e (rmk 6 0 0 136) s m args below meth c H locs 0 0 (KQI G below args s A (wM G ad xr) rv 0 0) (F0 m 22 ls [.int v1]) := by
    intro H locs ls hw hl
    refine lv_istore (lv' := [(4, .int v1), (0, .ref (ad 0)), (1, .int a1), (2, .int a2), (3, .int a3)]) hx hb dX7_addRemand_22 hl (Nat.le_of_ble_eq_true rfl) rfl (fun ls hl => ?_)
    refine lv_aload_n hx hb dX7_addRemand_24 rfl (lv_at hl 1 rfl) ?_
    refine lv_aload_n hx hb dX7_addRemand_25 rfl (lv_at hl 1 rfl) ?_
    refine lv_iload_n hx hb dX7_addRemand_26 rfl (lv_at hl 2 rfl) ?_
    obtain ⟨r3, h4, hf⟩ := qbd_e hf
    refine k_callVi' (rest := [.ref (ad 0)]) (As := [.int a1]) F ws_in (t_X7_isTerm h4) cv_X7_isTerm ml_X7_216 hw 0 rfl rfl rfl hl.1 rfl (Nat.le_of_ble_eq_true rfl) ⟨Nat.le_of_ble_eq_true rfl, Nat.le_of_ble_eq_true rfl⟩ ⟨Nat.le_of_ble_eq_true rfl, Nat.le_of_ble_eq_true rfl⟩ dX7_addRemand_27 (fun H locs hw => ?_)
    obtain ⟨v5, hq28, hf⟩ := qbd_e hf
    have J6 : ∀ (H : Heap) (locs : List Loc) (ls : Array Slot), Wd G (wM G ad x) A s H locs → lv_has ls 5 [(0, .ref (ad 0)), (1, .int a1), (2, .int a2), (3, .int a3)] → W p l e (rmk 6 0 0 136) s m args below meth c H locs 0 0 (KQI G below args s A (wM G ad xr) rv 0 0) (F0 m 59 ls [.int v5, .ref (ad 0)]) := by
      intro H locs ls hw hl
      obtain ⟨r7, x8, h9, hf⟩ := qbd2_e hf
      refine k_callVi' (rest := []) (As := [.int v5]) F ws_in (t_X7_fails h9) cv_X7_fails ml_X7_126 hw 0 rfl rfl rfl hl.1 rfl (Nat.le_of_ble_eq_true rfl) ⟨Nat.le_of_ble_eq_true rfl, Nat.le_of_ble_eq_true rfl⟩ ⟨Nat.le_of_ble_eq_true rfl, Nat.le_of_ble_eq_true rfl⟩ dX7_addRemand_59 (fun H locs hw => ?_)
      refine lv_if_eq (tgt := 67) hx hb dX7_addRemand_62 rfl (fun c10 => ?_) (fun c10 => ?_)
      · have hf := q_t c10 hf
        refine lv_aload_n hx hb dX7_addRemand_67 rfl (lv_at hl 0 rfl) ?_
        refine M_g_0_15 F ws_in hw fl_X7_39 dX7_addRemand_68 ?_
        refine lv_aload_n hx hb dX7_addRemand_71 rfl (lv_at hl 0 rfl) ?_
        refine M_g_0_14 F ws_in hw fl_X7_143 dX7_addRemand_72 ?_
        refine lv_iload_n hx hb dX7_addRemand_75 rfl (lv_at hl 1 rfl) ?_
        obtain ⟨g11, hf⟩ := qgd_e hf
        refine M_s_25 F hw g11 dX7_addRemand_76 (fun x12 ex12 H locs hw => ?_)
        have hf := qnm_k ex12 hf
        refine lv_aload_n hx hb dX7_addRemand_77 rfl (lv_at hl 0 rfl) ?_
        refine M_g_0_16 F ws_in hw fl_X7_42 dX7_addRemand_78 ?_
        refine lv_aload_n hx hb dX7_addRemand_81 rfl (lv_at hl 0 rfl) ?_
        refine M_g_0_14 F ws_in hw fl_X7_143 dX7_addRemand_82 ?_
        refine lv_iload_n hx hb dX7_addRemand_85 rfl (lv_at hl 2 rfl) ?_
        obtain ⟨g13, hf⟩ := qgd_e hf
        refine M_s_26 F hw g13 dX7_addRemand_86 (fun x14 ex14 H locs hw => ?_)
        have hf := qnm_k ex14 hf
        refine lv_aload_n hx hb dX7_addRemand_87 rfl (lv_at hl 0 rfl) ?_
        refine M_g_0_17 F ws_in hw fl_X7_45 dX7_addRemand_88 ?_
        refine lv_aload_n hx hb dX7_addRemand_91 rfl (lv_at hl 0 rfl) ?_
        refine M_g_0_14 F ws_in hw fl_X7_143 dX7_addRemand_92 ?_
        refine lv_iload_n hx hb dX7_addRemand_95 rfl (lv_at hl 3 rfl) ?_
        obtain ⟨g15, hf⟩ := qgd_e hf
        refine M_s_27 F hw g15 dX7_addRemand_96 (fun x16 ex16 H locs hw => ?_)
        have hf := qnm_k ex16 hf
        refine lv_aload_n hx hb dX7_addRemand_97 rfl (lv_at hl 0 rfl) ?_
        refine lv_dup hx hb dX7_addRemand_98 rfl ?_
        refine M_g_0_14 F ws_in hw fl_X7_143 dX7_addRemand_99 ?_
        refine lv_iconst (v := 1) hx hb dX7_addRemand_102 (by decide) ?_
        refine lv_iadd hx hb dX7_addRemand_103 ?_
        refine M_p_0_14 F ws_in hw fl_X7_143 dX7_addRemand_104 (fun x17 ex17 H locs hw => ?_)
        have hf := qnm_k ex17 hf
        refine lv_aload_n hx hb dX7_addRemand_107 rfl (lv_at hl 0 rfl) ?_
        obtain ⟨x18, h19, hf⟩ := qbd_e hf
        refine k_callVv' (rest := []) (As := []) F ws_in (t_X7_works h19) cv_X7_works ml_X7_206 hw 0 rfl rfl rfl hl.1 rfl (Nat.le_of_ble_eq_true rfl) ⟨Nat.le_of_ble_eq_true rfl, Nat.le_of_ble_eq_true rfl⟩ ⟨Nat.le_of_ble_eq_true rfl, Nat.le_of_ble_eq_true rfl⟩ dX7_addRemand_108 (fun H locs hw => ?_)
        refine lv_aload_n hx hb dX7_addRemand_111 rfl (lv_at hl 0 rfl) ?_
        obtain ⟨x20, h21, hf⟩ := qbd_e hf
        refine k_callVv' (rest := []) (As := []) F ws_in (t_X7_bounds h21) cv_X7_bounds ml_X7_225 hw 0 rfl rfl rfl hl.1 rfl (Nat.le_of_ble_eq_true rfl) ⟨Nat.le_of_ble_eq_true rfl, Nat.le_of_ble_eq_true rfl⟩ ⟨Nat.le_of_ble_eq_true rfl, Nat.le_of_ble_eq_true rfl⟩ dX7_addRemand_112 (fun H locs hw => ?_)
        refine lv_aload_n hx hb dX7_addRemand_115 rfl (lv_at hl 0 rfl) ?_
        refine M_g_0_36 F ws_in hw fl_X7_75 dX7_addRemand_116 ?_
        refine lv_iload_n hx hb dX7_addRemand_119 rfl (lv_at hl 1 rfl) ?_
        obtain ⟨g22, hf⟩ := qgd_e hf
        refine M_l_46 F hw g22 dX7_addRemand_120 ?_
        obtain ⟨rfl, rfl⟩ := q_s2 hf
        exact k_iret F hr hlk hw (Nat.le_of_ble_eq_true rfl) (Nat.le_of_ble_eq_true rfl) dX7_addRemand_121
      · have hf := q_f c10 hf
        refine lv_iconst (v := 0) hx hb dX7_addRemand_65 (by decide) ?_
        obtain ⟨rfl, rfl⟩ := q_s2 hf
        exact k_iret F hr hlk hw (Nat.le_of_ble_eq_true rfl) (Nat.le_of_ble_eq_true rfl) dX7_addRemand_66
    have hf := hq28
    refine lv_if_ne (tgt := 37) hx hb dX7_addRemand_30 rfl (fun c23 => ?_) (fun c23 => ?_)
    · have hf := q_f c23 hf
      refine lv_iload hx hb dX7_addRemand_37 (lv_at hl 0 rfl) ?_
      refine lv_if_ne (tgt := 46) hx hb dX7_addRemand_39 rfl (fun c24 => ?_) (fun c24 => ?_)
      · have hf := q_f c24 hf
        refine lv_aload_n hx hb dX7_addRemand_46 rfl (lv_at hl 1 rfl) ?_
        refine lv_iload_n hx hb dX7_addRemand_47 rfl (lv_at hl 2 rfl) ?_
        obtain ⟨r25, h26, hf⟩ := qbd_e hf
        refine k_callVi' (rest := [.ref (ad 0)]) (As := [.int a1]) F ws_in (t_X7_canHaveRemand h26) cv_X7_canHaveRemand ml_X7_222 hw 0 rfl rfl rfl hl.1 rfl (Nat.le_of_ble_eq_true rfl) ⟨Nat.le_of_ble_eq_true rfl, Nat.le_of_ble_eq_true rfl⟩ ⟨Nat.le_of_ble_eq_true rfl, Nat.le_of_ble_eq_true rfl⟩ dX7_addRemand_48 (fun H locs hw => ?_)
        refine lv_if_eq (tgt := 58) hx hb dX7_addRemand_51 rfl (fun c27 => ?_) (fun c27 => ?_)
        · have hf := q_t c27 hf
          refine lv_iconst (v := 3) hx hb dX7_addRemand_58 (by decide) ?_
          obtain rfl := q_s hf
          exact J6 _ _ _ hw (lv_sub hl [1, 2, 3, 4] rfl)
        · have hf := q_f c27 hf
          refine lv_iconst (v := 0) hx hb dX7_addRemand_54 (by decide) ?_
          refine lv_goto (tgt := 59) hx hb dX7_addRemand_55 rfl ?_
          obtain rfl := q_s hf
          exact J6 _ _ _ hw (lv_sub hl [1, 2, 3, 4] rfl)
      · have hf := q_t c24 hf
        refine lv_iconst (v := 2) hx hb dX7_addRemand_42 (by decide) ?_
        refine lv_goto (tgt := 59) hx hb dX7_addRemand_43 rfl ?_
        obtain rfl := q_s hf
        exact J6 _ _ _ hw (lv_sub hl [1, 2, 3, 4] rfl)
    · have hf := q_t c23 hf
      refine lv_iconst (v := 1) hx hb dX7_addRemand_33 (by decide) ?_
      refine lv_goto (tgt := 59) hx hb dX7_addRemand_34 rfl ?_
      obtain rfl := q_s hf
      exact J6 _ _ _ hw (lv_sub hl [1, 2, 3, 4] rfl)
  have hf := hq32
  refine lv_if_lt (tgt := 21) hx hb dX7_addRemand_1 rfl (fun c29 => ?_) (fun c29 => ?_)
  · have hf := q_t c29 hf
    refine lv_iconst (v := 0) hx hb dX7_addRemand_21 (by decide) ?_
    obtain rfl := q_s hf
    exact J2 _ _ _ hw (lv_sub hl [0, 1, 2, 3] rfl)
  · have hf := q_f c29 hf
    refine lv_iload_n hx hb dX7_addRemand_4 rfl (lv_at hl 3 rfl) ?_
    refine lv_iload_n hx hb dX7_addRemand_5 rfl (lv_at hl 2 rfl) ?_
    refine lv_icmp_lt (tgt := 21) hx hb dX7_addRemand_6 rfl (fun c30 => ?_) (fun c30 => ?_)
    · have hf := q_t c30 hf
      refine lv_iconst (v := 0) hx hb dX7_addRemand_21 (by decide) ?_
      obtain rfl := q_s hf
      exact J2 _ _ _ hw (lv_sub hl [0, 1, 2, 3] rfl)
    · have hf := q_f c30 hf
      refine lv_iload_n hx hb dX7_addRemand_9 rfl (lv_at hl 3 rfl) ?_
      refine lv_aload_n hx hb dX7_addRemand_10 rfl (lv_at hl 0 rfl) ?_
      refine M_g_0_1 F ws_in hw fl_X7_187 dX7_addRemand_11 ?_
      refine lv_icmp_ge (tgt := 21) hx hb dX7_addRemand_14 rfl (fun c31 => ?_) (fun c31 => ?_)
      · have hf := q_t c31 hf
        refine lv_iconst (v := 0) hx hb dX7_addRemand_21 (by decide) ?_
        obtain rfl := q_s hf
        exact J2 _ _ _ hw (lv_sub hl [0, 1, 2, 3] rfl)
      · have hf := q_f c31 hf
        refine lv_iconst (v := 1) hx hb dX7_addRemand_17 (by decide) ?_
        refine lv_goto (tgt := 22) hx hb dX7_addRemand_18 rfl ?_
        obtain rfl := q_s hf
        exact J2 _ _ _ hw (lv_sub hl [0, 1, 2, 3] rfl)
def f_X7_isNext (n : Nat) (x : SX) (a1 : Int32) (a2 : Int32) : Option (Int32) := (qbd (f_X7_isIn n x a1) fun r1 => (qbd (if r1 = 0 then some (0 : Int32) else (qgd (qin a1 10) ((if (x.1 22 a1.toNatClampNeg) = a2 then some (1 : Int32) else some (0 : Int32))))) fun v3 => (qgd (qz v3) (some v3))))
set_option maxHeartbeats 4000000 in
set_option maxRecDepth 100000 in
theorem t_X7_isNext {G : gG} {l : Launch} {ad : Nat → Nat} {n : Nat} {x : SX} {a1 : Int32} {a2 : Int32} {rv : Int32} (hf : f_X7_isNext n x a1 a2 = some rv) : MetI G l yX7_isNext cX7_isNext 3 (some .boolean) 1 0 0 21 [.ref (ad 0), .int a1, .int a2] (wM G ad x) (wM G ad x) rv := by
  refine k_ofI (by decide) (Nat.le_of_ble_eq_true rfl) ?_
  intro p e s m args below meth c ls A F hr hlk hl hw
  have hx := F.1
  have hb := F.2.1
  have hl : lv_has ls 3 [(0, .ref (ad 0)), (1, .int a1), (2, .int a2)] := hl
  unfold f_X7_isNext at hf
  refine lv_aload_n hx hb dX7_isNext_0 rfl (lv_at hl 0 rfl) ?_
  refine lv_iload_n hx hb dX7_isNext_1 rfl (lv_at hl 1 rfl) ?_
  obtain ⟨r1, h2, hf⟩ := qbd_e hf
  refine k_callVi' (rest := []) (As := [.int a1]) F ws_in (t_X7_isIn h2) cv_X7_isIn ml_X7_165 hw 0 rfl rfl rfl hl.1 rfl (Nat.le_of_ble_eq_true rfl) ⟨Nat.le_of_ble_eq_true rfl, Nat.le_of_ble_eq_true rfl⟩ ⟨Nat.le_of_ble_eq_true rfl, Nat.le_of_ble_eq_true rfl⟩ dX7_isNext_2 (fun H locs hw => ?_)
  obtain ⟨v3, hq9, hf⟩ := qbd_e hf
  have J4 : ∀ (H : Heap) (locs : List Loc) (ls : Array Slot), Wd G (wM G ad x) A s H locs → lv_has ls 3 [] → W p l e (rmk 1 0 0 21) s m args below meth c H locs 0 0 (KQI G below args s A (wM G ad x) rv 0 0) (F0 m 23 ls [.int v3]) := by
    intro H locs ls hw hl
    obtain ⟨g5, hf⟩ := qgd_e hf
    obtain rfl := q_s hf
    exact k_zret F hr hlk hw (qz_n g5) (Nat.le_of_ble_eq_true rfl) (Nat.le_of_ble_eq_true rfl) dX7_isNext_23
  have hf := hq9
  refine lv_if_eq (tgt := 22) hx hb dX7_isNext_5 rfl (fun c6 => ?_) (fun c6 => ?_)
  · have hf := q_t c6 hf
    refine lv_iconst (v := 0) hx hb dX7_isNext_22 (by decide) ?_
    obtain rfl := q_s hf
    exact J4 _ _ _ hw (lv_sub hl [] rfl)
  · have hf := q_f c6 hf
    refine lv_aload_n hx hb dX7_isNext_8 rfl (lv_at hl 0 rfl) ?_
    refine M_g_0_12 F ws_in hw fl_X7_32 dX7_isNext_9 ?_
    refine lv_iload_n hx hb dX7_isNext_12 rfl (lv_at hl 1 rfl) ?_
    obtain ⟨g7, hf⟩ := qgd_e hf
    refine M_l_22 F hw g7 dX7_isNext_13 ?_
    refine lv_iload_n hx hb dX7_isNext_14 rfl (lv_at hl 2 rfl) ?_
    refine lv_icmp_ne (tgt := 22) hx hb dX7_isNext_15 rfl (fun c8 => ?_) (fun c8 => ?_)
    · have hf := q_f c8 hf
      refine lv_iconst (v := 0) hx hb dX7_isNext_22 (by decide) ?_
      obtain rfl := q_s hf
      exact J4 _ _ _ hw (lv_sub hl [] rfl)
    · have hf := q_t c8 hf
      refine lv_iconst (v := 1) hx hb dX7_isNext_18 (by decide) ?_
      refine lv_goto (tgt := 23) hx hb dX7_isNext_19 rfl ?_
      obtain rfl := q_s hf
      exact J4 _ _ _ hw (lv_sub hl [] rfl)
def f_X7_quashes_e61 (a1 : Int32) (n : Nat) (v3 : Int32) (x4 : SX) : Option (Int32 × SX) := (qgd (qin a1 10) ((qnm (si x4 23 a1.toNatClampNeg (1 : Int32)) fun x6 => (qbd (f_X7_works n x6) fun x7 => some (v3, x7)))))
def f_X7_quashes_l12 (a1 : Int32) (n : Nat) (v2 : Int32) : Nat → Int32 → Int32 → SX → Option (Int32 × SX)
  | 0, _, _, _ => none
  | m + 1, v10, v11, x12 => (if (x12.1 0 6) ≤ v11 then f_X7_quashes_e61 a1 n v10 x12 else (qbd (f_X7_isNext n x12 v11 a1) fun r15 => (qbd2 (if r15 = 0 then some (v10, x12) else (qgd (qin v11 10) ((qnm (si x12 21 v11.toNatClampNeg (x12.1 21 a1.toNatClampNeg)) fun x23 => (qnm (si x23 22 v11.toNatClampNeg v2) fun x24 => (qnm (v10 + (1 : Int32)) fun v25 => some (v25, x24))))))) fun v17 x18 => (qnm (v11 + (1 : Int32)) fun v20 => (f_X7_quashes_l12 a1 n v2 m) v17 v20 x18))))
def f_X7_quashes (n : Nat) (x : SX) (a1 : Int32) : Option (Int32 × SX) := (qgd (qin a1 10) ((qnm (x.1 22 a1.toNatClampNeg) fun v2 => f_X7_quashes_l12 a1 n v2 n (0 : Int32) (0 : Int32) x)))
set_option maxHeartbeats 4000000 in
set_option maxRecDepth 100000 in
theorem t_X7_quashes {G : gG} {l : Launch} {ad : Nat → Nat} {n : Nat} {x : SX} {a1 : Int32} {rv : Int32} {xr : SX} (hf : f_X7_quashes n x a1 = some (rv, xr)) : MetI G l yX7_quashes cX7_quashes 5 (some .int) 6 0 0 136 [.ref (ad 0), .int a1] (wM G ad x) (wM G ad xr) rv := by
  refine k_ofI (by decide) (Nat.le_of_ble_eq_true rfl) ?_
  intro p e s m args below meth c ls A F hr hlk hl hw
  have hx := F.1
  have hb := F.2.1
  have hl : lv_has ls 5 [(0, .ref (ad 0)), (1, .int a1)] := hl
  unfold f_X7_quashes at hf
  refine lv_iconst (v := 0) hx hb dX7_quashes_0 (by decide) ?_
  refine lv_istore_n (lv' := [(2, .int (0 : Int32)), (0, .ref (ad 0)), (1, .int a1)]) hx hb dX7_quashes_1 rfl hl (Nat.le_of_ble_eq_true rfl) rfl (fun ls hl => ?_)
  refine lv_aload_n hx hb dX7_quashes_2 rfl (lv_at hl 1 rfl) ?_
  refine M_g_0_12 F ws_in hw fl_X7_32 dX7_quashes_3 ?_
  refine lv_iload_n hx hb dX7_quashes_6 rfl (lv_at hl 2 rfl) ?_
  obtain ⟨g1, hf⟩ := qgd_e hf
  refine M_l_22 F hw g1 dX7_quashes_7 ?_
  refine lv_topi (fun v2 ev2 => ?_)
  have hf := qnm_k ev2 hf
  refine lv_istore_n (lv' := [(3, .int v2), (2, .int (0 : Int32)), (0, .ref (ad 0)), (1, .int a1)]) hx hb dX7_quashes_8 rfl hl (Nat.le_of_ble_eq_true rfl) rfl (fun ls hl => ?_)
  refine lv_iconst (v := 0) hx hb dX7_quashes_9 (by decide) ?_
  refine lv_istore (lv' := [(4, .int (0 : Int32)), (3, .int v2), (2, .int (0 : Int32)), (0, .ref (ad 0)), (1, .int a1)]) hx hb dX7_quashes_10 hl (Nat.le_of_ble_eq_true rfl) rfl (fun ls hl => ?_)
  have E9 : ∀ (v3 : Int32) (x4 : SX) (H : Heap) (locs : List Loc) (ls : Array Slot), Wd G (wM G ad x4) A s H locs → lv_has ls 5 [(0, .ref (ad 0)), (1, .int a1), (2, .int v3)] → f_X7_quashes_e61 a1 n v3 x4 = some (rv, xr) → W p l e (rmk 6 0 0 136) s m args below meth c H locs 0 0 (KQI G below args s A (wM G ad xr) rv 0 0) (F0 m 61 ls []) := by
    intro v3 x4 H locs ls hw hl hf
    unfold f_X7_quashes_e61 at hf
    refine lv_aload_n hx hb dX7_quashes_61 rfl (lv_at hl 0 rfl) ?_
    refine M_g_0_13 F ws_in hw fl_X7_35 dX7_quashes_62 ?_
    refine lv_iload_n hx hb dX7_quashes_65 rfl (lv_at hl 1 rfl) ?_
    refine lv_iconst (v := 1) hx hb dX7_quashes_66 (by decide) ?_
    obtain ⟨g5, hf⟩ := qgd_e hf
    refine M_s_23 F hw g5 (by decide) dX7_quashes_67 (fun x6 ex6 H locs hw => ?_)
    have hf := qnm_k ex6 hf
    refine lv_aload_n hx hb dX7_quashes_68 rfl (lv_at hl 0 rfl) ?_
    obtain ⟨x7, h8, hf⟩ := qbd_e hf
    refine k_callVv' (rest := []) (As := []) F ws_in (t_X7_works h8) cv_X7_works ml_X7_206 hw 0 rfl rfl rfl hl.1 rfl (Nat.le_of_ble_eq_true rfl) ⟨Nat.le_of_ble_eq_true rfl, Nat.le_of_ble_eq_true rfl⟩ ⟨Nat.le_of_ble_eq_true rfl, Nat.le_of_ble_eq_true rfl⟩ dX7_quashes_69 (fun H locs hw => ?_)
    refine lv_iload_n hx hb dX7_quashes_72 rfl (lv_at hl 2 rfl) ?_
    obtain ⟨rfl, rfl⟩ := q_s2 hf
    exact k_iret F hr hlk hw (Nat.le_of_ble_eq_true rfl) (Nat.le_of_ble_eq_true rfl) dX7_quashes_73
  have L13 : ∀ (m0 : Nat) (v10 : Int32) (v11 : Int32) (x12 : SX) (H : Heap) (locs : List Loc) (ls : Array Slot), Wd G (wM G ad x12) A s H locs → lv_has ls 5 [(0, .ref (ad 0)), (1, .int a1), (2, .int v10), (3, .int v2), (4, .int v11)] → f_X7_quashes_l12 a1 n v2 m0 v10 v11 x12 = some (rv, xr) → W p l e (rmk 6 0 0 136) s m args below meth c H locs 0 0 (KQI G below args s A (wM G ad xr) rv 0 0) (F0 m 12 ls []) := by
    intro m0
    induction m0 with
    | zero => intro v10 v11 x12 H locs ls hw hl hf; cases hf
    | succ mL13 ih13 =>
      intro v10 v11 x12 H locs ls hw hl hf
      unfold f_X7_quashes_l12 at hf
      refine lv_iload hx hb dX7_quashes_12 (lv_at hl 4 rfl) ?_
      refine lv_aload_n hx hb dX7_quashes_14 rfl (lv_at hl 0 rfl) ?_
      refine M_g_0_6 F ws_in hw fl_X7_140 dX7_quashes_15 ?_
      refine lv_icmp_ge (tgt := 61) hx hb dX7_quashes_18 rfl (fun c14 => ?_) (fun c14 => ?_)
      · have hf := q_t c14 hf
        exact E9 v10 x12 _ _ _ hw (lv_sub hl [0, 1, 2] rfl) hf
      · have hf := q_f c14 hf
        refine lv_aload_n hx hb dX7_quashes_21 rfl (lv_at hl 0 rfl) ?_
        refine lv_iload hx hb dX7_quashes_22 (lv_at hl 4 rfl) ?_
        refine lv_iload_n hx hb dX7_quashes_24 rfl (lv_at hl 1 rfl) ?_
        obtain ⟨r15, h16, hf⟩ := qbd_e hf
        refine k_callVi' (rest := []) (As := [.int v11, .int a1]) F ws_in (t_X7_isNext h16) cv_X7_isNext ml_X7_228 hw 0 rfl rfl rfl hl.1 rfl (Nat.le_of_ble_eq_true rfl) ⟨Nat.le_of_ble_eq_true rfl, Nat.le_of_ble_eq_true rfl⟩ ⟨Nat.le_of_ble_eq_true rfl, Nat.le_of_ble_eq_true rfl⟩ dX7_quashes_25 (fun H locs hw => ?_)
        obtain ⟨v17, x18, hq26, hf⟩ := qbd2_e hf
        have J19 : ∀ (H : Heap) (locs : List Loc) (ls : Array Slot), Wd G (wM G ad x18) A s H locs → lv_has ls 5 [(0, .ref (ad 0)), (1, .int a1), (2, .int v17), (3, .int v2), (4, .int v11)] → W p l e (rmk 6 0 0 136) s m args below meth c H locs 0 0 (KQI G below args s A (wM G ad xr) rv 0 0) (F0 m 55 ls []) := by
          intro H locs ls hw hl
          obtain ⟨v20, ev20⟩ : ∃ y : Int32, y = v11 + (1 : Int32) := ⟨_, rfl⟩
          refine lv_iinc (v := v20) (lv' := [(4, .int v20), (0, .ref (ad 0)), (1, .int a1), (2, .int v17), (3, .int v2)]) hx hb dX7_quashes_55 hl (k := 4) rfl (by rw [ev20]; rfl) (Nat.le_of_ble_eq_true rfl) rfl (fun ls hl => ?_)
          have hf := qnm_k ev20 hf
          refine lv_goto (tgt := 12) hx hb dX7_quashes_58 rfl ?_
          exact ih13 v17 v20 x18 _ _ _ hw (lv_sub hl [1, 2, 3, 4, 0] rfl) hf
        have hf := hq26
        refine lv_if_eq (tgt := 55) hx hb dX7_quashes_28 rfl (fun c21 => ?_) (fun c21 => ?_)
        · have hf := q_t c21 hf
          obtain ⟨rfl, rfl⟩ := q_s2 hf
          exact J19 _ _ _ hw (lv_sub hl [0, 1, 2, 3, 4] rfl)
        · have hf := q_f c21 hf
          refine lv_aload_n hx hb dX7_quashes_31 rfl (lv_at hl 0 rfl) ?_
          refine M_g_0_11 F ws_in hw fl_X7_29 dX7_quashes_32 ?_
          refine lv_iload hx hb dX7_quashes_35 (lv_at hl 4 rfl) ?_
          refine lv_aload_n hx hb dX7_quashes_37 rfl (lv_at hl 0 rfl) ?_
          refine M_g_0_11 F ws_in hw fl_X7_29 dX7_quashes_38 ?_
          refine lv_iload_n hx hb dX7_quashes_41 rfl (lv_at hl 1 rfl) ?_
          refine M_l_21 F hw g1 dX7_quashes_42 ?_
          obtain ⟨g22, hf⟩ := qgd_e hf
          refine M_s_21 F hw g22 dX7_quashes_43 (fun x23 ex23 H locs hw => ?_)
          have hf := qnm_k ex23 hf
          refine lv_aload_n hx hb dX7_quashes_44 rfl (lv_at hl 0 rfl) ?_
          refine M_g_0_12 F ws_in hw fl_X7_32 dX7_quashes_45 ?_
          refine lv_iload hx hb dX7_quashes_48 (lv_at hl 4 rfl) ?_
          refine lv_iload_n hx hb dX7_quashes_50 rfl (lv_at hl 3 rfl) ?_
          refine M_s_22 F hw g22 dX7_quashes_51 (fun x24 ex24 H locs hw => ?_)
          have hf := qnm_k ex24 hf
          obtain ⟨v25, ev25⟩ : ∃ y : Int32, y = v10 + (1 : Int32) := ⟨_, rfl⟩
          refine lv_iinc (v := v25) (lv' := [(2, .int v25), (0, .ref (ad 0)), (1, .int a1), (3, .int v2), (4, .int v11)]) hx hb dX7_quashes_52 hl (k := 2) rfl (by rw [ev25]; rfl) (Nat.le_of_ble_eq_true rfl) rfl (fun ls hl => ?_)
          have hf := qnm_k ev25 hf
          obtain ⟨rfl, rfl⟩ := q_s2 hf
          exact J19 _ _ _ hw (lv_sub hl [1, 2, 0, 3, 4] rfl)
  exact L13 n (0 : Int32) (0 : Int32) x _ _ _ hw (lv_sub hl [3, 4, 2, 1, 0] rfl) hf
def f_X7_quash (n : Nat) (x : SX) (a1 : Int32) : Option (Int32 × SX) := (qbd (f_X7_isTerm n x a1) fun r1 => (qbd (if r1 = 0 then some (1 : Int32) else (qbd (f_X7_isIn n x a1) fun r15 => (if r15 = 0 then some (2 : Int32) else some (0 : Int32)))) fun v3 => (qbd2 (f_X7_fails n x v3) fun r5 x6 => (if r5 = 0 then (qbd2 (f_X7_quashes n x6 a1) fun r9 x10 => (qbd (f_X7_bounds n x10) fun x12 => some (r9, x12))) else some ((0 : Int32), x6)))))
set_option maxHeartbeats 4000000 in
set_option maxRecDepth 100000 in
theorem t_X7_quash {G : gG} {l : Launch} {ad : Nat → Nat} {n : Nat} {x : SX} {a1 : Int32} {rv : Int32} {xr : SX} (hf : f_X7_quash n x a1 = some (rv, xr)) : MetI G l yX7_quash cX7_quash 3 (some .int) 7 0 0 160 [.ref (ad 0), .int a1] (wM G ad x) (wM G ad xr) rv := by
  refine k_ofI (by decide) (Nat.le_of_ble_eq_true rfl) ?_
  intro p e s m args below meth c ls A F hr hlk hl hw
  have hx := F.1
  have hb := F.2.1
  have hl : lv_has ls 3 [(0, .ref (ad 0)), (1, .int a1)] := hl
  unfold f_X7_quash at hf
  refine lv_aload_n hx hb dX7_quash_0 rfl (lv_at hl 0 rfl) ?_
  refine lv_aload_n hx hb dX7_quash_1 rfl (lv_at hl 0 rfl) ?_
  refine lv_iload_n hx hb dX7_quash_2 rfl (lv_at hl 1 rfl) ?_
  obtain ⟨r1, h2, hf⟩ := qbd_e hf
  refine k_callVi' (rest := [.ref (ad 0)]) (As := [.int a1]) F ws_in (t_X7_isTerm h2) cv_X7_isTerm ml_X7_216 hw 0 rfl rfl rfl hl.1 rfl (Nat.le_of_ble_eq_true rfl) ⟨Nat.le_of_ble_eq_true rfl, Nat.le_of_ble_eq_true rfl⟩ ⟨Nat.le_of_ble_eq_true rfl, Nat.le_of_ble_eq_true rfl⟩ dX7_quash_3 (fun H locs hw => ?_)
  obtain ⟨v3, hq18, hf⟩ := qbd_e hf
  have J4 : ∀ (H : Heap) (locs : List Loc) (ls : Array Slot), Wd G (wM G ad x) A s H locs → lv_has ls 3 [(0, .ref (ad 0)), (1, .int a1)] → W p l e (rmk 7 0 0 160) s m args below meth c H locs 0 0 (KQI G below args s A (wM G ad xr) rv 0 0) (F0 m 26 ls [.int v3, .ref (ad 0)]) := by
    intro H locs ls hw hl
    obtain ⟨r5, x6, h7, hf⟩ := qbd2_e hf
    refine k_callVi' (rest := []) (As := [.int v3]) F ws_in (t_X7_fails h7) cv_X7_fails ml_X7_126 hw 0 rfl rfl rfl hl.1 rfl (Nat.le_of_ble_eq_true rfl) ⟨Nat.le_of_ble_eq_true rfl, Nat.le_of_ble_eq_true rfl⟩ ⟨Nat.le_of_ble_eq_true rfl, Nat.le_of_ble_eq_true rfl⟩ dX7_quash_26 (fun H locs hw => ?_)
    refine lv_if_eq (tgt := 34) hx hb dX7_quash_29 rfl (fun c8 => ?_) (fun c8 => ?_)
    · have hf := q_t c8 hf
      refine lv_aload_n hx hb dX7_quash_34 rfl (lv_at hl 0 rfl) ?_
      refine lv_iload_n hx hb dX7_quash_35 rfl (lv_at hl 1 rfl) ?_
      obtain ⟨r9, x10, h11, hf⟩ := qbd2_e hf
      refine k_callVi' (rest := []) (As := [.int a1]) F ws_in (t_X7_quashes h11) cv_X7_quashes ml_X7_231 hw 0 rfl rfl rfl hl.1 rfl (Nat.le_of_ble_eq_true rfl) ⟨Nat.le_of_ble_eq_true rfl, Nat.le_of_ble_eq_true rfl⟩ ⟨Nat.le_of_ble_eq_true rfl, Nat.le_of_ble_eq_true rfl⟩ dX7_quash_36 (fun H locs hw => ?_)
      refine lv_istore_n (lv' := [(2, .int r9), (0, .ref (ad 0)), (1, .int a1)]) hx hb dX7_quash_39 rfl hl (Nat.le_of_ble_eq_true rfl) rfl (fun ls hl => ?_)
      refine lv_aload_n hx hb dX7_quash_40 rfl (lv_at hl 1 rfl) ?_
      obtain ⟨x12, h13, hf⟩ := qbd_e hf
      refine k_callVv' (rest := []) (As := []) F ws_in (t_X7_bounds h13) cv_X7_bounds ml_X7_225 hw 0 rfl rfl rfl hl.1 rfl (Nat.le_of_ble_eq_true rfl) ⟨Nat.le_of_ble_eq_true rfl, Nat.le_of_ble_eq_true rfl⟩ ⟨Nat.le_of_ble_eq_true rfl, Nat.le_of_ble_eq_true rfl⟩ dX7_quash_41 (fun H locs hw => ?_)
      refine lv_iload_n hx hb dX7_quash_44 rfl (lv_at hl 0 rfl) ?_
      obtain ⟨rfl, rfl⟩ := q_s2 hf
      exact k_iret F hr hlk hw (Nat.le_of_ble_eq_true rfl) (Nat.le_of_ble_eq_true rfl) dX7_quash_45
    · have hf := q_f c8 hf
      refine lv_iconst (v := 0) hx hb dX7_quash_32 (by decide) ?_
      obtain ⟨rfl, rfl⟩ := q_s2 hf
      exact k_iret F hr hlk hw (Nat.le_of_ble_eq_true rfl) (Nat.le_of_ble_eq_true rfl) dX7_quash_33
  have hf := hq18
  refine lv_if_ne (tgt := 13) hx hb dX7_quash_6 rfl (fun c14 => ?_) (fun c14 => ?_)
  · have hf := q_f c14 hf
    refine lv_aload_n hx hb dX7_quash_13 rfl (lv_at hl 0 rfl) ?_
    refine lv_iload_n hx hb dX7_quash_14 rfl (lv_at hl 1 rfl) ?_
    obtain ⟨r15, h16, hf⟩ := qbd_e hf
    refine k_callVi' (rest := [.ref (ad 0)]) (As := [.int a1]) F ws_in (t_X7_isIn h16) cv_X7_isIn ml_X7_165 hw 0 rfl rfl rfl hl.1 rfl (Nat.le_of_ble_eq_true rfl) ⟨Nat.le_of_ble_eq_true rfl, Nat.le_of_ble_eq_true rfl⟩ ⟨Nat.le_of_ble_eq_true rfl, Nat.le_of_ble_eq_true rfl⟩ dX7_quash_15 (fun H locs hw => ?_)
    refine lv_if_eq (tgt := 25) hx hb dX7_quash_18 rfl (fun c17 => ?_) (fun c17 => ?_)
    · have hf := q_t c17 hf
      refine lv_iconst (v := 2) hx hb dX7_quash_25 (by decide) ?_
      obtain rfl := q_s hf
      exact J4 _ _ _ hw (lv_sub hl [0, 1] rfl)
    · have hf := q_f c17 hf
      refine lv_iconst (v := 0) hx hb dX7_quash_21 (by decide) ?_
      refine lv_goto (tgt := 26) hx hb dX7_quash_22 rfl ?_
      obtain rfl := q_s hf
      exact J4 _ _ _ hw (lv_sub hl [0, 1] rfl)
  · have hf := q_t c14 hf
    refine lv_iconst (v := 1) hx hb dX7_quash_9 (by decide) ?_
    refine lv_goto (tgt := 26) hx hb dX7_quash_10 rfl ?_
    obtain rfl := q_s hf
    exact J4 _ _ _ hw (lv_sub hl [0, 1] rfl)
def f_X7_awards_e49 (x : SX) (a1 : Int32) (n : Nat) (v1 : Int32) : Option (SX) := (qgd (qin (x.1 0 18) 8) ((qnm (si x 29 (x.1 0 18).toNatClampNeg a1) fun x3 => (qgd (qin (x3.1 0 18) 8) ((qnm (si x3 30 (x3.1 0 18).toNatClampNeg v1) fun x5 => (qbd (f_X7_isRecalled n x5) fun r6 => (qbd (if r6 = 0 then some (-1 : Int32) else some ((x5.1 0 22) - (1 : Int32))) fun v8 => (qgd (qin (x5.1 0 18) 8) ((qnm (si x5 31 (x5.1 0 18).toNatClampNeg v8) fun x11 => (qnm (si x11 0 18 ((x11.1 0 18) + (1 : Int32))) fun x12 => (qbd (f_X7_works n x12) fun x13 => some x13)))))))))))))
def f_X7_awards_l4 (x : SX) (a1 : Int32) (n : Nat) : Nat → Int32 → Int32 → Option (SX)
  | 0, _, _ => none
  | m + 1, v18, v19 => (if (x.1 0 6) ≤ v19 then f_X7_awards_e49 x a1 n v18 else (qbd (f_X7_isIn n x v19) fun r22 => (qbd (if r22 = 0 then some (0 : Int32) else (qgd (qin v19 10) ((if (x.1 48 v19.toNatClampNeg) ≤ (x.1 0 1) then some (0 : Int32) else some ((1 : Int32) <<< (v19 &&& 31)))))) fun v24 => (qnm (v18 ||| v24) fun v26 => (qnm (v19 + (1 : Int32)) fun v27 => (f_X7_awards_l4 x a1 n m) v26 v27)))))
def f_X7_awards (n : Nat) (x : SX) (a1 : Int32) : Option (SX) := f_X7_awards_l4 x a1 n n (0 : Int32) (0 : Int32)
set_option maxHeartbeats 4000000 in
set_option maxRecDepth 100000 in
theorem t_X7_awards {G : gG} {l : Launch} {ad : Nat → Nat} {n : Nat} {x : SX} {a1 : Int32} {xr : SX} (hf : f_X7_awards n x a1 = some xr) : MetV G l yX7_awards cX7_awards 4 none 6 0 0 136 [.ref (ad 0), .int a1] (wM G ad x) (wM G ad xr) := by
  refine k_ofV (by decide) (Nat.le_of_ble_eq_true rfl) ?_
  intro p e s m args below meth c ls A F hr hlk hl hw
  have hx := F.1
  have hb := F.2.1
  have hl : lv_has ls 4 [(0, .ref (ad 0)), (1, .int a1)] := hl
  unfold f_X7_awards at hf
  refine lv_iconst (v := 0) hx hb dX7_awards_0 (by decide) ?_
  refine lv_istore_n (lv' := [(2, .int (0 : Int32)), (0, .ref (ad 0)), (1, .int a1)]) hx hb dX7_awards_1 rfl hl (Nat.le_of_ble_eq_true rfl) rfl (fun ls hl => ?_)
  refine lv_iconst (v := 0) hx hb dX7_awards_2 (by decide) ?_
  refine lv_istore_n (lv' := [(3, .int (0 : Int32)), (2, .int (0 : Int32)), (0, .ref (ad 0)), (1, .int a1)]) hx hb dX7_awards_3 rfl hl (Nat.le_of_ble_eq_true rfl) rfl (fun ls hl => ?_)
  have E17 : ∀ (v1 : Int32) (H : Heap) (locs : List Loc) (ls : Array Slot), Wd G (wM G ad x) A s H locs → lv_has ls 4 [(0, .ref (ad 0)), (1, .int a1), (2, .int v1)] → f_X7_awards_e49 x a1 n v1 = some xr → W p l e (rmk 6 0 0 136) s m args below meth c H locs 0 0 (KQV G below args s A (wM G ad xr) 0 0) (F0 m 49 ls []) := by
    intro v1 H locs ls hw hl hf
    unfold f_X7_awards_e49 at hf
    refine lv_aload_n hx hb dX7_awards_49 rfl (lv_at hl 0 rfl) ?_
    refine M_g_0_19 F ws_in hw fl_X7_48 dX7_awards_50 ?_
    refine lv_aload_n hx hb dX7_awards_53 rfl (lv_at hl 0 rfl) ?_
    refine M_g_0_18 F ws_in hw fl_X7_153 dX7_awards_54 ?_
    refine lv_iload_n hx hb dX7_awards_57 rfl (lv_at hl 1 rfl) ?_
    obtain ⟨g2, hf⟩ := qgd_e hf
    refine M_s_29 F hw g2 dX7_awards_58 (fun x3 ex3 H locs hw => ?_)
    have hf := qnm_k ex3 hf
    refine lv_aload_n hx hb dX7_awards_59 rfl (lv_at hl 0 rfl) ?_
    refine M_g_0_20 F ws_in hw fl_X7_51 dX7_awards_60 ?_
    refine lv_aload_n hx hb dX7_awards_63 rfl (lv_at hl 0 rfl) ?_
    refine M_g_0_18 F ws_in hw fl_X7_153 dX7_awards_64 ?_
    refine lv_iload_n hx hb dX7_awards_67 rfl (lv_at hl 2 rfl) ?_
    obtain ⟨g4, hf⟩ := qgd_e hf
    refine M_s_30 F hw g4 dX7_awards_68 (fun x5 ex5 H locs hw => ?_)
    have hf := qnm_k ex5 hf
    refine lv_aload_n hx hb dX7_awards_69 rfl (lv_at hl 0 rfl) ?_
    refine M_g_0_21 F ws_in hw fl_X7_54 dX7_awards_70 ?_
    refine lv_aload_n hx hb dX7_awards_73 rfl (lv_at hl 0 rfl) ?_
    refine M_g_0_18 F ws_in hw fl_X7_153 dX7_awards_74 ?_
    refine lv_aload_n hx hb dX7_awards_77 rfl (lv_at hl 0 rfl) ?_
    obtain ⟨r6, h7, hf⟩ := qbd_e hf
    refine k_callVi' (rest := [.int (x5.1 0 18), .ref (ad 31)]) (As := []) F ws_in (t_X7_isRecalled h7) cv_X7_isRecalled ml_X7_193 hw 0 rfl rfl rfl hl.1 rfl (Nat.le_of_ble_eq_true rfl) ⟨Nat.le_of_ble_eq_true rfl, Nat.le_of_ble_eq_true rfl⟩ ⟨Nat.le_of_ble_eq_true rfl, Nat.le_of_ble_eq_true rfl⟩ dX7_awards_78 (fun H locs hw => ?_)
    obtain ⟨v8, hq16, hf⟩ := qbd_e hf
    have J9 : ∀ (H : Heap) (locs : List Loc) (ls : Array Slot), Wd G (wM G ad x5) A s H locs → lv_has ls 4 [(0, .ref (ad 0))] → W p l e (rmk 6 0 0 136) s m args below meth c H locs 0 0 (KQV G below args s A (wM G ad xr) 0 0) (F0 m 94 ls [.int v8, .int (x5.1 0 18), .ref (ad 31)]) := by
      intro H locs ls hw hl
      obtain ⟨g10, hf⟩ := qgd_e hf
      refine M_s_31 F hw g10 dX7_awards_94 (fun x11 ex11 H locs hw => ?_)
      have hf := qnm_k ex11 hf
      refine lv_aload_n hx hb dX7_awards_95 rfl (lv_at hl 0 rfl) ?_
      refine lv_dup hx hb dX7_awards_96 rfl ?_
      refine M_g_0_18 F ws_in hw fl_X7_153 dX7_awards_97 ?_
      refine lv_iconst (v := 1) hx hb dX7_awards_100 (by decide) ?_
      refine lv_iadd hx hb dX7_awards_101 ?_
      refine M_p_0_18 F ws_in hw fl_X7_153 dX7_awards_102 (fun x12 ex12 H locs hw => ?_)
      have hf := qnm_k ex12 hf
      refine lv_aload_n hx hb dX7_awards_105 rfl (lv_at hl 0 rfl) ?_
      obtain ⟨x13, h14, hf⟩ := qbd_e hf
      refine k_callVv' (rest := []) (As := []) F ws_in (t_X7_works h14) cv_X7_works ml_X7_206 hw 0 rfl rfl rfl hl.1 rfl (Nat.le_of_ble_eq_true rfl) ⟨Nat.le_of_ble_eq_true rfl, Nat.le_of_ble_eq_true rfl⟩ ⟨Nat.le_of_ble_eq_true rfl, Nat.le_of_ble_eq_true rfl⟩ dX7_awards_106 (fun H locs hw => ?_)
      obtain rfl := q_s hf
      exact k_vret F hr hlk hw (Nat.le_of_ble_eq_true rfl) (Nat.le_of_ble_eq_true rfl) dX7_awards_109
    have hf := hq16
    refine lv_if_eq (tgt := 93) hx hb dX7_awards_81 rfl (fun c15 => ?_) (fun c15 => ?_)
    · have hf := q_t c15 hf
      refine lv_iconst (v := -1) hx hb dX7_awards_93 (by decide) ?_
      obtain rfl := q_s hf
      exact J9 _ _ _ hw (lv_sub hl [0] rfl)
    · have hf := q_f c15 hf
      refine lv_aload_n hx hb dX7_awards_84 rfl (lv_at hl 0 rfl) ?_
      refine M_g_0_22 F ws_in hw fl_X7_171 dX7_awards_85 ?_
      refine lv_iconst (v := 1) hx hb dX7_awards_88 (by decide) ?_
      refine lv_isub hx hb dX7_awards_89 ?_
      refine lv_goto (tgt := 94) hx hb dX7_awards_90 rfl ?_
      obtain rfl := q_s hf
      exact J9 _ _ _ hw (lv_sub hl [0] rfl)
  have L20 : ∀ (m0 : Nat) (v18 : Int32) (v19 : Int32) (H : Heap) (locs : List Loc) (ls : Array Slot), Wd G (wM G ad x) A s H locs → lv_has ls 4 [(0, .ref (ad 0)), (1, .int a1), (2, .int v18), (3, .int v19)] → f_X7_awards_l4 x a1 n m0 v18 v19 = some xr → W p l e (rmk 6 0 0 136) s m args below meth c H locs 0 0 (KQV G below args s A (wM G ad xr) 0 0) (F0 m 4 ls []) := by
    intro m0
    induction m0 with
    | zero => intro v18 v19 H locs ls hw hl hf; cases hf
    | succ mL20 ih20 =>
      intro v18 v19 H locs ls hw hl hf
      unfold f_X7_awards_l4 at hf
      refine lv_iload_n hx hb dX7_awards_4 rfl (lv_at hl 3 rfl) ?_
      refine lv_aload_n hx hb dX7_awards_5 rfl (lv_at hl 0 rfl) ?_
      refine M_g_0_6 F ws_in hw fl_X7_140 dX7_awards_6 ?_
      refine lv_icmp_ge (tgt := 49) hx hb dX7_awards_9 rfl (fun c21 => ?_) (fun c21 => ?_)
      · have hf := q_t c21 hf
        exact E17 v18 _ _ _ hw (lv_sub hl [0, 1, 2] rfl) hf
      · have hf := q_f c21 hf
        refine lv_iload_n hx hb dX7_awards_12 rfl (lv_at hl 2 rfl) ?_
        refine lv_aload_n hx hb dX7_awards_13 rfl (lv_at hl 0 rfl) ?_
        refine lv_iload_n hx hb dX7_awards_14 rfl (lv_at hl 3 rfl) ?_
        obtain ⟨r22, h23, hf⟩ := qbd_e hf
        refine k_callVi' (rest := [.int v18]) (As := [.int v19]) F ws_in (t_X7_isIn h23) cv_X7_isIn ml_X7_165 hw 0 rfl rfl rfl hl.1 rfl (Nat.le_of_ble_eq_true rfl) ⟨Nat.le_of_ble_eq_true rfl, Nat.le_of_ble_eq_true rfl⟩ ⟨Nat.le_of_ble_eq_true rfl, Nat.le_of_ble_eq_true rfl⟩ dX7_awards_15 (fun H locs hw => ?_)
        obtain ⟨v24, hq31, hf⟩ := qbd_e hf
        have J25 : ∀ (H : Heap) (locs : List Loc) (ls : Array Slot), Wd G (wM G ad x) A s H locs → lv_has ls 4 [(0, .ref (ad 0)), (1, .int a1), (3, .int v19)] → W p l e (rmk 6 0 0 136) s m args below meth c H locs 0 0 (KQV G below args s A (wM G ad xr) 0 0) (F0 m 41 ls [.int v24, .int v18]) := by
          intro H locs ls hw hl
          refine lv_ior hx hb dX7_awards_41 ?_
          refine lv_topi (fun v26 ev26 => ?_)
          have hf := qnm_k ev26 hf
          refine lv_istore_n (lv' := [(2, .int v26), (0, .ref (ad 0)), (1, .int a1), (3, .int v19)]) hx hb dX7_awards_42 rfl hl (Nat.le_of_ble_eq_true rfl) rfl (fun ls hl => ?_)
          obtain ⟨v27, ev27⟩ : ∃ y : Int32, y = v19 + (1 : Int32) := ⟨_, rfl⟩
          refine lv_iinc (v := v27) (lv' := [(3, .int v27), (2, .int v26), (0, .ref (ad 0)), (1, .int a1)]) hx hb dX7_awards_43 hl (k := 3) rfl (by rw [ev27]; rfl) (Nat.le_of_ble_eq_true rfl) rfl (fun ls hl => ?_)
          have hf := qnm_k ev27 hf
          refine lv_goto (tgt := 4) hx hb dX7_awards_46 rfl ?_
          exact ih20 v26 v27 _ _ _ hw (lv_sub hl [2, 3, 1, 0] rfl) hf
        have hf := hq31
        refine lv_if_eq (tgt := 40) hx hb dX7_awards_18 rfl (fun c28 => ?_) (fun c28 => ?_)
        · have hf := q_t c28 hf
          refine lv_iconst (v := 0) hx hb dX7_awards_40 (by decide) ?_
          obtain rfl := q_s hf
          exact J25 _ _ _ hw (lv_sub hl [0, 1, 3] rfl)
        · have hf := q_f c28 hf
          refine lv_aload_n hx hb dX7_awards_21 rfl (lv_at hl 0 rfl) ?_
          refine M_g_0_38 F ws_in hw fl_X7_81 dX7_awards_22 ?_
          refine lv_iload_n hx hb dX7_awards_25 rfl (lv_at hl 3 rfl) ?_
          obtain ⟨g29, hf⟩ := qgd_e hf
          refine M_l_48 F hw g29 dX7_awards_26 ?_
          refine lv_aload_n hx hb dX7_awards_27 rfl (lv_at hl 0 rfl) ?_
          refine M_g_0_1 F ws_in hw fl_X7_187 dX7_awards_28 ?_
          refine lv_icmp_le (tgt := 40) hx hb dX7_awards_31 rfl (fun c30 => ?_) (fun c30 => ?_)
          · have hf := q_t c30 hf
            refine lv_iconst (v := 0) hx hb dX7_awards_40 (by decide) ?_
            obtain rfl := q_s hf
            exact J25 _ _ _ hw (lv_sub hl [0, 1, 3] rfl)
          · have hf := q_f c30 hf
            refine lv_iconst (v := 1) hx hb dX7_awards_34 (by decide) ?_
            refine lv_iload_n hx hb dX7_awards_35 rfl (lv_at hl 3 rfl) ?_
            refine lv_ishl hx hb dX7_awards_36 ?_
            refine lv_goto (tgt := 41) hx hb dX7_awards_37 rfl ?_
            obtain rfl := q_s hf
            exact J25 _ _ _ hw (lv_sub hl [0, 1, 3] rfl)
  exact L20 n (0 : Int32) (0 : Int32) _ _ _ hw (lv_sub hl [2, 3, 1, 0] rfl) hf
def f_X7_award (n : Nat) (x : SX) (a1 : Int32) : Option (Int32 × SX) := (qbd (f_X7_in n a1 (1 : Int32) (42 : Int32)) fun r1 => (qbd (if r1 = 0 then some (1 : Int32) else (qbd (f_X7_statusNow n x) fun r12 => (if r12 = (2 : Int32) then (if (x.1 0 18) = (8 : Int32) then some (2 : Int32) else some (0 : Int32)) else some (2 : Int32)))) fun v3 => (qbd2 (f_X7_fails n x v3) fun r5 x6 => (if r5 = 0 then (qbd (f_X7_awards n x6 a1) fun x9 => some (((x9.1 0 18) - (1 : Int32)), x9)) else some ((0 : Int32), x6)))))
set_option maxHeartbeats 4000000 in
set_option maxRecDepth 100000 in
theorem t_X7_award {G : gG} {l : Launch} {ad : Nat → Nat} {n : Nat} {x : SX} {a1 : Int32} {rv : Int32} {xr : SX} (hf : f_X7_award n x a1 = some (rv, xr)) : MetI G l yX7_award cX7_award 2 (some .int) 7 0 0 159 [.ref (ad 0), .int a1] (wM G ad x) (wM G ad xr) rv := by
  refine k_ofI (by decide) (Nat.le_of_ble_eq_true rfl) ?_
  intro p e s m args below meth c ls A F hr hlk hl hw
  have hx := F.1
  have hb := F.2.1
  have hl : lv_has ls 2 [(0, .ref (ad 0)), (1, .int a1)] := hl
  unfold f_X7_award at hf
  refine lv_aload_n hx hb dX7_award_0 rfl (lv_at hl 0 rfl) ?_
  refine lv_iload_n hx hb dX7_award_1 rfl (lv_at hl 1 rfl) ?_
  refine lv_iconst (v := 1) hx hb dX7_award_2 (by decide) ?_
  refine lv_bipush (v := 42) hx hb dX7_award_3 (by decide) ?_
  obtain ⟨r1, h2, hf⟩ := qbd_e hf
  refine k_callPi (rest := [.ref (ad 0)]) (As := [.int a1, .int (1 : Int32), .int (42 : Int32)]) F ws_in (t_X7_in h2) cs_X7_in ml_X7_122 hw rfl hl.1 rfl (Nat.le_of_ble_eq_true rfl) ⟨Nat.le_of_ble_eq_true rfl, Nat.le_of_ble_eq_true rfl⟩ ⟨Nat.le_of_ble_eq_true rfl, Nat.le_of_ble_eq_true rfl⟩ dX7_award_5 (fun H locs hw => ?_)
  obtain ⟨v3, hq16, hf⟩ := qbd_e hf
  have J4 : ∀ (H : Heap) (locs : List Loc) (ls : Array Slot), Wd G (wM G ad x) A s H locs → lv_has ls 2 [(0, .ref (ad 0)), (1, .int a1)] → W p l e (rmk 7 0 0 159) s m args below meth c H locs 0 0 (KQI G below args s A (wM G ad xr) rv 0 0) (F0 m 37 ls [.int v3, .ref (ad 0)]) := by
    intro H locs ls hw hl
    obtain ⟨r5, x6, h7, hf⟩ := qbd2_e hf
    refine k_callVi' (rest := []) (As := [.int v3]) F ws_in (t_X7_fails h7) cv_X7_fails ml_X7_126 hw 0 rfl rfl rfl hl.1 rfl (Nat.le_of_ble_eq_true rfl) ⟨Nat.le_of_ble_eq_true rfl, Nat.le_of_ble_eq_true rfl⟩ ⟨Nat.le_of_ble_eq_true rfl, Nat.le_of_ble_eq_true rfl⟩ dX7_award_37 (fun H locs hw => ?_)
    refine lv_if_eq (tgt := 45) hx hb dX7_award_40 rfl (fun c8 => ?_) (fun c8 => ?_)
    · have hf := q_t c8 hf
      refine lv_aload_n hx hb dX7_award_45 rfl (lv_at hl 0 rfl) ?_
      refine lv_iload_n hx hb dX7_award_46 rfl (lv_at hl 1 rfl) ?_
      obtain ⟨x9, h10, hf⟩ := qbd_e hf
      refine k_callVv' (rest := []) (As := [.int a1]) F ws_in (t_X7_awards h10) cv_X7_awards ml_X7_237 hw 0 rfl rfl rfl hl.1 rfl (Nat.le_of_ble_eq_true rfl) ⟨Nat.le_of_ble_eq_true rfl, Nat.le_of_ble_eq_true rfl⟩ ⟨Nat.le_of_ble_eq_true rfl, Nat.le_of_ble_eq_true rfl⟩ dX7_award_47 (fun H locs hw => ?_)
      refine lv_aload_n hx hb dX7_award_50 rfl (lv_at hl 0 rfl) ?_
      refine M_g_0_18 F ws_in hw fl_X7_153 dX7_award_51 ?_
      refine lv_iconst (v := 1) hx hb dX7_award_54 (by decide) ?_
      refine lv_isub hx hb dX7_award_55 ?_
      obtain ⟨rfl, rfl⟩ := q_s2 hf
      exact k_iret F hr hlk hw (Nat.le_of_ble_eq_true rfl) (Nat.le_of_ble_eq_true rfl) dX7_award_56
    · have hf := q_f c8 hf
      refine lv_iconst (v := 0) hx hb dX7_award_43 (by decide) ?_
      obtain ⟨rfl, rfl⟩ := q_s2 hf
      exact k_iret F hr hlk hw (Nat.le_of_ble_eq_true rfl) (Nat.le_of_ble_eq_true rfl) dX7_award_44
  have hf := hq16
  refine lv_if_ne (tgt := 15) hx hb dX7_award_8 rfl (fun c11 => ?_) (fun c11 => ?_)
  · have hf := q_f c11 hf
    refine lv_aload_n hx hb dX7_award_15 rfl (lv_at hl 0 rfl) ?_
    obtain ⟨r12, h13, hf⟩ := qbd_e hf
    refine k_callVi' (rest := [.ref (ad 0)]) (As := []) F ws_in (t_X7_statusNow h13) cv_X7_statusNow ml_X7_234 hw 0 rfl rfl rfl hl.1 rfl (Nat.le_of_ble_eq_true rfl) ⟨Nat.le_of_ble_eq_true rfl, Nat.le_of_ble_eq_true rfl⟩ ⟨Nat.le_of_ble_eq_true rfl, Nat.le_of_ble_eq_true rfl⟩ dX7_award_16 (fun H locs hw => ?_)
    refine lv_iconst (v := 2) hx hb dX7_award_19 (by decide) ?_
    refine lv_icmp_ne (tgt := 32) hx hb dX7_award_20 rfl (fun c14 => ?_) (fun c14 => ?_)
    · have hf := q_f c14 hf
      refine lv_iconst (v := 2) hx hb dX7_award_32 (by decide) ?_
      refine lv_goto (tgt := 37) hx hb dX7_award_33 rfl ?_
      obtain rfl := q_s hf
      exact J4 _ _ _ hw (lv_sub hl [0, 1] rfl)
    · have hf := q_t c14 hf
      refine lv_aload_n hx hb dX7_award_23 rfl (lv_at hl 0 rfl) ?_
      refine M_g_0_18 F ws_in hw fl_X7_153 dX7_award_24 ?_
      refine lv_bipush (v := 8) hx hb dX7_award_27 (by decide) ?_
      refine lv_icmp_ne (tgt := 36) hx hb dX7_award_29 rfl (fun c15 => ?_) (fun c15 => ?_)
      · have hf := q_f c15 hf
        refine lv_iconst (v := 0) hx hb dX7_award_36 (by decide) ?_
        obtain rfl := q_s hf
        exact J4 _ _ _ hw (lv_sub hl [0, 1] rfl)
      · have hf := q_t c15 hf
        refine lv_iconst (v := 2) hx hb dX7_award_32 (by decide) ?_
        refine lv_goto (tgt := 37) hx hb dX7_award_33 rfl ?_
        obtain rfl := q_s hf
        exact J4 _ _ _ hw (lv_sub hl [0, 1] rfl)
  · have hf := q_t c11 hf
    refine lv_iconst (v := 1) hx hb dX7_award_11 (by decide) ?_
    refine lv_goto (tgt := 37) hx hb dX7_award_12 rfl ?_
    obtain rfl := q_s hf
    exact J4 _ _ _ hw (lv_sub hl [0, 1] rfl)
def f_X7_isAward (n : Nat) (x : SX) (a1 : Int32) : Option (Int32) := (qbd (f_X7_in n a1 (0 : Int32) ((x.1 0 18) - (1 : Int32))) fun r1 => (qgd (qz r1) (some r1)))
set_option maxHeartbeats 4000000 in
set_option maxRecDepth 100000 in
theorem t_X7_isAward {G : gG} {l : Launch} {ad : Nat → Nat} {n : Nat} {x : SX} {a1 : Int32} {rv : Int32} (hf : f_X7_isAward n x a1 = some rv) : MetI G l yX7_isAward cX7_isAward 2 (some .boolean) 1 0 0 22 [.ref (ad 0), .int a1] (wM G ad x) (wM G ad x) rv := by
  refine k_ofI (by decide) (Nat.le_of_ble_eq_true rfl) ?_
  intro p e s m args below meth c ls A F hr hlk hl hw
  have hx := F.1
  have hb := F.2.1
  have hl : lv_has ls 2 [(0, .ref (ad 0)), (1, .int a1)] := hl
  unfold f_X7_isAward at hf
  refine lv_iload_n hx hb dX7_isAward_0 rfl (lv_at hl 1 rfl) ?_
  refine lv_iconst (v := 0) hx hb dX7_isAward_1 (by decide) ?_
  refine lv_aload_n hx hb dX7_isAward_2 rfl (lv_at hl 0 rfl) ?_
  refine M_g_0_18 F ws_in hw fl_X7_153 dX7_isAward_3 ?_
  refine lv_iconst (v := 1) hx hb dX7_isAward_6 (by decide) ?_
  refine lv_isub hx hb dX7_isAward_7 ?_
  obtain ⟨r1, h2, hf⟩ := qbd_e hf
  refine k_callPi (rest := []) (As := [.int a1, .int (0 : Int32), .int ((x.1 0 18) - (1 : Int32))]) F ws_in (t_X7_in h2) cs_X7_in ml_X7_122 hw rfl hl.1 rfl (Nat.le_of_ble_eq_true rfl) ⟨Nat.le_of_ble_eq_true rfl, Nat.le_of_ble_eq_true rfl⟩ ⟨Nat.le_of_ble_eq_true rfl, Nat.le_of_ble_eq_true rfl⟩ dX7_isAward_8 (fun H locs hw => ?_)
  obtain ⟨g3, hf⟩ := qgd_e hf
  obtain rfl := q_s hf
  exact k_zret F hr hlk hw (qz_n g3) (Nat.le_of_ble_eq_true rfl) (Nat.le_of_ble_eq_true rfl) dX7_isAward_11
def f_X7_giveBack (n : Nat) (x : SX) (a1 : Int32) (a2 : Int32) : Option (Int32 × SX) := (qbd (f_X7_isAward n x a1) fun r1 => (qbd (if r1 = 0 then some (1 : Int32) else (qgd (qin a1 8) ((qbd (f_X7_in n a2 (1 : Int32) (x.1 29 a1.toNatClampNeg)) fun r15 => (if r15 = 0 then some (2 : Int32) else some (0 : Int32)))))) fun v3 => (qbd2 (f_X7_fails n x v3) fun r5 x6 => (if r5 = 0 then (qgd (qin a1 8) ((qnm (si x6 29 a1.toNatClampNeg ((x6.1 29 a1.toNatClampNeg) - a2)) fun x10 => (qbd (f_X7_works n x10) fun x11 => some ((x11.1 29 a1.toNatClampNeg), x11))))) else some ((0 : Int32), x6)))))
set_option maxHeartbeats 4000000 in
set_option maxRecDepth 100000 in
theorem t_X7_giveBack {G : gG} {l : Launch} {ad : Nat → Nat} {n : Nat} {x : SX} {a1 : Int32} {a2 : Int32} {rv : Int32} {xr : SX} (hf : f_X7_giveBack n x a1 a2 = some (rv, xr)) : MetI G l yX7_giveBack cX7_giveBack 3 (some .int) 6 0 0 136 [.ref (ad 0), .int a1, .int a2] (wM G ad x) (wM G ad xr) rv := by
  refine k_ofI (by decide) (Nat.le_of_ble_eq_true rfl) ?_
  intro p e s m args below meth c ls A F hr hlk hl hw
  have hx := F.1
  have hb := F.2.1
  have hl : lv_has ls 3 [(0, .ref (ad 0)), (1, .int a1), (2, .int a2)] := hl
  unfold f_X7_giveBack at hf
  refine lv_aload_n hx hb dX7_giveBack_0 rfl (lv_at hl 0 rfl) ?_
  refine lv_aload_n hx hb dX7_giveBack_1 rfl (lv_at hl 0 rfl) ?_
  refine lv_iload_n hx hb dX7_giveBack_2 rfl (lv_at hl 1 rfl) ?_
  obtain ⟨r1, h2, hf⟩ := qbd_e hf
  refine k_callVi' (rest := [.ref (ad 0)]) (As := [.int a1]) F ws_in (t_X7_isAward h2) cv_X7_isAward ml_X7_239 hw 0 rfl rfl rfl hl.1 rfl (Nat.le_of_ble_eq_true rfl) ⟨Nat.le_of_ble_eq_true rfl, Nat.le_of_ble_eq_true rfl⟩ ⟨Nat.le_of_ble_eq_true rfl, Nat.le_of_ble_eq_true rfl⟩ dX7_giveBack_3 (fun H locs hw => ?_)
  obtain ⟨v3, hq18, hf⟩ := qbd_e hf
  have J4 : ∀ (H : Heap) (locs : List Loc) (ls : Array Slot), Wd G (wM G ad x) A s H locs → lv_has ls 3 [(0, .ref (ad 0)), (1, .int a1), (2, .int a2)] → W p l e (rmk 6 0 0 136) s m args below meth c H locs 0 0 (KQI G below args s A (wM G ad xr) rv 0 0) (F0 m 32 ls [.int v3, .ref (ad 0)]) := by
    intro H locs ls hw hl
    obtain ⟨r5, x6, h7, hf⟩ := qbd2_e hf
    refine k_callVi' (rest := []) (As := [.int v3]) F ws_in (t_X7_fails h7) cv_X7_fails ml_X7_126 hw 0 rfl rfl rfl hl.1 rfl (Nat.le_of_ble_eq_true rfl) ⟨Nat.le_of_ble_eq_true rfl, Nat.le_of_ble_eq_true rfl⟩ ⟨Nat.le_of_ble_eq_true rfl, Nat.le_of_ble_eq_true rfl⟩ dX7_giveBack_32 (fun H locs hw => ?_)
    refine lv_if_eq (tgt := 40) hx hb dX7_giveBack_35 rfl (fun c8 => ?_) (fun c8 => ?_)
    · have hf := q_t c8 hf
      refine lv_aload_n hx hb dX7_giveBack_40 rfl (lv_at hl 0 rfl) ?_
      refine M_g_0_19 F ws_in hw fl_X7_48 dX7_giveBack_41 ?_
      refine lv_iload_n hx hb dX7_giveBack_44 rfl (lv_at hl 1 rfl) ?_
      refine lv_dup2_11 hx hb dX7_giveBack_45 rfl rfl ?_
      obtain ⟨g9, hf⟩ := qgd_e hf
      refine M_l_29 F hw g9 dX7_giveBack_46 ?_
      refine lv_iload_n hx hb dX7_giveBack_47 rfl (lv_at hl 2 rfl) ?_
      refine lv_isub hx hb dX7_giveBack_48 ?_
      refine M_s_29 F hw g9 dX7_giveBack_49 (fun x10 ex10 H locs hw => ?_)
      have hf := qnm_k ex10 hf
      refine lv_aload_n hx hb dX7_giveBack_50 rfl (lv_at hl 0 rfl) ?_
      obtain ⟨x11, h12, hf⟩ := qbd_e hf
      refine k_callVv' (rest := []) (As := []) F ws_in (t_X7_works h12) cv_X7_works ml_X7_206 hw 0 rfl rfl rfl hl.1 rfl (Nat.le_of_ble_eq_true rfl) ⟨Nat.le_of_ble_eq_true rfl, Nat.le_of_ble_eq_true rfl⟩ ⟨Nat.le_of_ble_eq_true rfl, Nat.le_of_ble_eq_true rfl⟩ dX7_giveBack_51 (fun H locs hw => ?_)
      refine lv_aload_n hx hb dX7_giveBack_54 rfl (lv_at hl 0 rfl) ?_
      refine M_g_0_19 F ws_in hw fl_X7_48 dX7_giveBack_55 ?_
      refine lv_iload_n hx hb dX7_giveBack_58 rfl (lv_at hl 1 rfl) ?_
      refine M_l_29 F hw g9 dX7_giveBack_59 ?_
      obtain ⟨rfl, rfl⟩ := q_s2 hf
      exact k_iret F hr hlk hw (Nat.le_of_ble_eq_true rfl) (Nat.le_of_ble_eq_true rfl) dX7_giveBack_60
    · have hf := q_f c8 hf
      refine lv_iconst (v := 0) hx hb dX7_giveBack_38 (by decide) ?_
      obtain ⟨rfl, rfl⟩ := q_s2 hf
      exact k_iret F hr hlk hw (Nat.le_of_ble_eq_true rfl) (Nat.le_of_ble_eq_true rfl) dX7_giveBack_39
  have hf := hq18
  refine lv_if_ne (tgt := 13) hx hb dX7_giveBack_6 rfl (fun c13 => ?_) (fun c13 => ?_)
  · have hf := q_f c13 hf
    refine lv_iload_n hx hb dX7_giveBack_13 rfl (lv_at hl 2 rfl) ?_
    refine lv_iconst (v := 1) hx hb dX7_giveBack_14 (by decide) ?_
    refine lv_aload_n hx hb dX7_giveBack_15 rfl (lv_at hl 0 rfl) ?_
    refine M_g_0_19 F ws_in hw fl_X7_48 dX7_giveBack_16 ?_
    refine lv_iload_n hx hb dX7_giveBack_19 rfl (lv_at hl 1 rfl) ?_
    obtain ⟨g14, hf⟩ := qgd_e hf
    refine M_l_29 F hw g14 dX7_giveBack_20 ?_
    obtain ⟨r15, h16, hf⟩ := qbd_e hf
    refine k_callPi (rest := [.ref (ad 0)]) (As := [.int a2, .int (1 : Int32), .int (x.1 29 a1.toNatClampNeg)]) F ws_in (t_X7_in h16) cs_X7_in ml_X7_122 hw rfl hl.1 rfl (Nat.le_of_ble_eq_true rfl) ⟨Nat.le_of_ble_eq_true rfl, Nat.le_of_ble_eq_true rfl⟩ ⟨Nat.le_of_ble_eq_true rfl, Nat.le_of_ble_eq_true rfl⟩ dX7_giveBack_21 (fun H locs hw => ?_)
    refine lv_if_eq (tgt := 31) hx hb dX7_giveBack_24 rfl (fun c17 => ?_) (fun c17 => ?_)
    · have hf := q_t c17 hf
      refine lv_iconst (v := 2) hx hb dX7_giveBack_31 (by decide) ?_
      obtain rfl := q_s hf
      exact J4 _ _ _ hw (lv_sub hl [0, 1, 2] rfl)
    · have hf := q_f c17 hf
      refine lv_iconst (v := 0) hx hb dX7_giveBack_27 (by decide) ?_
      refine lv_goto (tgt := 32) hx hb dX7_giveBack_28 rfl ?_
      obtain rfl := q_s hf
      exact J4 _ _ _ hw (lv_sub hl [0, 1, 2] rfl)
  · have hf := q_t c13 hf
    refine lv_iconst (v := 1) hx hb dX7_giveBack_9 (by decide) ?_
    refine lv_goto (tgt := 32) hx hb dX7_giveBack_10 rfl ?_
    obtain rfl := q_s hf
    exact J4 _ _ _ hw (lv_sub hl [0, 1, 2] rfl)
def f_X7_recall (n : Nat) (x : SX) (a1 : Int32) : Option (Int32 × SX) := (qbd (f_X7_in n a1 (0 : Int32) (28 : Int32)) fun r1 => (qbd (if r1 = 0 then some (1 : Int32) else (qbd (f_X7_statusNow n x) fun r18 => (if r18 = (1 : Int32) then (if (x.1 0 22) = (6 : Int32) then some (2 : Int32) else some (0 : Int32)) else some (2 : Int32)))) fun v3 => (qbd2 (f_X7_fails n x v3) fun r5 x6 => (if r5 = 0 then (qnm (si x6 0 23 (x6.1 0 1)) fun x9 => (qnm (si x9 0 24 a1) fun x10 => (qbd (f_X7_endOfAll n x10) fun r11 => (qnm (si x10 0 25 r11) fun x13 => (qnm (si x13 0 22 ((x13.1 0 22) + (1 : Int32))) fun x14 => (qbd (f_X7_endOfRecall n x14) fun r15 => some (r15, x14))))))) else some ((0 : Int32), x6)))))
set_option maxHeartbeats 4000000 in
set_option maxRecDepth 100000 in
theorem t_X7_recall {G : gG} {l : Launch} {ad : Nat → Nat} {n : Nat} {x : SX} {a1 : Int32} {rv : Int32} {xr : SX} (hf : f_X7_recall n x a1 = some (rv, xr)) : MetI G l yX7_recall cX7_recall 2 (some .int) 3 0 0 64 [.ref (ad 0), .int a1] (wM G ad x) (wM G ad xr) rv := by
  refine k_ofI (by decide) (Nat.le_of_ble_eq_true rfl) ?_
  intro p e s m args below meth c ls A F hr hlk hl hw
  have hx := F.1
  have hb := F.2.1
  have hl : lv_has ls 2 [(0, .ref (ad 0)), (1, .int a1)] := hl
  unfold f_X7_recall at hf
  refine lv_aload_n hx hb dX7_recall_0 rfl (lv_at hl 0 rfl) ?_
  refine lv_iload_n hx hb dX7_recall_1 rfl (lv_at hl 1 rfl) ?_
  refine lv_iconst (v := 0) hx hb dX7_recall_2 (by decide) ?_
  refine lv_bipush (v := 28) hx hb dX7_recall_3 (by decide) ?_
  obtain ⟨r1, h2, hf⟩ := qbd_e hf
  refine k_callPi (rest := [.ref (ad 0)]) (As := [.int a1, .int (0 : Int32), .int (28 : Int32)]) F ws_in (t_X7_in h2) cs_X7_in ml_X7_122 hw rfl hl.1 rfl (Nat.le_of_ble_eq_true rfl) ⟨Nat.le_of_ble_eq_true rfl, Nat.le_of_ble_eq_true rfl⟩ ⟨Nat.le_of_ble_eq_true rfl, Nat.le_of_ble_eq_true rfl⟩ dX7_recall_5 (fun H locs hw => ?_)
  obtain ⟨v3, hq22, hf⟩ := qbd_e hf
  have J4 : ∀ (H : Heap) (locs : List Loc) (ls : Array Slot), Wd G (wM G ad x) A s H locs → lv_has ls 2 [(0, .ref (ad 0)), (1, .int a1)] → W p l e (rmk 3 0 0 64) s m args below meth c H locs 0 0 (KQI G below args s A (wM G ad xr) rv 0 0) (F0 m 37 ls [.int v3, .ref (ad 0)]) := by
    intro H locs ls hw hl
    obtain ⟨r5, x6, h7, hf⟩ := qbd2_e hf
    refine k_callVi' (rest := []) (As := [.int v3]) F ws_in (t_X7_fails h7) cv_X7_fails ml_X7_126 hw 0 rfl rfl rfl hl.1 rfl (Nat.le_of_ble_eq_true rfl) ⟨Nat.le_of_ble_eq_true rfl, Nat.le_of_ble_eq_true rfl⟩ ⟨Nat.le_of_ble_eq_true rfl, Nat.le_of_ble_eq_true rfl⟩ dX7_recall_37 (fun H locs hw => ?_)
    refine lv_if_eq (tgt := 45) hx hb dX7_recall_40 rfl (fun c8 => ?_) (fun c8 => ?_)
    · have hf := q_t c8 hf
      refine lv_aload_n hx hb dX7_recall_45 rfl (lv_at hl 0 rfl) ?_
      refine lv_aload_n hx hb dX7_recall_46 rfl (lv_at hl 0 rfl) ?_
      refine M_g_0_1 F ws_in hw fl_X7_187 dX7_recall_47 ?_
      refine M_p_0_23 F ws_in hw fl_X7_180 dX7_recall_50 (fun x9 ex9 H locs hw => ?_)
      have hf := qnm_k ex9 hf
      refine lv_aload_n hx hb dX7_recall_53 rfl (lv_at hl 0 rfl) ?_
      refine lv_iload_n hx hb dX7_recall_54 rfl (lv_at hl 1 rfl) ?_
      refine M_p_0_24 F ws_in hw fl_X7_174 dX7_recall_55 (fun x10 ex10 H locs hw => ?_)
      have hf := qnm_k ex10 hf
      refine lv_aload_n hx hb dX7_recall_58 rfl (lv_at hl 0 rfl) ?_
      refine lv_aload_n hx hb dX7_recall_59 rfl (lv_at hl 0 rfl) ?_
      obtain ⟨r11, h12, hf⟩ := qbd_e hf
      refine k_callVi' (rest := [.ref (ad 0)]) (As := []) F ws_in (t_X7_endOfAll h12) cv_X7_endOfAll ml_X7_197 hw 0 rfl rfl rfl hl.1 rfl (Nat.le_of_ble_eq_true rfl) ⟨Nat.le_of_ble_eq_true rfl, Nat.le_of_ble_eq_true rfl⟩ ⟨Nat.le_of_ble_eq_true rfl, Nat.le_of_ble_eq_true rfl⟩ dX7_recall_60 (fun H locs hw => ?_)
      refine M_p_0_25 F ws_in hw fl_X7_177 dX7_recall_63 (fun x13 ex13 H locs hw => ?_)
      have hf := qnm_k ex13 hf
      refine lv_aload_n hx hb dX7_recall_66 rfl (lv_at hl 0 rfl) ?_
      refine lv_dup hx hb dX7_recall_67 rfl ?_
      refine M_g_0_22 F ws_in hw fl_X7_171 dX7_recall_68 ?_
      refine lv_iconst (v := 1) hx hb dX7_recall_71 (by decide) ?_
      refine lv_iadd hx hb dX7_recall_72 ?_
      refine M_p_0_22 F ws_in hw fl_X7_171 dX7_recall_73 (fun x14 ex14 H locs hw => ?_)
      have hf := qnm_k ex14 hf
      refine lv_aload_n hx hb dX7_recall_76 rfl (lv_at hl 0 rfl) ?_
      obtain ⟨r15, h16, hf⟩ := qbd_e hf
      refine k_callVi' (rest := []) (As := []) F ws_in (t_X7_endOfRecall h16) cv_X7_endOfRecall ml_X7_183 hw 0 rfl rfl rfl hl.1 rfl (Nat.le_of_ble_eq_true rfl) ⟨Nat.le_of_ble_eq_true rfl, Nat.le_of_ble_eq_true rfl⟩ ⟨Nat.le_of_ble_eq_true rfl, Nat.le_of_ble_eq_true rfl⟩ dX7_recall_77 (fun H locs hw => ?_)
      obtain ⟨rfl, rfl⟩ := q_s2 hf
      exact k_iret F hr hlk hw (Nat.le_of_ble_eq_true rfl) (Nat.le_of_ble_eq_true rfl) dX7_recall_80
    · have hf := q_f c8 hf
      refine lv_iconst (v := 0) hx hb dX7_recall_43 (by decide) ?_
      obtain ⟨rfl, rfl⟩ := q_s2 hf
      exact k_iret F hr hlk hw (Nat.le_of_ble_eq_true rfl) (Nat.le_of_ble_eq_true rfl) dX7_recall_44
  have hf := hq22
  refine lv_if_ne (tgt := 15) hx hb dX7_recall_8 rfl (fun c17 => ?_) (fun c17 => ?_)
  · have hf := q_f c17 hf
    refine lv_aload_n hx hb dX7_recall_15 rfl (lv_at hl 0 rfl) ?_
    obtain ⟨r18, h19, hf⟩ := qbd_e hf
    refine k_callVi' (rest := [.ref (ad 0)]) (As := []) F ws_in (t_X7_statusNow h19) cv_X7_statusNow ml_X7_234 hw 0 rfl rfl rfl hl.1 rfl (Nat.le_of_ble_eq_true rfl) ⟨Nat.le_of_ble_eq_true rfl, Nat.le_of_ble_eq_true rfl⟩ ⟨Nat.le_of_ble_eq_true rfl, Nat.le_of_ble_eq_true rfl⟩ dX7_recall_16 (fun H locs hw => ?_)
    refine lv_iconst (v := 1) hx hb dX7_recall_19 (by decide) ?_
    refine lv_icmp_ne (tgt := 32) hx hb dX7_recall_20 rfl (fun c20 => ?_) (fun c20 => ?_)
    · have hf := q_f c20 hf
      refine lv_iconst (v := 2) hx hb dX7_recall_32 (by decide) ?_
      refine lv_goto (tgt := 37) hx hb dX7_recall_33 rfl ?_
      obtain rfl := q_s hf
      exact J4 _ _ _ hw (lv_sub hl [0, 1] rfl)
    · have hf := q_t c20 hf
      refine lv_aload_n hx hb dX7_recall_23 rfl (lv_at hl 0 rfl) ?_
      refine M_g_0_22 F ws_in hw fl_X7_171 dX7_recall_24 ?_
      refine lv_bipush (v := 6) hx hb dX7_recall_27 (by decide) ?_
      refine lv_icmp_ne (tgt := 36) hx hb dX7_recall_29 rfl (fun c21 => ?_) (fun c21 => ?_)
      · have hf := q_f c21 hf
        refine lv_iconst (v := 0) hx hb dX7_recall_36 (by decide) ?_
        obtain rfl := q_s hf
        exact J4 _ _ _ hw (lv_sub hl [0, 1] rfl)
      · have hf := q_t c21 hf
        refine lv_iconst (v := 2) hx hb dX7_recall_32 (by decide) ?_
        refine lv_goto (tgt := 37) hx hb dX7_recall_33 rfl ?_
        obtain rfl := q_s hf
        exact J4 _ _ _ hw (lv_sub hl [0, 1] rfl)
  · have hf := q_t c17 hf
    refine lv_iconst (v := 1) hx hb dX7_recall_11 (by decide) ?_
    refine lv_goto (tgt := 37) hx hb dX7_recall_12 rfl ?_
    obtain rfl := q_s hf
    exact J4 _ _ _ hw (lv_sub hl [0, 1] rfl)
def f_X7_termCount (n : Nat) (x : SX) : Option (Int32 × SX) := (qnm (si x 0 0 (0 : Int32)) fun x1 => some ((x1.1 0 6), x1))
set_option maxHeartbeats 4000000 in
set_option maxRecDepth 100000 in
theorem t_X7_termCount {G : gG} {l : Launch} {ad : Nat → Nat} {n : Nat} {x : SX} {rv : Int32} {xr : SX} (hf : f_X7_termCount n x = some (rv, xr)) : MetI G l yX7_termCount cX7_termCount 1 (some .int) 0 0 0 0 [.ref (ad 0)] (wM G ad x) (wM G ad xr) rv := by
  refine k_ofI (by decide) (Nat.le_of_ble_eq_true rfl) ?_
  intro p e s m args below meth c ls A F hr hlk hl hw
  have hx := F.1
  have hb := F.2.1
  have hl : lv_has ls 1 [(0, .ref (ad 0))] := hl
  unfold f_X7_termCount at hf
  refine lv_aload_n hx hb dX7_termCount_0 rfl (lv_at hl 0 rfl) ?_
  refine lv_iconst (v := 0) hx hb dX7_termCount_1 (by decide) ?_
  refine M_p_0_0 F ws_in hw fl_X7_93 dX7_termCount_2 (fun x1 ex1 H locs hw => ?_)
  have hf := qnm_k ex1 hf
  refine lv_aload_n hx hb dX7_termCount_5 rfl (lv_at hl 0 rfl) ?_
  refine M_g_0_6 F ws_in hw fl_X7_140 dX7_termCount_6 ?_
  obtain ⟨rfl, rfl⟩ := q_s2 hf
  exact k_iret F hr hlk hw (Nat.le_of_ble_eq_true rfl) (Nat.le_of_ble_eq_true rfl) dX7_termCount_9
def f_X7_kindOf (n : Nat) (x : SX) (a1 : Int32) : Option (Int32 × SX) := (qbd (f_X7_isTerm n x a1) fun r1 => (qbd (if r1 = 0 then some (1 : Int32) else some (0 : Int32)) fun v3 => (qbd2 (f_X7_fails n x v3) fun r5 x6 => (qbd (if r5 = 0 then (qgd (qin a1 10) (some (x6.1 17 a1.toNatClampNeg))) else some (0 : Int32)) fun v8 => some (v8, x6)))))
set_option maxHeartbeats 4000000 in
set_option maxRecDepth 100000 in
theorem t_X7_kindOf {G : gG} {l : Launch} {ad : Nat → Nat} {n : Nat} {x : SX} {a1 : Int32} {rv : Int32} {xr : SX} (hf : f_X7_kindOf n x a1 = some (rv, xr)) : MetI G l yX7_kindOf cX7_kindOf 2 (some .int) 2 0 0 43 [.ref (ad 0), .int a1] (wM G ad x) (wM G ad xr) rv := by
  refine k_ofI (by decide) (Nat.le_of_ble_eq_true rfl) ?_
  intro p e s m args below meth c ls A F hr hlk hl hw
  have hx := F.1
  have hb := F.2.1
  have hl : lv_has ls 2 [(0, .ref (ad 0)), (1, .int a1)] := hl
  unfold f_X7_kindOf at hf
  refine lv_aload_n hx hb dX7_kindOf_0 rfl (lv_at hl 0 rfl) ?_
  refine lv_aload_n hx hb dX7_kindOf_1 rfl (lv_at hl 0 rfl) ?_
  refine lv_iload_n hx hb dX7_kindOf_2 rfl (lv_at hl 1 rfl) ?_
  obtain ⟨r1, h2, hf⟩ := qbd_e hf
  refine k_callVi' (rest := [.ref (ad 0)]) (As := [.int a1]) F ws_in (t_X7_isTerm h2) cv_X7_isTerm ml_X7_216 hw 0 rfl rfl rfl hl.1 rfl (Nat.le_of_ble_eq_true rfl) ⟨Nat.le_of_ble_eq_true rfl, Nat.le_of_ble_eq_true rfl⟩ ⟨Nat.le_of_ble_eq_true rfl, Nat.le_of_ble_eq_true rfl⟩ dX7_kindOf_3 (fun H locs hw => ?_)
  obtain ⟨v3, hq14, hf⟩ := qbd_e hf
  have J4 : ∀ (H : Heap) (locs : List Loc) (ls : Array Slot), Wd G (wM G ad x) A s H locs → lv_has ls 2 [(0, .ref (ad 0)), (1, .int a1)] → W p l e (rmk 2 0 0 43) s m args below meth c H locs 0 0 (KQI G below args s A (wM G ad xr) rv 0 0) (F0 m 14 ls [.int v3, .ref (ad 0)]) := by
    intro H locs ls hw hl
    obtain ⟨r5, x6, h7, hf⟩ := qbd2_e hf
    refine k_callVi' (rest := []) (As := [.int v3]) F ws_in (t_X7_fails h7) cv_X7_fails ml_X7_126 hw 0 rfl rfl rfl hl.1 rfl (Nat.le_of_ble_eq_true rfl) ⟨Nat.le_of_ble_eq_true rfl, Nat.le_of_ble_eq_true rfl⟩ ⟨Nat.le_of_ble_eq_true rfl, Nat.le_of_ble_eq_true rfl⟩ dX7_kindOf_14 (fun H locs hw => ?_)
    obtain ⟨v8, hq12, hf⟩ := qbd_e hf
    have J9 : ∀ (H : Heap) (locs : List Loc) (ls : Array Slot), Wd G (wM G ad x6) A s H locs → lv_has ls 2 [] → W p l e (rmk 2 0 0 43) s m args below meth c H locs 0 0 (KQI G below args s A (wM G ad xr) rv 0 0) (F0 m 30 ls [.int v8]) := by
      intro H locs ls hw hl
      obtain ⟨rfl, rfl⟩ := q_s2 hf
      exact k_iret F hr hlk hw (Nat.le_of_ble_eq_true rfl) (Nat.le_of_ble_eq_true rfl) dX7_kindOf_30
    have hf := hq12
    refine lv_if_eq (tgt := 24) hx hb dX7_kindOf_17 rfl (fun c10 => ?_) (fun c10 => ?_)
    · have hf := q_t c10 hf
      refine lv_aload_n hx hb dX7_kindOf_24 rfl (lv_at hl 0 rfl) ?_
      refine M_g_0_7 F ws_in hw fl_X7_17 dX7_kindOf_25 ?_
      refine lv_iload_n hx hb dX7_kindOf_28 rfl (lv_at hl 1 rfl) ?_
      obtain ⟨g11, hf⟩ := qgd_e hf
      refine M_l_17 F hw g11 dX7_kindOf_29 ?_
      obtain rfl := q_s hf
      exact J9 _ _ _ hw (lv_sub hl [] rfl)
    · have hf := q_f c10 hf
      refine lv_iconst (v := 0) hx hb dX7_kindOf_20 (by decide) ?_
      refine lv_goto (tgt := 30) hx hb dX7_kindOf_21 rfl ?_
      obtain rfl := q_s hf
      exact J9 _ _ _ hw (lv_sub hl [] rfl)
  have hf := hq14
  refine lv_if_eq (tgt := 13) hx hb dX7_kindOf_6 rfl (fun c13 => ?_) (fun c13 => ?_)
  · have hf := q_t c13 hf
    refine lv_iconst (v := 1) hx hb dX7_kindOf_13 (by decide) ?_
    obtain rfl := q_s hf
    exact J4 _ _ _ hw (lv_sub hl [0, 1] rfl)
  · have hf := q_f c13 hf
    refine lv_iconst (v := 0) hx hb dX7_kindOf_9 (by decide) ?_
    refine lv_goto (tgt := 14) hx hb dX7_kindOf_10 rfl ?_
    obtain rfl := q_s hf
    exact J4 _ _ _ hw (lv_sub hl [0, 1] rfl)
def f_X7_isQuashed (n : Nat) (x : SX) (a1 : Int32) : Option (Int32 × SX) := (qbd (f_X7_isTerm n x a1) fun r1 => (qbd (if r1 = 0 then some (1 : Int32) else some (0 : Int32)) fun v3 => (qbd2 (f_X7_fails n x v3) fun r5 x6 => (qbd (if r5 = 0 then (qgd (qin a1 10) ((if (x6.1 23 a1.toNatClampNeg) = 0 then some (0 : Int32) else some (1 : Int32)))) else some (0 : Int32)) fun v8 => (qgd (qz v8) (some (v8, x6)))))))
set_option maxHeartbeats 4000000 in
set_option maxRecDepth 100000 in
theorem t_X7_isQuashed {G : gG} {l : Launch} {ad : Nat → Nat} {n : Nat} {x : SX} {a1 : Int32} {rv : Int32} {xr : SX} (hf : f_X7_isQuashed n x a1 = some (rv, xr)) : MetI G l yX7_isQuashed cX7_isQuashed 2 (some .boolean) 2 0 0 43 [.ref (ad 0), .int a1] (wM G ad x) (wM G ad xr) rv := by
  refine k_ofI (by decide) (Nat.le_of_ble_eq_true rfl) ?_
  intro p e s m args below meth c ls A F hr hlk hl hw
  have hx := F.1
  have hb := F.2.1
  have hl : lv_has ls 2 [(0, .ref (ad 0)), (1, .int a1)] := hl
  unfold f_X7_isQuashed at hf
  refine lv_aload_n hx hb dX7_isQuashed_0 rfl (lv_at hl 0 rfl) ?_
  refine lv_aload_n hx hb dX7_isQuashed_1 rfl (lv_at hl 0 rfl) ?_
  refine lv_iload_n hx hb dX7_isQuashed_2 rfl (lv_at hl 1 rfl) ?_
  obtain ⟨r1, h2, hf⟩ := qbd_e hf
  refine k_callVi' (rest := [.ref (ad 0)]) (As := [.int a1]) F ws_in (t_X7_isTerm h2) cv_X7_isTerm ml_X7_216 hw 0 rfl rfl rfl hl.1 rfl (Nat.le_of_ble_eq_true rfl) ⟨Nat.le_of_ble_eq_true rfl, Nat.le_of_ble_eq_true rfl⟩ ⟨Nat.le_of_ble_eq_true rfl, Nat.le_of_ble_eq_true rfl⟩ dX7_isQuashed_3 (fun H locs hw => ?_)
  obtain ⟨v3, hq16, hf⟩ := qbd_e hf
  have J4 : ∀ (H : Heap) (locs : List Loc) (ls : Array Slot), Wd G (wM G ad x) A s H locs → lv_has ls 2 [(0, .ref (ad 0)), (1, .int a1)] → W p l e (rmk 2 0 0 43) s m args below meth c H locs 0 0 (KQI G below args s A (wM G ad xr) rv 0 0) (F0 m 14 ls [.int v3, .ref (ad 0)]) := by
    intro H locs ls hw hl
    obtain ⟨r5, x6, h7, hf⟩ := qbd2_e hf
    refine k_callVi' (rest := []) (As := [.int v3]) F ws_in (t_X7_fails h7) cv_X7_fails ml_X7_126 hw 0 rfl rfl rfl hl.1 rfl (Nat.le_of_ble_eq_true rfl) ⟨Nat.le_of_ble_eq_true rfl, Nat.le_of_ble_eq_true rfl⟩ ⟨Nat.le_of_ble_eq_true rfl, Nat.le_of_ble_eq_true rfl⟩ dX7_isQuashed_14 (fun H locs hw => ?_)
    obtain ⟨v8, hq14, hf⟩ := qbd_e hf
    have J9 : ∀ (H : Heap) (locs : List Loc) (ls : Array Slot), Wd G (wM G ad x6) A s H locs → lv_has ls 2 [] → W p l e (rmk 2 0 0 43) s m args below meth c H locs 0 0 (KQI G below args s A (wM G ad xr) rv 0 0) (F0 m 34 ls [.int v8]) := by
      intro H locs ls hw hl
      obtain ⟨g10, hf⟩ := qgd_e hf
      obtain ⟨rfl, rfl⟩ := q_s2 hf
      exact k_zret F hr hlk hw (qz_n g10) (Nat.le_of_ble_eq_true rfl) (Nat.le_of_ble_eq_true rfl) dX7_isQuashed_34
    have hf := hq14
    refine lv_if_ne (tgt := 33) hx hb dX7_isQuashed_17 rfl (fun c11 => ?_) (fun c11 => ?_)
    · have hf := q_f c11 hf
      refine lv_iconst (v := 0) hx hb dX7_isQuashed_33 (by decide) ?_
      obtain rfl := q_s hf
      exact J9 _ _ _ hw (lv_sub hl [] rfl)
    · have hf := q_t c11 hf
      refine lv_aload_n hx hb dX7_isQuashed_20 rfl (lv_at hl 0 rfl) ?_
      refine M_g_0_13 F ws_in hw fl_X7_35 dX7_isQuashed_21 ?_
      refine lv_iload_n hx hb dX7_isQuashed_24 rfl (lv_at hl 1 rfl) ?_
      obtain ⟨g12, hf⟩ := qgd_e hf
      refine M_l_23 F hw g12 dX7_isQuashed_25 ?_
      refine lv_if_eq (tgt := 33) hx hb dX7_isQuashed_26 rfl (fun c13 => ?_) (fun c13 => ?_)
      · have hf := q_t c13 hf
        refine lv_iconst (v := 0) hx hb dX7_isQuashed_33 (by decide) ?_
        obtain rfl := q_s hf
        exact J9 _ _ _ hw (lv_sub hl [] rfl)
      · have hf := q_f c13 hf
        refine lv_iconst (v := 1) hx hb dX7_isQuashed_29 (by decide) ?_
        refine lv_goto (tgt := 34) hx hb dX7_isQuashed_30 rfl ?_
        obtain rfl := q_s hf
        exact J9 _ _ _ hw (lv_sub hl [] rfl)
  have hf := hq16
  refine lv_if_eq (tgt := 13) hx hb dX7_isQuashed_6 rfl (fun c15 => ?_) (fun c15 => ?_)
  · have hf := q_t c15 hf
    refine lv_iconst (v := 1) hx hb dX7_isQuashed_13 (by decide) ?_
    obtain rfl := q_s hf
    exact J4 _ _ _ hw (lv_sub hl [0, 1] rfl)
  · have hf := q_f c15 hf
    refine lv_iconst (v := 0) hx hb dX7_isQuashed_9 (by decide) ?_
    refine lv_goto (tgt := 14) hx hb dX7_isQuashed_10 rfl ?_
    obtain rfl := q_s hf
    exact J4 _ _ _ hw (lv_sub hl [0, 1] rfl)
def f_X7_failsFor (n : Nat) (x : SX) (a1 : Int32) : Option (Int32 × SX) := (qbd (f_X7_isTerm n x a1) fun r1 => (qbd (if r1 = 0 then some (1 : Int32) else (qbd (f_X7_isIn n x a1) fun r10 => (if r10 = 0 then some (2 : Int32) else some (0 : Int32)))) fun v3 => (qbd2 (f_X7_fails n x v3) fun r5 x6 => (qgd (qz r5) (some (r5, x6))))))
set_option maxHeartbeats 4000000 in
set_option maxRecDepth 100000 in
theorem t_X7_failsFor {G : gG} {l : Launch} {ad : Nat → Nat} {n : Nat} {x : SX} {a1 : Int32} {rv : Int32} {xr : SX} (hf : f_X7_failsFor n x a1 = some (rv, xr)) : MetI G l yX7_failsFor cX7_failsFor 2 (some .boolean) 2 0 0 43 [.ref (ad 0), .int a1] (wM G ad x) (wM G ad xr) rv := by
  refine k_ofI (by decide) (Nat.le_of_ble_eq_true rfl) ?_
  intro p e s m args below meth c ls A F hr hlk hl hw
  have hx := F.1
  have hb := F.2.1
  have hl : lv_has ls 2 [(0, .ref (ad 0)), (1, .int a1)] := hl
  unfold f_X7_failsFor at hf
  refine lv_aload_n hx hb dX7_failsFor_0 rfl (lv_at hl 0 rfl) ?_
  refine lv_aload_n hx hb dX7_failsFor_1 rfl (lv_at hl 0 rfl) ?_
  refine lv_iload_n hx hb dX7_failsFor_2 rfl (lv_at hl 1 rfl) ?_
  obtain ⟨r1, h2, hf⟩ := qbd_e hf
  refine k_callVi' (rest := [.ref (ad 0)]) (As := [.int a1]) F ws_in (t_X7_isTerm h2) cv_X7_isTerm ml_X7_216 hw 0 rfl rfl rfl hl.1 rfl (Nat.le_of_ble_eq_true rfl) ⟨Nat.le_of_ble_eq_true rfl, Nat.le_of_ble_eq_true rfl⟩ ⟨Nat.le_of_ble_eq_true rfl, Nat.le_of_ble_eq_true rfl⟩ dX7_failsFor_3 (fun H locs hw => ?_)
  obtain ⟨v3, hq13, hf⟩ := qbd_e hf
  have J4 : ∀ (H : Heap) (locs : List Loc) (ls : Array Slot), Wd G (wM G ad x) A s H locs → lv_has ls 2 [] → W p l e (rmk 2 0 0 43) s m args below meth c H locs 0 0 (KQI G below args s A (wM G ad xr) rv 0 0) (F0 m 26 ls [.int v3, .ref (ad 0)]) := by
    intro H locs ls hw hl
    obtain ⟨r5, x6, h7, hf⟩ := qbd2_e hf
    refine k_callVi' (rest := []) (As := [.int v3]) F ws_in (t_X7_fails h7) cv_X7_fails ml_X7_126 hw 0 rfl rfl rfl hl.1 rfl (Nat.le_of_ble_eq_true rfl) ⟨Nat.le_of_ble_eq_true rfl, Nat.le_of_ble_eq_true rfl⟩ ⟨Nat.le_of_ble_eq_true rfl, Nat.le_of_ble_eq_true rfl⟩ dX7_failsFor_26 (fun H locs hw => ?_)
    obtain ⟨g8, hf⟩ := qgd_e hf
    obtain ⟨rfl, rfl⟩ := q_s2 hf
    exact k_zret F hr hlk hw (qz_n g8) (Nat.le_of_ble_eq_true rfl) (Nat.le_of_ble_eq_true rfl) dX7_failsFor_29
  have hf := hq13
  refine lv_if_ne (tgt := 13) hx hb dX7_failsFor_6 rfl (fun c9 => ?_) (fun c9 => ?_)
  · have hf := q_f c9 hf
    refine lv_aload_n hx hb dX7_failsFor_13 rfl (lv_at hl 0 rfl) ?_
    refine lv_iload_n hx hb dX7_failsFor_14 rfl (lv_at hl 1 rfl) ?_
    obtain ⟨r10, h11, hf⟩ := qbd_e hf
    refine k_callVi' (rest := [.ref (ad 0)]) (As := [.int a1]) F ws_in (t_X7_isIn h11) cv_X7_isIn ml_X7_165 hw 0 rfl rfl rfl hl.1 rfl (Nat.le_of_ble_eq_true rfl) ⟨Nat.le_of_ble_eq_true rfl, Nat.le_of_ble_eq_true rfl⟩ ⟨Nat.le_of_ble_eq_true rfl, Nat.le_of_ble_eq_true rfl⟩ dX7_failsFor_15 (fun H locs hw => ?_)
    refine lv_if_eq (tgt := 25) hx hb dX7_failsFor_18 rfl (fun c12 => ?_) (fun c12 => ?_)
    · have hf := q_t c12 hf
      refine lv_iconst (v := 2) hx hb dX7_failsFor_25 (by decide) ?_
      obtain rfl := q_s hf
      exact J4 _ _ _ hw (lv_sub hl [] rfl)
    · have hf := q_f c12 hf
      refine lv_iconst (v := 0) hx hb dX7_failsFor_21 (by decide) ?_
      refine lv_goto (tgt := 26) hx hb dX7_failsFor_22 rfl ?_
      obtain rfl := q_s hf
      exact J4 _ _ _ hw (lv_sub hl [] rfl)
  · have hf := q_t c9 hf
    refine lv_iconst (v := 1) hx hb dX7_failsFor_9 (by decide) ?_
    refine lv_goto (tgt := 26) hx hb dX7_failsFor_10 rfl ?_
    obtain rfl := q_s hf
    exact J4 _ _ _ hw (lv_sub hl [] rfl)
def f_X7_parentOf (n : Nat) (x : SX) (a1 : Int32) : Option (Int32 × SX) := (qbd2 (f_X7_failsFor n x a1) fun r1 x2 => (if r1 = 0 then (qgd (qin a1 10) ((qbd (if (x2.1 22 a1.toNatClampNeg) = (-1 : Int32) then some (3 : Int32) else some (0 : Int32)) fun v6 => (qbd2 (f_X7_fails n x2 v6) fun r8 x9 => (if r8 = 0 then some ((x9.1 22 a1.toNatClampNeg), x9) else some ((0 : Int32), x9)))))) else some ((0 : Int32), x2)))
set_option maxHeartbeats 4000000 in
set_option maxRecDepth 100000 in
theorem t_X7_parentOf {G : gG} {l : Launch} {ad : Nat → Nat} {n : Nat} {x : SX} {a1 : Int32} {rv : Int32} {xr : SX} (hf : f_X7_parentOf n x a1 = some (rv, xr)) : MetI G l yX7_parentOf cX7_parentOf 2 (some .int) 3 0 0 64 [.ref (ad 0), .int a1] (wM G ad x) (wM G ad xr) rv := by
  refine k_ofI (by decide) (Nat.le_of_ble_eq_true rfl) ?_
  intro p e s m args below meth c ls A F hr hlk hl hw
  have hx := F.1
  have hb := F.2.1
  have hl : lv_has ls 2 [(0, .ref (ad 0)), (1, .int a1)] := hl
  unfold f_X7_parentOf at hf
  refine lv_aload_n hx hb dX7_parentOf_0 rfl (lv_at hl 0 rfl) ?_
  refine lv_iload_n hx hb dX7_parentOf_1 rfl (lv_at hl 1 rfl) ?_
  obtain ⟨r1, x2, h3, hf⟩ := qbd2_e hf
  refine k_callVi' (rest := []) (As := [.int a1]) F ws_in (t_X7_failsFor h3) cv_X7_failsFor ml_X7_242 hw 0 rfl rfl rfl hl.1 rfl (Nat.le_of_ble_eq_true rfl) ⟨Nat.le_of_ble_eq_true rfl, Nat.le_of_ble_eq_true rfl⟩ ⟨Nat.le_of_ble_eq_true rfl, Nat.le_of_ble_eq_true rfl⟩ dX7_parentOf_2 (fun H locs hw => ?_)
  refine lv_if_ne (tgt := 30) hx hb dX7_parentOf_5 rfl (fun c4 => ?_) (fun c4 => ?_)
  · have hf := q_f c4 hf
    refine lv_iconst (v := 0) hx hb dX7_parentOf_30 (by decide) ?_
    obtain ⟨rfl, rfl⟩ := q_s2 hf
    exact k_iret F hr hlk hw (Nat.le_of_ble_eq_true rfl) (Nat.le_of_ble_eq_true rfl) dX7_parentOf_31
  · have hf := q_t c4 hf
    refine lv_aload_n hx hb dX7_parentOf_8 rfl (lv_at hl 0 rfl) ?_
    refine lv_aload_n hx hb dX7_parentOf_9 rfl (lv_at hl 0 rfl) ?_
    refine M_g_0_12 F ws_in hw fl_X7_32 dX7_parentOf_10 ?_
    refine lv_iload_n hx hb dX7_parentOf_13 rfl (lv_at hl 1 rfl) ?_
    obtain ⟨g5, hf⟩ := qgd_e hf
    refine M_l_22 F hw g5 dX7_parentOf_14 ?_
    refine lv_iconst (v := -1) hx hb dX7_parentOf_15 (by decide) ?_
    obtain ⟨v6, hq13, hf⟩ := qbd_e hf
    have J7 : ∀ (H : Heap) (locs : List Loc) (ls : Array Slot), Wd G (wM G ad x2) A s H locs → lv_has ls 2 [(0, .ref (ad 0)), (1, .int a1)] → W p l e (rmk 3 0 0 64) s m args below meth c H locs 0 0 (KQI G below args s A (wM G ad xr) rv 0 0) (F0 m 24 ls [.int v6, .ref (ad 0)]) := by
      intro H locs ls hw hl
      obtain ⟨r8, x9, h10, hf⟩ := qbd2_e hf
      refine k_callVi' (rest := []) (As := [.int v6]) F ws_in (t_X7_fails h10) cv_X7_fails ml_X7_126 hw 0 rfl rfl rfl hl.1 rfl (Nat.le_of_ble_eq_true rfl) ⟨Nat.le_of_ble_eq_true rfl, Nat.le_of_ble_eq_true rfl⟩ ⟨Nat.le_of_ble_eq_true rfl, Nat.le_of_ble_eq_true rfl⟩ dX7_parentOf_24 (fun H locs hw => ?_)
      refine lv_if_eq (tgt := 32) hx hb dX7_parentOf_27 rfl (fun c11 => ?_) (fun c11 => ?_)
      · have hf := q_t c11 hf
        refine lv_aload_n hx hb dX7_parentOf_32 rfl (lv_at hl 0 rfl) ?_
        refine M_g_0_12 F ws_in hw fl_X7_32 dX7_parentOf_33 ?_
        refine lv_iload_n hx hb dX7_parentOf_36 rfl (lv_at hl 1 rfl) ?_
        refine M_l_22 F hw g5 dX7_parentOf_37 ?_
        obtain ⟨rfl, rfl⟩ := q_s2 hf
        exact k_iret F hr hlk hw (Nat.le_of_ble_eq_true rfl) (Nat.le_of_ble_eq_true rfl) dX7_parentOf_38
      · have hf := q_f c11 hf
        refine lv_iconst (v := 0) hx hb dX7_parentOf_30 (by decide) ?_
        obtain ⟨rfl, rfl⟩ := q_s2 hf
        exact k_iret F hr hlk hw (Nat.le_of_ble_eq_true rfl) (Nat.le_of_ble_eq_true rfl) dX7_parentOf_31
    have hf := hq13
    refine lv_icmp_ne (tgt := 23) hx hb dX7_parentOf_16 rfl (fun c12 => ?_) (fun c12 => ?_)
    · have hf := q_f c12 hf
      refine lv_iconst (v := 0) hx hb dX7_parentOf_23 (by decide) ?_
      obtain rfl := q_s hf
      exact J7 _ _ _ hw (lv_sub hl [0, 1] rfl)
    · have hf := q_t c12 hf
      refine lv_iconst (v := 3) hx hb dX7_parentOf_19 (by decide) ?_
      refine lv_goto (tgt := 24) hx hb dX7_parentOf_20 rfl ?_
      obtain rfl := q_s hf
      exact J7 _ _ _ hw (lv_sub hl [0, 1] rfl)
def f_X7_chainLength (n : Nat) (x : SX) (a1 : Int32) : Option (Int32 × SX) := (qbd2 (f_X7_failsFor n x a1) fun r1 x2 => (qbd (if r1 = 0 then (qbd (f_X7_chainSize n x2 a1) fun r7 => some r7) else some (0 : Int32)) fun v4 => some (v4, x2)))
set_option maxHeartbeats 4000000 in
set_option maxRecDepth 100000 in
theorem t_X7_chainLength {G : gG} {l : Launch} {ad : Nat → Nat} {n : Nat} {x : SX} {a1 : Int32} {rv : Int32} {xr : SX} (hf : f_X7_chainLength n x a1 = some (rv, xr)) : MetI G l yX7_chainLength cX7_chainLength 2 (some .int) 3 0 0 64 [.ref (ad 0), .int a1] (wM G ad x) (wM G ad xr) rv := by
  refine k_ofI (by decide) (Nat.le_of_ble_eq_true rfl) ?_
  intro p e s m args below meth c ls A F hr hlk hl hw
  have hx := F.1
  have hb := F.2.1
  have hl : lv_has ls 2 [(0, .ref (ad 0)), (1, .int a1)] := hl
  unfold f_X7_chainLength at hf
  refine lv_aload_n hx hb dX7_chainLength_0 rfl (lv_at hl 0 rfl) ?_
  refine lv_iload_n hx hb dX7_chainLength_1 rfl (lv_at hl 1 rfl) ?_
  obtain ⟨r1, x2, h3, hf⟩ := qbd2_e hf
  refine k_callVi' (rest := []) (As := [.int a1]) F ws_in (t_X7_failsFor h3) cv_X7_failsFor ml_X7_242 hw 0 rfl rfl rfl hl.1 rfl (Nat.le_of_ble_eq_true rfl) ⟨Nat.le_of_ble_eq_true rfl, Nat.le_of_ble_eq_true rfl⟩ ⟨Nat.le_of_ble_eq_true rfl, Nat.le_of_ble_eq_true rfl⟩ dX7_chainLength_2 (fun H locs hw => ?_)
  obtain ⟨v4, hq9, hf⟩ := qbd_e hf
  have J5 : ∀ (H : Heap) (locs : List Loc) (ls : Array Slot), Wd G (wM G ad x2) A s H locs → lv_has ls 2 [] → W p l e (rmk 3 0 0 64) s m args below meth c H locs 0 0 (KQI G below args s A (wM G ad xr) rv 0 0) (F0 m 17 ls [.int v4]) := by
    intro H locs ls hw hl
    obtain ⟨rfl, rfl⟩ := q_s2 hf
    exact k_iret F hr hlk hw (Nat.le_of_ble_eq_true rfl) (Nat.le_of_ble_eq_true rfl) dX7_chainLength_17
  have hf := hq9
  refine lv_if_eq (tgt := 12) hx hb dX7_chainLength_5 rfl (fun c6 => ?_) (fun c6 => ?_)
  · have hf := q_t c6 hf
    refine lv_aload_n hx hb dX7_chainLength_12 rfl (lv_at hl 0 rfl) ?_
    refine lv_iload_n hx hb dX7_chainLength_13 rfl (lv_at hl 1 rfl) ?_
    obtain ⟨r7, h8, hf⟩ := qbd_e hf
    refine k_callVi' (rest := []) (As := [.int a1]) F ws_in (t_X7_chainSize h8) cv_X7_chainSize ml_X7_245 hw 0 rfl rfl rfl hl.1 rfl (Nat.le_of_ble_eq_true rfl) ⟨Nat.le_of_ble_eq_true rfl, Nat.le_of_ble_eq_true rfl⟩ ⟨Nat.le_of_ble_eq_true rfl, Nat.le_of_ble_eq_true rfl⟩ dX7_chainLength_14 (fun H locs hw => ?_)
    obtain rfl := q_s hf
    exact J5 _ _ _ hw (lv_sub hl [] rfl)
  · have hf := q_f c6 hf
    refine lv_iconst (v := 0) hx hb dX7_chainLength_8 (by decide) ?_
    refine lv_goto (tgt := 17) hx hb dX7_chainLength_9 rfl ?_
    obtain rfl := q_s hf
    exact J5 _ _ _ hw (lv_sub hl [] rfl)
def f_X7_descendants_l14 (x2 : SX) (a1 : Int32) (n : Nat) : Nat → Int32 → Int32 → Option (Int32 × SX)
  | 0, _, _ => none
  | m + 1, v5, v6 => (if (x2.1 0 6) ≤ v6 then some (v5, x2) else (qbd (if v6 = a1 then some (0 : Int32) else (qbd (f_X7_isIn n x2 v6) fun r14 => (if r14 = 0 then some (0 : Int32) else (qbd (f_X7_isInChain n x2 a1 v6) fun r17 => (if r17 = 0 then some (0 : Int32) else some (1 : Int32)))))) fun v9 => (qnm (v5 + v9) fun v11 => (qnm (v6 + (1 : Int32)) fun v12 => (f_X7_descendants_l14 x2 a1 n m) v11 v12))))
def f_X7_descendants (n : Nat) (x : SX) (a1 : Int32) : Option (Int32 × SX) := (qbd2 (f_X7_failsFor n x a1) fun r1 x2 => (if r1 = 0 then f_X7_descendants_l14 x2 a1 n n (0 : Int32) (0 : Int32) else some ((0 : Int32), x2)))
set_option maxHeartbeats 4000000 in
set_option maxRecDepth 100000 in
theorem t_X7_descendants {G : gG} {l : Launch} {ad : Nat → Nat} {n : Nat} {x : SX} {a1 : Int32} {rv : Int32} {xr : SX} (hf : f_X7_descendants n x a1 = some (rv, xr)) : MetI G l yX7_descendants cX7_descendants 4 (some .int) 3 0 0 64 [.ref (ad 0), .int a1] (wM G ad x) (wM G ad xr) rv := by
  refine k_ofI (by decide) (Nat.le_of_ble_eq_true rfl) ?_
  intro p e s m args below meth c ls A F hr hlk hl hw
  have hx := F.1
  have hb := F.2.1
  have hl : lv_has ls 4 [(0, .ref (ad 0)), (1, .int a1)] := hl
  unfold f_X7_descendants at hf
  refine lv_aload_n hx hb dX7_descendants_0 rfl (lv_at hl 0 rfl) ?_
  refine lv_iload_n hx hb dX7_descendants_1 rfl (lv_at hl 1 rfl) ?_
  obtain ⟨r1, x2, h3, hf⟩ := qbd2_e hf
  refine k_callVi' (rest := []) (As := [.int a1]) F ws_in (t_X7_failsFor h3) cv_X7_failsFor ml_X7_242 hw 0 rfl rfl rfl hl.1 rfl (Nat.le_of_ble_eq_true rfl) ⟨Nat.le_of_ble_eq_true rfl, Nat.le_of_ble_eq_true rfl⟩ ⟨Nat.le_of_ble_eq_true rfl, Nat.le_of_ble_eq_true rfl⟩ dX7_descendants_2 (fun H locs hw => ?_)
  refine lv_if_eq (tgt := 10) hx hb dX7_descendants_5 rfl (fun c4 => ?_) (fun c4 => ?_)
  · have hf := q_t c4 hf
    refine lv_iconst (v := 0) hx hb dX7_descendants_10 (by decide) ?_
    refine lv_istore_n (lv' := [(2, .int (0 : Int32)), (0, .ref (ad 0)), (1, .int a1)]) hx hb dX7_descendants_11 rfl hl (Nat.le_of_ble_eq_true rfl) rfl (fun ls hl => ?_)
    refine lv_iconst (v := 0) hx hb dX7_descendants_12 (by decide) ?_
    refine lv_istore_n (lv' := [(3, .int (0 : Int32)), (2, .int (0 : Int32)), (0, .ref (ad 0)), (1, .int a1)]) hx hb dX7_descendants_13 rfl hl (Nat.le_of_ble_eq_true rfl) rfl (fun ls hl => ?_)
    have L7 : ∀ (m0 : Nat) (v5 : Int32) (v6 : Int32) (H : Heap) (locs : List Loc) (ls : Array Slot), Wd G (wM G ad x2) A s H locs → lv_has ls 4 [(0, .ref (ad 0)), (1, .int a1), (2, .int v5), (3, .int v6)] → f_X7_descendants_l14 x2 a1 n m0 v5 v6 = some (rv, xr) → W p l e (rmk 3 0 0 64) s m args below meth c H locs 0 0 (KQI G below args s A (wM G ad xr) rv 0 0) (F0 m 14 ls []) := by
      intro m0
      induction m0 with
      | zero => intro v5 v6 H locs ls hw hl hf; cases hf
      | succ mL7 ih7 =>
        intro v5 v6 H locs ls hw hl hf
        unfold f_X7_descendants_l14 at hf
        refine lv_iload_n hx hb dX7_descendants_14 rfl (lv_at hl 3 rfl) ?_
        refine lv_aload_n hx hb dX7_descendants_15 rfl (lv_at hl 0 rfl) ?_
        refine M_g_0_6 F ws_in hw fl_X7_140 dX7_descendants_16 ?_
        refine lv_icmp_ge (tgt := 58) hx hb dX7_descendants_19 rfl (fun c8 => ?_) (fun c8 => ?_)
        · have hf := q_t c8 hf
          refine lv_iload_n hx hb dX7_descendants_58 rfl (lv_at hl 2 rfl) ?_
          obtain ⟨rfl, rfl⟩ := q_s2 hf
          exact k_iret F hr hlk hw (Nat.le_of_ble_eq_true rfl) (Nat.le_of_ble_eq_true rfl) dX7_descendants_59
        · have hf := q_f c8 hf
          refine lv_iload_n hx hb dX7_descendants_22 rfl (lv_at hl 2 rfl) ?_
          refine lv_iload_n hx hb dX7_descendants_23 rfl (lv_at hl 3 rfl) ?_
          refine lv_iload_n hx hb dX7_descendants_24 rfl (lv_at hl 1 rfl) ?_
          obtain ⟨v9, hq20, hf⟩ := qbd_e hf
          have J10 : ∀ (H : Heap) (locs : List Loc) (ls : Array Slot), Wd G (wM G ad x2) A s H locs → lv_has ls 4 [(0, .ref (ad 0)), (1, .int a1), (3, .int v6)] → W p l e (rmk 3 0 0 64) s m args below meth c H locs 0 0 (KQI G below args s A (wM G ad xr) rv 0 0) (F0 m 50 ls [.int v9, .int v5]) := by
            intro H locs ls hw hl
            refine lv_iadd hx hb dX7_descendants_50 ?_
            refine lv_topi (fun v11 ev11 => ?_)
            have hf := qnm_k ev11 hf
            refine lv_istore_n (lv' := [(2, .int v11), (0, .ref (ad 0)), (1, .int a1), (3, .int v6)]) hx hb dX7_descendants_51 rfl hl (Nat.le_of_ble_eq_true rfl) rfl (fun ls hl => ?_)
            obtain ⟨v12, ev12⟩ : ∃ y : Int32, y = v6 + (1 : Int32) := ⟨_, rfl⟩
            refine lv_iinc (v := v12) (lv' := [(3, .int v12), (2, .int v11), (0, .ref (ad 0)), (1, .int a1)]) hx hb dX7_descendants_52 hl (k := 3) rfl (by rw [ev12]; rfl) (Nat.le_of_ble_eq_true rfl) rfl (fun ls hl => ?_)
            have hf := qnm_k ev12 hf
            refine lv_goto (tgt := 14) hx hb dX7_descendants_55 rfl ?_
            exact ih7 v11 v12 _ _ _ hw (lv_sub hl [2, 3, 1, 0] rfl) hf
          have hf := hq20
          refine lv_icmp_eq (tgt := 49) hx hb dX7_descendants_25 rfl (fun c13 => ?_) (fun c13 => ?_)
          · have hf := q_t c13 hf
            refine lv_iconst (v := 0) hx hb dX7_descendants_49 (by decide) ?_
            obtain rfl := q_s hf
            exact J10 _ _ _ hw (lv_sub hl [0, 1, 3] rfl)
          · have hf := q_f c13 hf
            refine lv_aload_n hx hb dX7_descendants_28 rfl (lv_at hl 0 rfl) ?_
            refine lv_iload_n hx hb dX7_descendants_29 rfl (lv_at hl 3 rfl) ?_
            obtain ⟨r14, h15, hf⟩ := qbd_e hf
            refine k_callVi' (rest := [.int v5]) (As := [.int v6]) F ws_in (t_X7_isIn h15) cv_X7_isIn ml_X7_165 hw 0 rfl rfl rfl hl.1 rfl (Nat.le_of_ble_eq_true rfl) ⟨Nat.le_of_ble_eq_true rfl, Nat.le_of_ble_eq_true rfl⟩ ⟨Nat.le_of_ble_eq_true rfl, Nat.le_of_ble_eq_true rfl⟩ dX7_descendants_30 (fun H locs hw => ?_)
            refine lv_if_eq (tgt := 49) hx hb dX7_descendants_33 rfl (fun c16 => ?_) (fun c16 => ?_)
            · have hf := q_t c16 hf
              refine lv_iconst (v := 0) hx hb dX7_descendants_49 (by decide) ?_
              obtain rfl := q_s hf
              exact J10 _ _ _ hw (lv_sub hl [0, 1, 3] rfl)
            · have hf := q_f c16 hf
              refine lv_aload_n hx hb dX7_descendants_36 rfl (lv_at hl 0 rfl) ?_
              refine lv_iload_n hx hb dX7_descendants_37 rfl (lv_at hl 1 rfl) ?_
              refine lv_iload_n hx hb dX7_descendants_38 rfl (lv_at hl 3 rfl) ?_
              obtain ⟨r17, h18, hf⟩ := qbd_e hf
              refine k_callVi' (rest := [.int v5]) (As := [.int a1, .int v6]) F ws_in (t_X7_isInChain h18) cv_X7_isInChain ml_X7_146 hw 0 rfl rfl rfl hl.1 rfl (Nat.le_of_ble_eq_true rfl) ⟨Nat.le_of_ble_eq_true rfl, Nat.le_of_ble_eq_true rfl⟩ ⟨Nat.le_of_ble_eq_true rfl, Nat.le_of_ble_eq_true rfl⟩ dX7_descendants_39 (fun H locs hw => ?_)
              refine lv_if_eq (tgt := 49) hx hb dX7_descendants_42 rfl (fun c19 => ?_) (fun c19 => ?_)
              · have hf := q_t c19 hf
                refine lv_iconst (v := 0) hx hb dX7_descendants_49 (by decide) ?_
                obtain rfl := q_s hf
                exact J10 _ _ _ hw (lv_sub hl [0, 1, 3] rfl)
              · have hf := q_f c19 hf
                refine lv_iconst (v := 1) hx hb dX7_descendants_45 (by decide) ?_
                refine lv_goto (tgt := 50) hx hb dX7_descendants_46 rfl ?_
                obtain rfl := q_s hf
                exact J10 _ _ _ hw (lv_sub hl [0, 1, 3] rfl)
    exact L7 n (0 : Int32) (0 : Int32) _ _ _ hw (lv_sub hl [2, 3, 1, 0] rfl) hf
  · have hf := q_f c4 hf
    refine lv_iconst (v := 0) hx hb dX7_descendants_8 (by decide) ?_
    obtain ⟨rfl, rfl⟩ := q_s2 hf
    exact k_iret F hr hlk hw (Nat.le_of_ble_eq_true rfl) (Nat.le_of_ble_eq_true rfl) dX7_descendants_9
def f_X7_start (n : Nat) (x : SX) (a1 : Int32) : Option (Int32 × SX) := (qbd2 (f_X7_failsFor n x a1) fun r1 x2 => (qbd (if r1 = 0 then (qgd (qin a1 10) (some (x2.1 40 a1.toNatClampNeg))) else some (0 : Int32)) fun v4 => some (v4, x2)))
set_option maxHeartbeats 4000000 in
set_option maxRecDepth 100000 in
theorem t_X7_start {G : gG} {l : Launch} {ad : Nat → Nat} {n : Nat} {x : SX} {a1 : Int32} {rv : Int32} {xr : SX} (hf : f_X7_start n x a1 = some (rv, xr)) : MetI G l yX7_start cX7_start 2 (some .int) 3 0 0 64 [.ref (ad 0), .int a1] (wM G ad x) (wM G ad xr) rv := by
  refine k_ofI (by decide) (Nat.le_of_ble_eq_true rfl) ?_
  intro p e s m args below meth c ls A F hr hlk hl hw
  have hx := F.1
  have hb := F.2.1
  have hl : lv_has ls 2 [(0, .ref (ad 0)), (1, .int a1)] := hl
  unfold f_X7_start at hf
  refine lv_aload_n hx hb dX7_start_0 rfl (lv_at hl 0 rfl) ?_
  refine lv_iload_n hx hb dX7_start_1 rfl (lv_at hl 1 rfl) ?_
  obtain ⟨r1, x2, h3, hf⟩ := qbd2_e hf
  refine k_callVi' (rest := []) (As := [.int a1]) F ws_in (t_X7_failsFor h3) cv_X7_failsFor ml_X7_242 hw 0 rfl rfl rfl hl.1 rfl (Nat.le_of_ble_eq_true rfl) ⟨Nat.le_of_ble_eq_true rfl, Nat.le_of_ble_eq_true rfl⟩ ⟨Nat.le_of_ble_eq_true rfl, Nat.le_of_ble_eq_true rfl⟩ dX7_start_2 (fun H locs hw => ?_)
  obtain ⟨v4, hq8, hf⟩ := qbd_e hf
  have J5 : ∀ (H : Heap) (locs : List Loc) (ls : Array Slot), Wd G (wM G ad x2) A s H locs → lv_has ls 2 [] → W p l e (rmk 3 0 0 64) s m args below meth c H locs 0 0 (KQI G below args s A (wM G ad xr) rv 0 0) (F0 m 18 ls [.int v4]) := by
    intro H locs ls hw hl
    obtain ⟨rfl, rfl⟩ := q_s2 hf
    exact k_iret F hr hlk hw (Nat.le_of_ble_eq_true rfl) (Nat.le_of_ble_eq_true rfl) dX7_start_18
  have hf := hq8
  refine lv_if_eq (tgt := 12) hx hb dX7_start_5 rfl (fun c6 => ?_) (fun c6 => ?_)
  · have hf := q_t c6 hf
    refine lv_aload_n hx hb dX7_start_12 rfl (lv_at hl 0 rfl) ?_
    refine M_g_0_30 F ws_in hw fl_X7_57 dX7_start_13 ?_
    refine lv_iload_n hx hb dX7_start_16 rfl (lv_at hl 1 rfl) ?_
    obtain ⟨g7, hf⟩ := qgd_e hf
    refine M_l_40 F hw g7 dX7_start_17 ?_
    obtain rfl := q_s hf
    exact J5 _ _ _ hw (lv_sub hl [] rfl)
  · have hf := q_f c6 hf
    refine lv_iconst (v := 0) hx hb dX7_start_8 (by decide) ?_
    refine lv_goto (tgt := 18) hx hb dX7_start_9 rfl ?_
    obtain rfl := q_s hf
    exact J5 _ _ _ hw (lv_sub hl [] rfl)
def f_X7_length (n : Nat) (x : SX) (a1 : Int32) : Option (Int32 × SX) := (qbd2 (f_X7_failsFor n x a1) fun r1 x2 => (qbd (if r1 = 0 then (qgd (qin a1 10) (some (x2.1 41 a1.toNatClampNeg))) else some (0 : Int32)) fun v4 => some (v4, x2)))
set_option maxHeartbeats 4000000 in
set_option maxRecDepth 100000 in
theorem t_X7_length {G : gG} {l : Launch} {ad : Nat → Nat} {n : Nat} {x : SX} {a1 : Int32} {rv : Int32} {xr : SX} (hf : f_X7_length n x a1 = some (rv, xr)) : MetI G l yX7_length cX7_length 2 (some .int) 3 0 0 64 [.ref (ad 0), .int a1] (wM G ad x) (wM G ad xr) rv := by
  refine k_ofI (by decide) (Nat.le_of_ble_eq_true rfl) ?_
  intro p e s m args below meth c ls A F hr hlk hl hw
  have hx := F.1
  have hb := F.2.1
  have hl : lv_has ls 2 [(0, .ref (ad 0)), (1, .int a1)] := hl
  unfold f_X7_length at hf
  refine lv_aload_n hx hb dX7_length_0 rfl (lv_at hl 0 rfl) ?_
  refine lv_iload_n hx hb dX7_length_1 rfl (lv_at hl 1 rfl) ?_
  obtain ⟨r1, x2, h3, hf⟩ := qbd2_e hf
  refine k_callVi' (rest := []) (As := [.int a1]) F ws_in (t_X7_failsFor h3) cv_X7_failsFor ml_X7_242 hw 0 rfl rfl rfl hl.1 rfl (Nat.le_of_ble_eq_true rfl) ⟨Nat.le_of_ble_eq_true rfl, Nat.le_of_ble_eq_true rfl⟩ ⟨Nat.le_of_ble_eq_true rfl, Nat.le_of_ble_eq_true rfl⟩ dX7_length_2 (fun H locs hw => ?_)
  obtain ⟨v4, hq8, hf⟩ := qbd_e hf
  have J5 : ∀ (H : Heap) (locs : List Loc) (ls : Array Slot), Wd G (wM G ad x2) A s H locs → lv_has ls 2 [] → W p l e (rmk 3 0 0 64) s m args below meth c H locs 0 0 (KQI G below args s A (wM G ad xr) rv 0 0) (F0 m 18 ls [.int v4]) := by
    intro H locs ls hw hl
    obtain ⟨rfl, rfl⟩ := q_s2 hf
    exact k_iret F hr hlk hw (Nat.le_of_ble_eq_true rfl) (Nat.le_of_ble_eq_true rfl) dX7_length_18
  have hf := hq8
  refine lv_if_eq (tgt := 12) hx hb dX7_length_5 rfl (fun c6 => ?_) (fun c6 => ?_)
  · have hf := q_t c6 hf
    refine lv_aload_n hx hb dX7_length_12 rfl (lv_at hl 0 rfl) ?_
    refine M_g_0_31 F ws_in hw fl_X7_60 dX7_length_13 ?_
    refine lv_iload_n hx hb dX7_length_16 rfl (lv_at hl 1 rfl) ?_
    obtain ⟨g7, hf⟩ := qgd_e hf
    refine M_l_41 F hw g7 dX7_length_17 ?_
    obtain rfl := q_s hf
    exact J5 _ _ _ hw (lv_sub hl [] rfl)
  · have hf := q_f c6 hf
    refine lv_iconst (v := 0) hx hb dX7_length_8 (by decide) ?_
    refine lv_goto (tgt := 18) hx hb dX7_length_9 rfl ?_
    obtain rfl := q_s hf
    exact J5 _ _ _ hw (lv_sub hl [] rfl)
def f_X7_totalLength (n : Nat) (x : SX) (a1 : Int32) : Option (Int32 × SX) := (qbd2 (f_X7_failsFor n x a1) fun r1 x2 => (qbd (if r1 = 0 then (qgd (qin a1 10) (some (x2.1 44 a1.toNatClampNeg))) else some (0 : Int32)) fun v4 => some (v4, x2)))
set_option maxHeartbeats 4000000 in
set_option maxRecDepth 100000 in
theorem t_X7_totalLength {G : gG} {l : Launch} {ad : Nat → Nat} {n : Nat} {x : SX} {a1 : Int32} {rv : Int32} {xr : SX} (hf : f_X7_totalLength n x a1 = some (rv, xr)) : MetI G l yX7_totalLength cX7_totalLength 2 (some .int) 3 0 0 64 [.ref (ad 0), .int a1] (wM G ad x) (wM G ad xr) rv := by
  refine k_ofI (by decide) (Nat.le_of_ble_eq_true rfl) ?_
  intro p e s m args below meth c ls A F hr hlk hl hw
  have hx := F.1
  have hb := F.2.1
  have hl : lv_has ls 2 [(0, .ref (ad 0)), (1, .int a1)] := hl
  unfold f_X7_totalLength at hf
  refine lv_aload_n hx hb dX7_totalLength_0 rfl (lv_at hl 0 rfl) ?_
  refine lv_iload_n hx hb dX7_totalLength_1 rfl (lv_at hl 1 rfl) ?_
  obtain ⟨r1, x2, h3, hf⟩ := qbd2_e hf
  refine k_callVi' (rest := []) (As := [.int a1]) F ws_in (t_X7_failsFor h3) cv_X7_failsFor ml_X7_242 hw 0 rfl rfl rfl hl.1 rfl (Nat.le_of_ble_eq_true rfl) ⟨Nat.le_of_ble_eq_true rfl, Nat.le_of_ble_eq_true rfl⟩ ⟨Nat.le_of_ble_eq_true rfl, Nat.le_of_ble_eq_true rfl⟩ dX7_totalLength_2 (fun H locs hw => ?_)
  obtain ⟨v4, hq8, hf⟩ := qbd_e hf
  have J5 : ∀ (H : Heap) (locs : List Loc) (ls : Array Slot), Wd G (wM G ad x2) A s H locs → lv_has ls 2 [] → W p l e (rmk 3 0 0 64) s m args below meth c H locs 0 0 (KQI G below args s A (wM G ad xr) rv 0 0) (F0 m 18 ls [.int v4]) := by
    intro H locs ls hw hl
    obtain ⟨rfl, rfl⟩ := q_s2 hf
    exact k_iret F hr hlk hw (Nat.le_of_ble_eq_true rfl) (Nat.le_of_ble_eq_true rfl) dX7_totalLength_18
  have hf := hq8
  refine lv_if_eq (tgt := 12) hx hb dX7_totalLength_5 rfl (fun c6 => ?_) (fun c6 => ?_)
  · have hf := q_t c6 hf
    refine lv_aload_n hx hb dX7_totalLength_12 rfl (lv_at hl 0 rfl) ?_
    refine M_g_0_34 F ws_in hw fl_X7_69 dX7_totalLength_13 ?_
    refine lv_iload_n hx hb dX7_totalLength_16 rfl (lv_at hl 1 rfl) ?_
    obtain ⟨g7, hf⟩ := qgd_e hf
    refine M_l_44 F hw g7 dX7_totalLength_17 ?_
    obtain rfl := q_s hf
    exact J5 _ _ _ hw (lv_sub hl [] rfl)
  · have hf := q_f c6 hf
    refine lv_iconst (v := 0) hx hb dX7_totalLength_8 (by decide) ?_
    refine lv_goto (tgt := 18) hx hb dX7_totalLength_9 rfl ?_
    obtain rfl := q_s hf
    exact J5 _ _ _ hw (lv_sub hl [] rfl)
def f_X7_custodialPart (n : Nat) (x : SX) (a1 : Int32) : Option (Int32 × SX) := (qbd2 (f_X7_failsFor n x a1) fun r1 x2 => (qbd (if r1 = 0 then (qgd (qin a1 10) (some (x2.1 45 a1.toNatClampNeg))) else some (0 : Int32)) fun v4 => some (v4, x2)))
set_option maxHeartbeats 4000000 in
set_option maxRecDepth 100000 in
theorem t_X7_custodialPart {G : gG} {l : Launch} {ad : Nat → Nat} {n : Nat} {x : SX} {a1 : Int32} {rv : Int32} {xr : SX} (hf : f_X7_custodialPart n x a1 = some (rv, xr)) : MetI G l yX7_custodialPart cX7_custodialPart 2 (some .int) 3 0 0 64 [.ref (ad 0), .int a1] (wM G ad x) (wM G ad xr) rv := by
  refine k_ofI (by decide) (Nat.le_of_ble_eq_true rfl) ?_
  intro p e s m args below meth c ls A F hr hlk hl hw
  have hx := F.1
  have hb := F.2.1
  have hl : lv_has ls 2 [(0, .ref (ad 0)), (1, .int a1)] := hl
  unfold f_X7_custodialPart at hf
  refine lv_aload_n hx hb dX7_custodialPart_0 rfl (lv_at hl 0 rfl) ?_
  refine lv_iload_n hx hb dX7_custodialPart_1 rfl (lv_at hl 1 rfl) ?_
  obtain ⟨r1, x2, h3, hf⟩ := qbd2_e hf
  refine k_callVi' (rest := []) (As := [.int a1]) F ws_in (t_X7_failsFor h3) cv_X7_failsFor ml_X7_242 hw 0 rfl rfl rfl hl.1 rfl (Nat.le_of_ble_eq_true rfl) ⟨Nat.le_of_ble_eq_true rfl, Nat.le_of_ble_eq_true rfl⟩ ⟨Nat.le_of_ble_eq_true rfl, Nat.le_of_ble_eq_true rfl⟩ dX7_custodialPart_2 (fun H locs hw => ?_)
  obtain ⟨v4, hq8, hf⟩ := qbd_e hf
  have J5 : ∀ (H : Heap) (locs : List Loc) (ls : Array Slot), Wd G (wM G ad x2) A s H locs → lv_has ls 2 [] → W p l e (rmk 3 0 0 64) s m args below meth c H locs 0 0 (KQI G below args s A (wM G ad xr) rv 0 0) (F0 m 18 ls [.int v4]) := by
    intro H locs ls hw hl
    obtain ⟨rfl, rfl⟩ := q_s2 hf
    exact k_iret F hr hlk hw (Nat.le_of_ble_eq_true rfl) (Nat.le_of_ble_eq_true rfl) dX7_custodialPart_18
  have hf := hq8
  refine lv_if_eq (tgt := 12) hx hb dX7_custodialPart_5 rfl (fun c6 => ?_) (fun c6 => ?_)
  · have hf := q_t c6 hf
    refine lv_aload_n hx hb dX7_custodialPart_12 rfl (lv_at hl 0 rfl) ?_
    refine M_g_0_35 F ws_in hw fl_X7_72 dX7_custodialPart_13 ?_
    refine lv_iload_n hx hb dX7_custodialPart_16 rfl (lv_at hl 1 rfl) ?_
    obtain ⟨g7, hf⟩ := qgd_e hf
    refine M_l_45 F hw g7 dX7_custodialPart_17 ?_
    obtain rfl := q_s hf
    exact J5 _ _ _ hw (lv_sub hl [] rfl)
  · have hf := q_f c6 hf
    refine lv_iconst (v := 0) hx hb dX7_custodialPart_8 (by decide) ?_
    refine lv_goto (tgt := 18) hx hb dX7_custodialPart_9 rfl ?_
    obtain rfl := q_s hf
    exact J5 _ _ _ hw (lv_sub hl [] rfl)
def f_X7_credit (n : Nat) (x : SX) (a1 : Int32) : Option (Int32 × SX) := (qbd2 (f_X7_failsFor n x a1) fun r1 x2 => (qbd (if r1 = 0 then (qgd (qin a1 10) (some (x2.1 46 a1.toNatClampNeg))) else some (0 : Int32)) fun v4 => some (v4, x2)))
set_option maxHeartbeats 4000000 in
set_option maxRecDepth 100000 in
theorem t_X7_credit {G : gG} {l : Launch} {ad : Nat → Nat} {n : Nat} {x : SX} {a1 : Int32} {rv : Int32} {xr : SX} (hf : f_X7_credit n x a1 = some (rv, xr)) : MetI G l yX7_credit cX7_credit 2 (some .int) 3 0 0 64 [.ref (ad 0), .int a1] (wM G ad x) (wM G ad xr) rv := by
  refine k_ofI (by decide) (Nat.le_of_ble_eq_true rfl) ?_
  intro p e s m args below meth c ls A F hr hlk hl hw
  have hx := F.1
  have hb := F.2.1
  have hl : lv_has ls 2 [(0, .ref (ad 0)), (1, .int a1)] := hl
  unfold f_X7_credit at hf
  refine lv_aload_n hx hb dX7_credit_0 rfl (lv_at hl 0 rfl) ?_
  refine lv_iload_n hx hb dX7_credit_1 rfl (lv_at hl 1 rfl) ?_
  obtain ⟨r1, x2, h3, hf⟩ := qbd2_e hf
  refine k_callVi' (rest := []) (As := [.int a1]) F ws_in (t_X7_failsFor h3) cv_X7_failsFor ml_X7_242 hw 0 rfl rfl rfl hl.1 rfl (Nat.le_of_ble_eq_true rfl) ⟨Nat.le_of_ble_eq_true rfl, Nat.le_of_ble_eq_true rfl⟩ ⟨Nat.le_of_ble_eq_true rfl, Nat.le_of_ble_eq_true rfl⟩ dX7_credit_2 (fun H locs hw => ?_)
  obtain ⟨v4, hq8, hf⟩ := qbd_e hf
  have J5 : ∀ (H : Heap) (locs : List Loc) (ls : Array Slot), Wd G (wM G ad x2) A s H locs → lv_has ls 2 [] → W p l e (rmk 3 0 0 64) s m args below meth c H locs 0 0 (KQI G below args s A (wM G ad xr) rv 0 0) (F0 m 18 ls [.int v4]) := by
    intro H locs ls hw hl
    obtain ⟨rfl, rfl⟩ := q_s2 hf
    exact k_iret F hr hlk hw (Nat.le_of_ble_eq_true rfl) (Nat.le_of_ble_eq_true rfl) dX7_credit_18
  have hf := hq8
  refine lv_if_eq (tgt := 12) hx hb dX7_credit_5 rfl (fun c6 => ?_) (fun c6 => ?_)
  · have hf := q_t c6 hf
    refine lv_aload_n hx hb dX7_credit_12 rfl (lv_at hl 0 rfl) ?_
    refine M_g_0_36 F ws_in hw fl_X7_75 dX7_credit_13 ?_
    refine lv_iload_n hx hb dX7_credit_16 rfl (lv_at hl 1 rfl) ?_
    obtain ⟨g7, hf⟩ := qgd_e hf
    refine M_l_46 F hw g7 dX7_credit_17 ?_
    obtain rfl := q_s hf
    exact J5 _ _ _ hw (lv_sub hl [] rfl)
  · have hf := q_f c6 hf
    refine lv_iconst (v := 0) hx hb dX7_credit_8 (by decide) ?_
    refine lv_goto (tgt := 18) hx hb dX7_credit_9 rfl ?_
    obtain rfl := q_s hf
    exact J5 _ _ _ hw (lv_sub hl [] rfl)
