def f_X6_checkStandingTerm (n : Nat) (x : SX) (a1 : Int32) : Option (Nat) := (qbc (f_X6_checkTerm n x a1) ((qgd (qin a1 10) ((if (x.1 16 a1.toNatClampNeg) = 0 then some 0 else some 2)))))
set_option maxHeartbeats 4000000 in
set_option maxRecDepth 100000 in
theorem t_X6_checkStandingTerm {G : gG} {l : Launch} (hlt : l.stackTraces = false) {ad : Nat → Nat} {n : Nat} {x : SX} {a1 : Int32} {k0 : Nat} (hf : f_X6_checkStandingTerm n x a1 = some k0) : MetXV G l yX6_checkStandingTerm cX6_checkStandingTerm 2 none 7 2 12 121 [.ref (ad 0), .int a1] (wX G ad x) (wX G ad x) k0 := by
  refine k_ofXV (by decide) (Nat.le_of_ble_eq_true rfl) ?_
  intro p e s m args below meth c ls A F hr hlk hout hl hw hZ
  have hx := F.1
  have hb := F.2.1
  have hl : lv_has ls 2 [(0, .ref (ad 0)), (1, .int a1)] := hl
  unfold f_X6_checkStandingTerm at hf
  refine lv_aload_n hx hb dX6_checkStandingTerm_0 rfl (lv_at hl 0 rfl) ?_
  refine lv_iload_n hx hb dX6_checkStandingTerm_1 rfl (lv_at hl 1 rfl) ?_
  obtain ⟨k1, h2, hk2, hn2⟩ := qbc_e hf
  refine k_xcallVv' (rest := []) (As := [.int a1]) F ws_in (t_X6_checkTerm hlt h2) cv_X6_checkTerm ml_X6_129 hZ hw 0 rfl rfl rfl hl.1 rfl (Nat.le_of_ble_eq_true rfl) ⟨Nat.le_of_ble_eq_true rfl, Nat.le_of_ble_eq_true rfl⟩ ⟨Nat.le_of_ble_eq_true rfl, Nat.le_of_ble_eq_true rfl⟩ dX6_checkStandingTerm_2 (fun hk9 E ce q9 H locs hE hw g1 g2 g3 => ?_) (fun hk9 H locs hw => ?_)
  · obtain rfl := hn2 hk9
    exact k_xoutV hlk hout hw hk9 hE g1 g2 g3 (Nat.le_of_ble_eq_true rfl) (Nat.le_of_ble_eq_true rfl)
  have hf := hk2 hk9
  refine lv_aload_n hx hb dX6_checkStandingTerm_5 rfl (lv_at hl 0 rfl) ?_
  refine X_g_0_0 F ws_in hw fl_X6_10 dX6_checkStandingTerm_6 ?_
  refine X_g_1_6 F ws_in hw fl_X6_132 dX6_checkStandingTerm_9 ?_
  refine lv_iload_n hx hb dX6_checkStandingTerm_12 rfl (lv_at hl 1 rfl) ?_
  obtain ⟨g3, hf⟩ := qgd_e hf
  refine X_l_16 F hw g3 dX6_checkStandingTerm_13 ?_
  refine lv_if_eq (tgt := 25) hx hb dX6_checkStandingTerm_14 rfl (fun c4 => ?_) (fun c4 => ?_)
  · have hf := q_t c4 hf
    obtain rfl := q_s hf
    exact k_xvret F hr hlk hw (Nat.le_of_ble_eq_true rfl) (Nat.le_of_ble_eq_true rfl) dX6_checkStandingTerm_25
  · have hf := q_f c4 hf
    obtain rfl := q_s hf
    exact k_throwV F hlt hlk hout ws_in hZ hw hl.1 (by decide) (by decide) thc_2 thi_2 tha_2 ⟨Nat.le_of_ble_eq_true rfl, Nat.le_of_ble_eq_true rfl, Nat.le_of_ble_eq_true rfl, Nat.le_of_ble_eq_true rfl⟩ (Nat.le_of_ble_eq_true rfl) (Nat.le_of_ble_eq_true rfl) dX6_checkStandingTerm_17 dX6_checkStandingTerm_20 dX6_checkStandingTerm_21 dX6_checkStandingTerm_24
def f_X6_quash (n : Nat) (x : SX) (a1 : Int32) : Option (Nat × Int32 × SX) := (qxb (f_X6_checkStandingTerm n x a1) ((0 : Int32), x) ((qbd2 (f_X5_remove n x a1) fun r3 x4 => (qbd (f_X6_settle n x4) fun x6 => (qbd (f_X6_greatestEnd n x6) fun r8 => (qbd (f_X3_lowerLimit n x6 r8) fun x10 => some (0, r3, x10)))))))
set_option maxHeartbeats 4000000 in
set_option maxRecDepth 100000 in
theorem t_X6_quash {G : gG} {l : Launch} (hlt : l.stackTraces = false) {ad : Nat → Nat} {n : Nat} {x : SX} {a1 : Int32} {k0 : Nat} {rv : Int32} {xr : SX} (hf : f_X6_quash n x a1 = some (k0, rv, xr)) : MetXI G l yX6_quash cX6_quash 3 (some .int) 8 2 12 142 [.ref (ad 0), .int a1] (wX G ad x) (wX G ad xr) k0 rv := by
  refine k_ofXI (by decide) (Nat.le_of_ble_eq_true rfl) ?_
  intro p e s m args below meth c ls A F hr hlk hout hl hw hZ
  have hx := F.1
  have hb := F.2.1
  have hl : lv_has ls 3 [(0, .ref (ad 0)), (1, .int a1)] := hl
  unfold f_X6_quash at hf
  refine lv_aload_n hx hb dX6_quash_0 rfl (lv_at hl 0 rfl) ?_
  refine lv_iload_n hx hb dX6_quash_1 rfl (lv_at hl 1 rfl) ?_
  obtain ⟨k1, h2, hk2, hn2⟩ := qxb_e hf
  refine k_xcallVv' (rest := []) (As := [.int a1]) F ws_in (t_X6_checkStandingTerm hlt h2) cv_X6_checkStandingTerm ml_X6_158 hZ hw 0 rfl rfl rfl hl.1 rfl (Nat.le_of_ble_eq_true rfl) ⟨Nat.le_of_ble_eq_true rfl, Nat.le_of_ble_eq_true rfl⟩ ⟨Nat.le_of_ble_eq_true rfl, Nat.le_of_ble_eq_true rfl⟩ dX6_quash_2 (fun hk9 E ce q9 H locs hE hw g1 g2 g3 => ?_) (fun hk9 H locs hw => ?_)
  · cases hn2 hk9
    exact k_xoutI hlk hout hw hk9 hE g1 g2 g3 (Nat.le_of_ble_eq_true rfl) (Nat.le_of_ble_eq_true rfl)
  have hf := hk2 hk9
  refine lv_aload_n hx hb dX6_quash_5 rfl (lv_at hl 0 rfl) ?_
  refine X_g_0_0 F ws_in hw fl_X6_10 dX6_quash_6 ?_
  refine lv_iload_n hx hb dX6_quash_9 rfl (lv_at hl 1 rfl) ?_
  obtain ⟨r3, x4, h5, hf⟩ := qbd2_e hf
  refine k_callVi' (rest := []) (As := [.int a1]) F ws_in (t_X5_remove h5) cv_X5_remove ml_X6_161 hw 1 rfl rfl rfl hl.1 rfl (Nat.le_of_ble_eq_true rfl) ⟨Nat.le_of_ble_eq_true rfl, Nat.le_of_ble_eq_true rfl⟩ ⟨Nat.le_of_ble_eq_true rfl, Nat.le_of_ble_eq_true rfl⟩ dX6_quash_10 (fun H locs hw => ?_)
  refine lv_istore_n (lv' := [(2, .int r3), (0, .ref (ad 0)), (1, .int a1)]) hx hb dX6_quash_13 rfl hl (Nat.le_of_ble_eq_true rfl) rfl (fun ls hl => ?_)
  refine lv_aload_n hx hb dX6_quash_14 rfl (lv_at hl 1 rfl) ?_
  obtain ⟨x6, h7, hf⟩ := qbd_e hf
  refine k_callVv' (rest := []) (As := []) F ws_in (t_X6_settle h7) cv_X6_settle ml_X6_149 hw 0 rfl rfl rfl hl.1 rfl (Nat.le_of_ble_eq_true rfl) ⟨Nat.le_of_ble_eq_true rfl, Nat.le_of_ble_eq_true rfl⟩ ⟨Nat.le_of_ble_eq_true rfl, Nat.le_of_ble_eq_true rfl⟩ dX6_quash_15 (fun H locs hw => ?_)
  refine lv_aload_n hx hb dX6_quash_18 rfl (lv_at hl 1 rfl) ?_
  refine X_g_0_3 F ws_in hw fl_X6_33 dX6_quash_19 ?_
  refine lv_aload_n hx hb dX6_quash_22 rfl (lv_at hl 1 rfl) ?_
  obtain ⟨r8, h9, hf⟩ := qbd_e hf
  refine k_callVi' (rest := [.ref (ad 4)]) (As := []) F ws_in (t_X6_greatestEnd h9) cv_X6_greatestEnd ml_X6_106 hw 0 rfl rfl rfl hl.1 rfl (Nat.le_of_ble_eq_true rfl) ⟨Nat.le_of_ble_eq_true rfl, Nat.le_of_ble_eq_true rfl⟩ ⟨Nat.le_of_ble_eq_true rfl, Nat.le_of_ble_eq_true rfl⟩ dX6_quash_23 (fun H locs hw => ?_)
  obtain ⟨x10, h11, hf⟩ := qbd_e hf
  refine k_callVv' (rest := []) (As := [.int r8]) F ws_in (t_X3_lowerLimit h11) cv_X3_lowerLimit ml_X6_152 hw 4 rfl rfl rfl hl.1 rfl (Nat.le_of_ble_eq_true rfl) ⟨Nat.le_of_ble_eq_true rfl, Nat.le_of_ble_eq_true rfl⟩ ⟨Nat.le_of_ble_eq_true rfl, Nat.le_of_ble_eq_true rfl⟩ dX6_quash_26 (fun H locs hw => ?_)
  refine lv_iload_n hx hb dX6_quash_29 rfl (lv_at hl 0 rfl) ?_
  obtain ⟨rfl, rfl, rfl⟩ := q_s3 hf
  exact k_xiret F hr hlk hw rfl (Nat.le_of_ble_eq_true rfl) (Nat.le_of_ble_eq_true rfl) dX6_quash_30
def f_X6_termsUnreleased_l4 (x : SX) (n : Nat) : Nat → Int32 → Int32 → Option (Int32)
  | 0, _, _ => none
  | m + 1, v1, v2 => (if (x.1 1 7) ≤ v2 then some v1 else (qgd (qin v2 10) ((qbd (if (x.1 16 v2.toNatClampNeg) = 0 then (qbd (f_X6_releaseIn n x v2) fun r10 => (if r10 ≤ (x.1 0 8) then some v1 else (qnm (v1 ||| ((1 : Int32) <<< (v2 &&& 31))) fun v13 => some v13))) else some v1) fun v6 => (qnm (v2 + (1 : Int32)) fun v8 => (f_X6_termsUnreleased_l4 x n m) v6 v8)))))
def f_X6_termsUnreleased (n : Nat) (x : SX) : Option (Int32) := f_X6_termsUnreleased_l4 x n n (0 : Int32) (0 : Int32)
set_option maxHeartbeats 4000000 in
set_option maxRecDepth 100000 in
theorem t_X6_termsUnreleased {G : gG} {l : Launch} {ad : Nat → Nat} {n : Nat} {x : SX} {rv : Int32} (hf : f_X6_termsUnreleased n x = some rv) : MetI G l yX6_termsUnreleased cX6_termsUnreleased 3 (some .int) 3 0 0 75 [.ref (ad 0)] (wX G ad x) (wX G ad x) rv := by
  refine k_ofI (by decide) (Nat.le_of_ble_eq_true rfl) ?_
  intro p e s m args below meth c ls A F hr hlk hl hw
  have hx := F.1
  have hb := F.2.1
  have hl : lv_has ls 3 [(0, .ref (ad 0))] := hl
  unfold f_X6_termsUnreleased at hf
  refine lv_iconst (v := 0) hx hb dX6_termsUnreleased_0 (by decide) ?_
  refine lv_istore_n (lv' := [(1, .int (0 : Int32)), (0, .ref (ad 0))]) hx hb dX6_termsUnreleased_1 rfl hl (Nat.le_of_ble_eq_true rfl) rfl (fun ls hl => ?_)
  refine lv_iconst (v := 0) hx hb dX6_termsUnreleased_2 (by decide) ?_
  refine lv_istore_n (lv' := [(2, .int (0 : Int32)), (1, .int (0 : Int32)), (0, .ref (ad 0))]) hx hb dX6_termsUnreleased_3 rfl hl (Nat.le_of_ble_eq_true rfl) rfl (fun ls hl => ?_)
  have L3 : ∀ (m0 : Nat) (v1 : Int32) (v2 : Int32) (H : Heap) (locs : List Loc) (ls : Array Slot), Wd G (wX G ad x) A s H locs → lv_has ls 3 [(0, .ref (ad 0)), (1, .int v1), (2, .int v2)] → f_X6_termsUnreleased_l4 x n m0 v1 v2 = some rv → W p l e (rmk 3 0 0 75) s m args below meth c H locs 0 0 (KQI G below args s A (wX G ad x) rv 0 0) (F0 m 4 ls []) := by
    intro m0
    induction m0 with
    | zero => intro v1 v2 H locs ls hw hl hf; cases hf
    | succ mL3 ih3 =>
      intro v1 v2 H locs ls hw hl hf
      unfold f_X6_termsUnreleased_l4 at hf
      refine lv_iload_n hx hb dX6_termsUnreleased_4 rfl (lv_at hl 2 rfl) ?_
      refine lv_aload_n hx hb dX6_termsUnreleased_5 rfl (lv_at hl 0 rfl) ?_
      refine X_g_0_0 F ws_in hw fl_X6_10 dX6_termsUnreleased_6 ?_
      refine X_g_1_7 F ws_in hw fl_X6_198 dX6_termsUnreleased_9 ?_
      refine lv_icmp_ge (tgt := 51) hx hb dX6_termsUnreleased_12 rfl (fun c4 => ?_) (fun c4 => ?_)
      · have hf := q_t c4 hf
        refine lv_iload_n hx hb dX6_termsUnreleased_51 rfl (lv_at hl 1 rfl) ?_
        obtain rfl := q_s hf
        exact k_iret F hr hlk hw (Nat.le_of_ble_eq_true rfl) (Nat.le_of_ble_eq_true rfl) dX6_termsUnreleased_52
      · have hf := q_f c4 hf
        refine lv_aload_n hx hb dX6_termsUnreleased_15 rfl (lv_at hl 0 rfl) ?_
        refine X_g_0_0 F ws_in hw fl_X6_10 dX6_termsUnreleased_16 ?_
        refine X_g_1_6 F ws_in hw fl_X6_132 dX6_termsUnreleased_19 ?_
        refine lv_iload_n hx hb dX6_termsUnreleased_22 rfl (lv_at hl 2 rfl) ?_
        obtain ⟨g5, hf⟩ := qgd_e hf
        refine X_l_16 F hw g5 dX6_termsUnreleased_23 ?_
        obtain ⟨v6, hq14, hf⟩ := qbd_e hf
        have J7 : ∀ (H : Heap) (locs : List Loc) (ls : Array Slot), Wd G (wX G ad x) A s H locs → lv_has ls 3 [(0, .ref (ad 0)), (1, .int v6), (2, .int v2)] → W p l e (rmk 3 0 0 75) s m args below meth c H locs 0 0 (KQI G below args s A (wX G ad x) rv 0 0) (F0 m 45 ls []) := by
          intro H locs ls hw hl
          obtain ⟨v8, ev8⟩ : ∃ y : Int32, y = v2 + (1 : Int32) := ⟨_, rfl⟩
          refine lv_iinc (v := v8) (lv' := [(2, .int v8), (0, .ref (ad 0)), (1, .int v6)]) hx hb dX6_termsUnreleased_45 hl (k := 2) rfl (by rw [ev8]; rfl) (Nat.le_of_ble_eq_true rfl) rfl (fun ls hl => ?_)
          have hf := qnm_k ev8 hf
          refine lv_goto (tgt := 4) hx hb dX6_termsUnreleased_48 rfl ?_
          exact ih3 v6 v8 _ _ _ hw (lv_sub hl [1, 2, 0] rfl) hf
        have hf := hq14
        refine lv_if_ne (tgt := 45) hx hb dX6_termsUnreleased_24 rfl (fun c9 => ?_) (fun c9 => ?_)
        · have hf := q_f c9 hf
          obtain rfl := q_s hf
          exact J7 _ _ _ hw (lv_sub hl [0, 1, 2] rfl)
        · have hf := q_t c9 hf
          refine lv_aload_n hx hb dX6_termsUnreleased_27 rfl (lv_at hl 0 rfl) ?_
          refine lv_iload_n hx hb dX6_termsUnreleased_28 rfl (lv_at hl 2 rfl) ?_
          obtain ⟨r10, h11, hf⟩ := qbd_e hf
          refine k_callVi' (rest := []) (As := [.int v2]) F ws_in (t_X6_releaseIn h11) cv_X6_releaseIn ml_X6_136 hw 0 rfl rfl rfl hl.1 rfl (Nat.le_of_ble_eq_true rfl) ⟨Nat.le_of_ble_eq_true rfl, Nat.le_of_ble_eq_true rfl⟩ ⟨Nat.le_of_ble_eq_true rfl, Nat.le_of_ble_eq_true rfl⟩ dX6_termsUnreleased_29 (fun H locs hw => ?_)
          refine lv_aload_n hx hb dX6_termsUnreleased_32 rfl (lv_at hl 0 rfl) ?_
          refine X_g_0_8 F ws_in hw fl_X6_92 dX6_termsUnreleased_33 ?_
          refine lv_icmp_le (tgt := 45) hx hb dX6_termsUnreleased_36 rfl (fun c12 => ?_) (fun c12 => ?_)
          · have hf := q_t c12 hf
            obtain rfl := q_s hf
            exact J7 _ _ _ hw (lv_sub hl [0, 1, 2] rfl)
          · have hf := q_f c12 hf
            refine lv_iload_n hx hb dX6_termsUnreleased_39 rfl (lv_at hl 1 rfl) ?_
            refine lv_iconst (v := 1) hx hb dX6_termsUnreleased_40 (by decide) ?_
            refine lv_iload_n hx hb dX6_termsUnreleased_41 rfl (lv_at hl 2 rfl) ?_
            refine lv_ishl hx hb dX6_termsUnreleased_42 ?_
            refine lv_ior hx hb dX6_termsUnreleased_43 ?_
            refine lv_topi (fun v13 ev13 => ?_)
            have hf := qnm_k ev13 hf
            refine lv_istore_n (lv' := [(1, .int v13), (0, .ref (ad 0)), (2, .int v2)]) hx hb dX6_termsUnreleased_44 rfl hl (Nat.le_of_ble_eq_true rfl) rfl (fun ls hl => ?_)
            obtain rfl := q_s hf
            exact J7 _ _ _ hw (lv_sub hl [1, 0, 2] rfl)
  exact L3 n (0 : Int32) (0 : Int32) _ _ _ hw (lv_sub hl [2, 1, 0] rfl) hf
def f_X6_checkAwardDays (n : Nat) (a1 : Int32) : Option (Nat) := (if a1 < (1 : Int32) then some 1 else (if a1 ≤ (42 : Int32) then some 0 else some 1))
set_option maxHeartbeats 4000000 in
set_option maxRecDepth 100000 in
theorem t_X6_checkAwardDays {G : gG} {l : Launch} (hlt : l.stackTraces = false) {n : Nat} {a1 : Int32} {k0 : Nat} (hf : f_X6_checkAwardDays n a1 = some k0) : MetXV G l yX6_checkAwardDays cX6_checkAwardDays 1 none 6 1 6 100 [.int a1] (([] : va_W)) (([] : va_W)) k0 := by
  refine k_ofXV (by decide) (Nat.le_of_ble_eq_true rfl) ?_
  intro p e s m args below meth c ls A F hr hlk hout hl hw hZ
  have hx := F.1
  have hb := F.2.1
  have hl : lv_has ls 1 [(0, .int a1)] := hl
  unfold f_X6_checkAwardDays at hf
  refine lv_iload_n hx hb dX6_checkAwardDays_0 rfl (lv_at hl 0 rfl) ?_
  refine lv_iconst (v := 1) hx hb dX6_checkAwardDays_1 (by decide) ?_
  refine lv_icmp_lt (tgt := 11) hx hb dX6_checkAwardDays_2 rfl (fun c1 => ?_) (fun c1 => ?_)
  · have hf := q_t c1 hf
    obtain rfl := q_s hf
    exact k_throwV F hlt hlk hout ws_in hZ hw hl.1 (by decide) (by decide) thc_1 thi_1 tha_1 ⟨Nat.le_of_ble_eq_true rfl, Nat.le_of_ble_eq_true rfl, Nat.le_of_ble_eq_true rfl, Nat.le_of_ble_eq_true rfl⟩ (Nat.le_of_ble_eq_true rfl) (Nat.le_of_ble_eq_true rfl) dX6_checkAwardDays_11 dX6_checkAwardDays_14 dX6_checkAwardDays_15 dX6_checkAwardDays_18
  · have hf := q_f c1 hf
    refine lv_iload_n hx hb dX6_checkAwardDays_5 rfl (lv_at hl 0 rfl) ?_
    refine lv_bipush (v := 42) hx hb dX6_checkAwardDays_6 (by decide) ?_
    refine lv_icmp_le (tgt := 19) hx hb dX6_checkAwardDays_8 rfl (fun c2 => ?_) (fun c2 => ?_)
    · have hf := q_t c2 hf
      obtain rfl := q_s hf
      exact k_xvret F hr hlk hw (Nat.le_of_ble_eq_true rfl) (Nat.le_of_ble_eq_true rfl) dX6_checkAwardDays_19
    · have hf := q_f c2 hf
      obtain rfl := q_s hf
      exact k_throwV F hlt hlk hout ws_in hZ hw hl.1 (by decide) (by decide) thc_1 thi_1 tha_1 ⟨Nat.le_of_ble_eq_true rfl, Nat.le_of_ble_eq_true rfl, Nat.le_of_ble_eq_true rfl, Nat.le_of_ble_eq_true rfl⟩ (Nat.le_of_ble_eq_true rfl) (Nat.le_of_ble_eq_true rfl) dX6_checkAwardDays_11 dX6_checkAwardDays_14 dX6_checkAwardDays_15 dX6_checkAwardDays_18
def f_X6_award (n : Nat) (x : SX) (a1 : Int32) : Option (Nat × Int32 × SX) := (qxb (f_X6_checkAwardDays n a1) ((0 : Int32), x) ((qbd (f_X6_custodyEnd n x) fun r3 => (if r3 ≤ (x.1 0 8) then some (2, (0 : Int32), x) else (if (x.1 3 3) < (8 : Int32) then (qbd (f_X6_recallIsRunning n x) fun r7 => (qbd (if r7 = 0 then some (-1 : Int32) else some (x.1 4 0)) fun v9 => (qbd (f_X6_termsUnreleased n x) fun r11 => (qbd2 (f_X0_add n x a1 r11 v9) fun r13 x14 => some (0, r13, x14))))) else some (2, (0 : Int32), x))))))
set_option maxHeartbeats 4000000 in
set_option maxRecDepth 100000 in
theorem t_X6_award {G : gG} {l : Launch} (hlt : l.stackTraces = false) {ad : Nat → Nat} {n : Nat} {x : SX} {a1 : Int32} {k0 : Nat} {rv : Int32} {xr : SX} (hf : f_X6_award n x a1 = some (k0, rv, xr)) : MetXI G l yX6_award cX6_award 3 (some .int) 7 2 12 120 [.ref (ad 0), .int a1] (wX G ad x) (wX G ad xr) k0 rv := by
  refine k_ofXI (by decide) (Nat.le_of_ble_eq_true rfl) ?_
  intro p e s m args below meth c ls A F hr hlk hout hl hw hZ
  have hx := F.1
  have hb := F.2.1
  have hl : lv_has ls 3 [(0, .ref (ad 0)), (1, .int a1)] := hl
  unfold f_X6_award at hf
  refine lv_iload_n hx hb dX6_award_0 rfl (lv_at hl 1 rfl) ?_
  obtain ⟨k1, h2, hk2, hn2⟩ := qxb_e hf
  refine k_xcallPv (rest := []) (As := [.int a1]) F ws_in (t_X6_checkAwardDays hlt h2) cs_X6_checkAwardDays ml_X6_164 hZ hw rfl hl.1 rfl (Nat.le_of_ble_eq_true rfl) ⟨Nat.le_of_ble_eq_true rfl, Nat.le_of_ble_eq_true rfl⟩ ⟨Nat.le_of_ble_eq_true rfl, Nat.le_of_ble_eq_true rfl⟩ dX6_award_1 (fun hk9 E ce q9 H locs hE hw g1 g2 g3 => ?_) (fun hk9 H locs hw => ?_)
  · cases hn2 hk9
    exact k_xoutI hlk hout hw hk9 hE g1 g2 g3 (Nat.le_of_ble_eq_true rfl) (Nat.le_of_ble_eq_true rfl)
  have hf := hk2 hk9
  refine lv_aload_n hx hb dX6_award_4 rfl (lv_at hl 0 rfl) ?_
  obtain ⟨r3, h4, hf⟩ := qbd_e hf
  refine k_callVi' (rest := []) (As := []) F ws_in (t_X6_custodyEnd h4) cv_X6_custodyEnd ml_X6_99 hw 0 rfl rfl rfl hl.1 rfl (Nat.le_of_ble_eq_true rfl) ⟨Nat.le_of_ble_eq_true rfl, Nat.le_of_ble_eq_true rfl⟩ ⟨Nat.le_of_ble_eq_true rfl, Nat.le_of_ble_eq_true rfl⟩ dX6_award_5 (fun H locs hw => ?_)
  refine lv_aload_n hx hb dX6_award_8 rfl (lv_at hl 0 rfl) ?_
  refine X_g_0_8 F ws_in hw fl_X6_92 dX6_award_9 ?_
  refine lv_icmp_le (tgt := 27) hx hb dX6_award_12 rfl (fun c5 => ?_) (fun c5 => ?_)
  · have hf := q_t c5 hf
    obtain ⟨rfl, rfl, rfl⟩ := q_s3 hf
    exact k_throwI F hlt hlk hout ws_in hZ hw hl.1 (by decide) (by decide) thc_2 thi_2 tha_2 ⟨Nat.le_of_ble_eq_true rfl, Nat.le_of_ble_eq_true rfl, Nat.le_of_ble_eq_true rfl, Nat.le_of_ble_eq_true rfl⟩ (Nat.le_of_ble_eq_true rfl) (Nat.le_of_ble_eq_true rfl) dX6_award_27 dX6_award_30 dX6_award_31 dX6_award_34
  · have hf := q_f c5 hf
    refine lv_aload_n hx hb dX6_award_15 rfl (lv_at hl 0 rfl) ?_
    refine X_g_0_2 F ws_in hw fl_X6_26 dX6_award_16 ?_
    refine X_g_3_3 F ws_in hw fl_X6_167 dX6_award_19 ?_
    refine lv_bipush (v := 8) hx hb dX6_award_22 (by decide) ?_
    refine lv_icmp_lt (tgt := 35) hx hb dX6_award_24 rfl (fun c6 => ?_) (fun c6 => ?_)
    · have hf := q_t c6 hf
      refine lv_aload_n hx hb dX6_award_35 rfl (lv_at hl 0 rfl) ?_
      obtain ⟨r7, h8, hf⟩ := qbd_e hf
      refine k_callVi' (rest := []) (As := []) F ws_in (t_X6_recallIsRunning h8) cv_X6_recallIsRunning ml_X6_168 hw 0 rfl rfl rfl hl.1 rfl (Nat.le_of_ble_eq_true rfl) ⟨Nat.le_of_ble_eq_true rfl, Nat.le_of_ble_eq_true rfl⟩ ⟨Nat.le_of_ble_eq_true rfl, Nat.le_of_ble_eq_true rfl⟩ dX6_award_36 (fun H locs hw => ?_)
      obtain ⟨v9, hq17, hf⟩ := qbd_e hf
      have J10 : ∀ (H : Heap) (locs : List Loc) (ls : Array Slot), Wd G (wX G ad x) A s H locs → lv_has ls 3 [(0, .ref (ad 0)), (1, .int a1)] → W p l e (rmk 7 2 12 120) s m args below meth c H locs 1 6 (KQXI G below args s A (wX G ad xr) k0 rv 2 12) (F0 m 53 ls [.int v9]) := by
        intro H locs ls hw hl
        refine lv_istore_n (lv' := [(2, .int v9), (0, .ref (ad 0)), (1, .int a1)]) hx hb dX6_award_53 rfl hl (Nat.le_of_ble_eq_true rfl) rfl (fun ls hl => ?_)
        refine lv_aload_n hx hb dX6_award_54 rfl (lv_at hl 1 rfl) ?_
        refine X_g_0_2 F ws_in hw fl_X6_26 dX6_award_55 ?_
        refine lv_iload_n hx hb dX6_award_58 rfl (lv_at hl 2 rfl) ?_
        refine lv_aload_n hx hb dX6_award_59 rfl (lv_at hl 1 rfl) ?_
        obtain ⟨r11, h12, hf⟩ := qbd_e hf
        refine k_callVi' (rest := [.int a1, .ref (ad 3)]) (As := []) F ws_in (t_X6_termsUnreleased h12) cv_X6_termsUnreleased ml_X6_175 hw 0 rfl rfl rfl hl.1 rfl (Nat.le_of_ble_eq_true rfl) ⟨Nat.le_of_ble_eq_true rfl, Nat.le_of_ble_eq_true rfl⟩ ⟨Nat.le_of_ble_eq_true rfl, Nat.le_of_ble_eq_true rfl⟩ dX6_award_60 (fun H locs hw => ?_)
        refine lv_iload_n hx hb dX6_award_63 rfl (lv_at hl 0 rfl) ?_
        obtain ⟨r13, x14, h15, hf⟩ := qbd2_e hf
        refine k_callVi' (rest := []) (As := [.int a1, .int r11, .int v9]) F ws_in (t_X0_add h15) cv_X0_add ml_X6_178 hw 3 rfl rfl rfl hl.1 rfl (Nat.le_of_ble_eq_true rfl) ⟨Nat.le_of_ble_eq_true rfl, Nat.le_of_ble_eq_true rfl⟩ ⟨Nat.le_of_ble_eq_true rfl, Nat.le_of_ble_eq_true rfl⟩ dX6_award_64 (fun H locs hw => ?_)
        obtain ⟨rfl, rfl, rfl⟩ := q_s3 hf
        exact k_xiret F hr hlk hw rfl (Nat.le_of_ble_eq_true rfl) (Nat.le_of_ble_eq_true rfl) dX6_award_67
      have hf := hq17
      refine lv_if_eq (tgt := 52) hx hb dX6_award_39 rfl (fun c16 => ?_) (fun c16 => ?_)
      · have hf := q_t c16 hf
        refine lv_iconst (v := -1) hx hb dX6_award_52 (by decide) ?_
        obtain rfl := q_s hf
        exact J10 _ _ _ hw (lv_sub hl [0, 1] rfl)
      · have hf := q_f c16 hf
        refine lv_aload_n hx hb dX6_award_42 rfl (lv_at hl 0 rfl) ?_
        refine X_g_0_3 F ws_in hw fl_X6_33 dX6_award_43 ?_
        refine X_g_4_0 F ws_in hw fl_X6_172 dX6_award_46 ?_
        refine lv_goto (tgt := 53) hx hb dX6_award_49 rfl ?_
        obtain rfl := q_s hf
        exact J10 _ _ _ hw (lv_sub hl [0, 1] rfl)
    · have hf := q_f c6 hf
      obtain ⟨rfl, rfl, rfl⟩ := q_s3 hf
      exact k_throwI F hlt hlk hout ws_in hZ hw hl.1 (by decide) (by decide) thc_2 thi_2 tha_2 ⟨Nat.le_of_ble_eq_true rfl, Nat.le_of_ble_eq_true rfl, Nat.le_of_ble_eq_true rfl, Nat.le_of_ble_eq_true rfl⟩ (Nat.le_of_ble_eq_true rfl) (Nat.le_of_ble_eq_true rfl) dX6_award_27 dX6_award_30 dX6_award_31 dX6_award_34
def f_X6_checkAward (n : Nat) (x : SX) (a1 : Int32) : Option (Nat) := (if a1 < 0 then some 3 else (if a1 < (x.1 3 3) then some 0 else some 3))
set_option maxHeartbeats 4000000 in
set_option maxRecDepth 100000 in
theorem t_X6_checkAward {G : gG} {l : Launch} (hlt : l.stackTraces = false) {ad : Nat → Nat} {n : Nat} {x : SX} {a1 : Int32} {k0 : Nat} (hf : f_X6_checkAward n x a1 = some k0) : MetXV G l yX6_checkAward cX6_checkAward 2 none 6 1 6 100 [.ref (ad 0), .int a1] (wX G ad x) (wX G ad x) k0 := by
  refine k_ofXV (by decide) (Nat.le_of_ble_eq_true rfl) ?_
  intro p e s m args below meth c ls A F hr hlk hout hl hw hZ
  have hx := F.1
  have hb := F.2.1
  have hl : lv_has ls 2 [(0, .ref (ad 0)), (1, .int a1)] := hl
  unfold f_X6_checkAward at hf
  refine lv_iload_n hx hb dX6_checkAward_0 rfl (lv_at hl 1 rfl) ?_
  refine lv_if_lt (tgt := 15) hx hb dX6_checkAward_1 rfl (fun c1 => ?_) (fun c1 => ?_)
  · have hf := q_t c1 hf
    obtain rfl := q_s hf
    exact k_throwV F hlt hlk hout ws_in hZ hw hl.1 (by decide) (by decide) thc_3 thi_3 tha_3 ⟨Nat.le_of_ble_eq_true rfl, Nat.le_of_ble_eq_true rfl, Nat.le_of_ble_eq_true rfl, Nat.le_of_ble_eq_true rfl⟩ (Nat.le_of_ble_eq_true rfl) (Nat.le_of_ble_eq_true rfl) dX6_checkAward_15 dX6_checkAward_18 dX6_checkAward_19 dX6_checkAward_22
  · have hf := q_f c1 hf
    refine lv_iload_n hx hb dX6_checkAward_4 rfl (lv_at hl 1 rfl) ?_
    refine lv_aload_n hx hb dX6_checkAward_5 rfl (lv_at hl 0 rfl) ?_
    refine X_g_0_2 F ws_in hw fl_X6_26 dX6_checkAward_6 ?_
    refine X_g_3_3 F ws_in hw fl_X6_167 dX6_checkAward_9 ?_
    refine lv_icmp_lt (tgt := 23) hx hb dX6_checkAward_12 rfl (fun c2 => ?_) (fun c2 => ?_)
    · have hf := q_t c2 hf
      obtain rfl := q_s hf
      exact k_xvret F hr hlk hw (Nat.le_of_ble_eq_true rfl) (Nat.le_of_ble_eq_true rfl) dX6_checkAward_23
    · have hf := q_f c2 hf
      obtain rfl := q_s hf
      exact k_throwV F hlt hlk hout ws_in hZ hw hl.1 (by decide) (by decide) thc_3 thi_3 tha_3 ⟨Nat.le_of_ble_eq_true rfl, Nat.le_of_ble_eq_true rfl, Nat.le_of_ble_eq_true rfl, Nat.le_of_ble_eq_true rfl⟩ (Nat.le_of_ble_eq_true rfl) (Nat.le_of_ble_eq_true rfl) dX6_checkAward_15 dX6_checkAward_18 dX6_checkAward_19 dX6_checkAward_22
def f_X6_giveBack (n : Nat) (x : SX) (a1 : Int32) (a2 : Int32) : Option (Nat × Int32 × SX) := (qxb (f_X6_checkAward n x a1) ((0 : Int32), x) ((if a2 < (1 : Int32) then some (1, (0 : Int32), x) else (qgd (qin a1 8) ((if a2 ≤ (x.1 35 a1.toNatClampNeg) then (qnm (si x 35 a1.toNatClampNeg ((x.1 35 a1.toNatClampNeg) - a2)) fun x6 => some (0, (x6.1 35 a1.toNatClampNeg), x6)) else some (1, (0 : Int32), x)))))))
set_option maxHeartbeats 4000000 in
set_option maxRecDepth 100000 in
theorem t_X6_giveBack {G : gG} {l : Launch} (hlt : l.stackTraces = false) {ad : Nat → Nat} {n : Nat} {x : SX} {a1 : Int32} {a2 : Int32} {k0 : Nat} {rv : Int32} {xr : SX} (hf : f_X6_giveBack n x a1 a2 = some (k0, rv, xr)) : MetXI G l yX6_giveBack cX6_giveBack 3 (some .int) 7 2 12 121 [.ref (ad 0), .int a1, .int a2] (wX G ad x) (wX G ad xr) k0 rv := by
  refine k_ofXI (by decide) (Nat.le_of_ble_eq_true rfl) ?_
  intro p e s m args below meth c ls A F hr hlk hout hl hw hZ
  have hx := F.1
  have hb := F.2.1
  have hl : lv_has ls 3 [(0, .ref (ad 0)), (1, .int a1), (2, .int a2)] := hl
  unfold f_X6_giveBack at hf
  refine lv_aload_n hx hb dX6_giveBack_0 rfl (lv_at hl 0 rfl) ?_
  refine lv_iload_n hx hb dX6_giveBack_1 rfl (lv_at hl 1 rfl) ?_
  obtain ⟨k1, h2, hk2, hn2⟩ := qxb_e hf
  refine k_xcallVv' (rest := []) (As := [.int a1]) F ws_in (t_X6_checkAward hlt h2) cv_X6_checkAward ml_X6_180 hZ hw 0 rfl rfl rfl hl.1 rfl (Nat.le_of_ble_eq_true rfl) ⟨Nat.le_of_ble_eq_true rfl, Nat.le_of_ble_eq_true rfl⟩ ⟨Nat.le_of_ble_eq_true rfl, Nat.le_of_ble_eq_true rfl⟩ dX6_giveBack_2 (fun hk9 E ce q9 H locs hE hw g1 g2 g3 => ?_) (fun hk9 H locs hw => ?_)
  · cases hn2 hk9
    exact k_xoutI hlk hout hw hk9 hE g1 g2 g3 (Nat.le_of_ble_eq_true rfl) (Nat.le_of_ble_eq_true rfl)
  have hf := hk2 hk9
  refine lv_iload_n hx hb dX6_giveBack_5 rfl (lv_at hl 2 rfl) ?_
  refine lv_iconst (v := 1) hx hb dX6_giveBack_6 (by decide) ?_
  refine lv_icmp_lt (tgt := 23) hx hb dX6_giveBack_7 rfl (fun c3 => ?_) (fun c3 => ?_)
  · have hf := q_t c3 hf
    obtain ⟨rfl, rfl, rfl⟩ := q_s3 hf
    exact k_throwI F hlt hlk hout ws_in hZ hw hl.1 (by decide) (by decide) thc_1 thi_1 tha_1 ⟨Nat.le_of_ble_eq_true rfl, Nat.le_of_ble_eq_true rfl, Nat.le_of_ble_eq_true rfl, Nat.le_of_ble_eq_true rfl⟩ (Nat.le_of_ble_eq_true rfl) (Nat.le_of_ble_eq_true rfl) dX6_giveBack_23 dX6_giveBack_26 dX6_giveBack_27 dX6_giveBack_30
  · have hf := q_f c3 hf
    refine lv_iload_n hx hb dX6_giveBack_10 rfl (lv_at hl 2 rfl) ?_
    refine lv_aload_n hx hb dX6_giveBack_11 rfl (lv_at hl 0 rfl) ?_
    refine X_g_0_2 F ws_in hw fl_X6_26 dX6_giveBack_12 ?_
    refine X_g_3_0 F ws_in hw fl_X6_183 dX6_giveBack_15 ?_
    refine lv_iload_n hx hb dX6_giveBack_18 rfl (lv_at hl 1 rfl) ?_
    obtain ⟨g4, hf⟩ := qgd_e hf
    refine X_l_35 F hw g4 dX6_giveBack_19 ?_
    refine lv_icmp_le (tgt := 31) hx hb dX6_giveBack_20 rfl (fun c5 => ?_) (fun c5 => ?_)
    · have hf := q_t c5 hf
      refine lv_aload_n hx hb dX6_giveBack_31 rfl (lv_at hl 0 rfl) ?_
      refine X_g_0_2 F ws_in hw fl_X6_26 dX6_giveBack_32 ?_
      refine X_g_3_0 F ws_in hw fl_X6_183 dX6_giveBack_35 ?_
      refine lv_iload_n hx hb dX6_giveBack_38 rfl (lv_at hl 1 rfl) ?_
      refine lv_dup2_11 hx hb dX6_giveBack_39 rfl rfl ?_
      refine X_l_35 F hw g4 dX6_giveBack_40 ?_
      refine lv_iload_n hx hb dX6_giveBack_41 rfl (lv_at hl 2 rfl) ?_
      refine lv_isub hx hb dX6_giveBack_42 ?_
      refine X_s_35 F hw g4 dX6_giveBack_43 (fun x6 ex6 H locs hw => ?_)
      have hf := qnm_k ex6 hf
      refine lv_aload_n hx hb dX6_giveBack_44 rfl (lv_at hl 0 rfl) ?_
      refine X_g_0_2 F ws_in hw fl_X6_26 dX6_giveBack_45 ?_
      refine X_g_3_0 F ws_in hw fl_X6_183 dX6_giveBack_48 ?_
      refine lv_iload_n hx hb dX6_giveBack_51 rfl (lv_at hl 1 rfl) ?_
      refine X_l_35 F hw g4 dX6_giveBack_52 ?_
      obtain ⟨rfl, rfl, rfl⟩ := q_s3 hf
      exact k_xiret F hr hlk hw rfl (Nat.le_of_ble_eq_true rfl) (Nat.le_of_ble_eq_true rfl) dX6_giveBack_53
    · have hf := q_f c5 hf
      obtain ⟨rfl, rfl, rfl⟩ := q_s3 hf
      exact k_throwI F hlt hlk hout ws_in hZ hw hl.1 (by decide) (by decide) thc_1 thi_1 tha_1 ⟨Nat.le_of_ble_eq_true rfl, Nat.le_of_ble_eq_true rfl, Nat.le_of_ble_eq_true rfl, Nat.le_of_ble_eq_true rfl⟩ (Nat.le_of_ble_eq_true rfl) (Nat.le_of_ble_eq_true rfl) dX6_giveBack_23 dX6_giveBack_26 dX6_giveBack_27 dX6_giveBack_30
def f_X6_currentStatus (n : Nat) (x : SX) : Option (Int32) := (qbd (f_X6_custodyEnd n x) fun r1 => (if r1 ≤ (x.1 0 8) then (qbd (f_X6_greatestEnd n x) fun r4 => (qbd (if r4 ≤ (x.1 0 8) then some (0 : Int32) else some (1 : Int32)) fun v6 => some v6)) else some (2 : Int32)))
set_option maxHeartbeats 4000000 in
set_option maxRecDepth 100000 in
theorem t_X6_currentStatus {G : gG} {l : Launch} {ad : Nat → Nat} {n : Nat} {x : SX} {rv : Int32} (hf : f_X6_currentStatus n x = some rv) : MetI G l yX6_currentStatus cX6_currentStatus 1 (some .int) 5 0 0 112 [.ref (ad 0)] (wX G ad x) (wX G ad x) rv := by
  refine k_ofI (by decide) (Nat.le_of_ble_eq_true rfl) ?_
  intro p e s m args below meth c ls A F hr hlk hl hw
  have hx := F.1
  have hb := F.2.1
  have hl : lv_has ls 1 [(0, .ref (ad 0))] := hl
  unfold f_X6_currentStatus at hf
  refine lv_aload_n hx hb dX6_currentStatus_0 rfl (lv_at hl 0 rfl) ?_
  obtain ⟨r1, h2, hf⟩ := qbd_e hf
  refine k_callVi' (rest := []) (As := []) F ws_in (t_X6_custodyEnd h2) cv_X6_custodyEnd ml_X6_99 hw 0 rfl rfl rfl hl.1 rfl (Nat.le_of_ble_eq_true rfl) ⟨Nat.le_of_ble_eq_true rfl, Nat.le_of_ble_eq_true rfl⟩ ⟨Nat.le_of_ble_eq_true rfl, Nat.le_of_ble_eq_true rfl⟩ dX6_currentStatus_1 (fun H locs hw => ?_)
  refine lv_aload_n hx hb dX6_currentStatus_4 rfl (lv_at hl 0 rfl) ?_
  refine X_g_0_8 F ws_in hw fl_X6_92 dX6_currentStatus_5 ?_
  refine lv_icmp_le (tgt := 13) hx hb dX6_currentStatus_8 rfl (fun c3 => ?_) (fun c3 => ?_)
  · have hf := q_t c3 hf
    refine lv_aload_n hx hb dX6_currentStatus_13 rfl (lv_at hl 0 rfl) ?_
    obtain ⟨r4, h5, hf⟩ := qbd_e hf
    refine k_callVi' (rest := []) (As := []) F ws_in (t_X6_greatestEnd h5) cv_X6_greatestEnd ml_X6_106 hw 0 rfl rfl rfl hl.1 rfl (Nat.le_of_ble_eq_true rfl) ⟨Nat.le_of_ble_eq_true rfl, Nat.le_of_ble_eq_true rfl⟩ ⟨Nat.le_of_ble_eq_true rfl, Nat.le_of_ble_eq_true rfl⟩ dX6_currentStatus_14 (fun H locs hw => ?_)
    refine lv_aload_n hx hb dX6_currentStatus_17 rfl (lv_at hl 0 rfl) ?_
    refine X_g_0_8 F ws_in hw fl_X6_92 dX6_currentStatus_18 ?_
    obtain ⟨v6, hq9, hf⟩ := qbd_e hf
    have J7 : ∀ (H : Heap) (locs : List Loc) (ls : Array Slot), Wd G (wX G ad x) A s H locs → lv_has ls 1 [] → W p l e (rmk 5 0 0 112) s m args below meth c H locs 0 0 (KQI G below args s A (wX G ad x) rv 0 0) (F0 m 29 ls [.int v6]) := by
      intro H locs ls hw hl
      obtain rfl := q_s hf
      exact k_iret F hr hlk hw (Nat.le_of_ble_eq_true rfl) (Nat.le_of_ble_eq_true rfl) dX6_currentStatus_29
    have hf := hq9
    refine lv_icmp_le (tgt := 28) hx hb dX6_currentStatus_21 rfl (fun c8 => ?_) (fun c8 => ?_)
    · have hf := q_t c8 hf
      refine lv_iconst (v := 0) hx hb dX6_currentStatus_28 (by decide) ?_
      obtain rfl := q_s hf
      exact J7 _ _ _ hw (lv_sub hl [] rfl)
    · have hf := q_f c8 hf
      refine lv_iconst (v := 1) hx hb dX6_currentStatus_24 (by decide) ?_
      refine lv_goto (tgt := 29) hx hb dX6_currentStatus_25 rfl ?_
      obtain rfl := q_s hf
      exact J7 _ _ _ hw (lv_sub hl [] rfl)
  · have hf := q_f c3 hf
    refine lv_iconst (v := 2) hx hb dX6_currentStatus_11 (by decide) ?_
    obtain rfl := q_s hf
    exact k_iret F hr hlk hw (Nat.le_of_ble_eq_true rfl) (Nat.le_of_ble_eq_true rfl) dX6_currentStatus_12
def f_X6_recall (n : Nat) (x : SX) (a1 : Int32) : Option (Nat × Int32 × SX) := (if a1 < 0 then some (1, (0 : Int32), x) else (if a1 ≤ (28 : Int32) then (qbd (f_X6_currentStatus n x) fun r3 => (if r3 = (1 : Int32) then (qbd (f_X6_recallsMade n x) fun r6 => (if r6 < (6 : Int32) then (qbd (f_X6_greatestEnd n x) fun r9 => (qbd (f_X3_replace n x (x.1 0 8) a1 r9) fun x11 => (qbd (f_X6_latestRecallEnd n x11) fun r13 => some (0, r13, x11)))) else some (2, (0 : Int32), x))) else some (2, (0 : Int32), x))) else some (1, (0 : Int32), x)))
set_option maxHeartbeats 4000000 in
set_option maxRecDepth 100000 in
theorem t_X6_recall {G : gG} {l : Launch} (hlt : l.stackTraces = false) {ad : Nat → Nat} {n : Nat} {x : SX} {a1 : Int32} {k0 : Nat} {rv : Int32} {xr : SX} (hf : f_X6_recall n x a1 = some (k0, rv, xr)) : MetXI G l yX6_recall cX6_recall 2 (some .int) 6 1 6 132 [.ref (ad 0), .int a1] (wX G ad x) (wX G ad xr) k0 rv := by
  refine k_ofXI (by decide) (Nat.le_of_ble_eq_true rfl) ?_
  intro p e s m args below meth c ls A F hr hlk hout hl hw hZ
  have hx := F.1
  have hb := F.2.1
  have hl : lv_has ls 2 [(0, .ref (ad 0)), (1, .int a1)] := hl
  unfold f_X6_recall at hf
  refine lv_iload_n hx hb dX6_recall_0 rfl (lv_at hl 1 rfl) ?_
  refine lv_if_lt (tgt := 10) hx hb dX6_recall_1 rfl (fun c1 => ?_) (fun c1 => ?_)
  · have hf := q_t c1 hf
    obtain ⟨rfl, rfl, rfl⟩ := q_s3 hf
    exact k_throwI F hlt hlk hout ws_in hZ hw hl.1 (by decide) (by decide) thc_1 thi_1 tha_1 ⟨Nat.le_of_ble_eq_true rfl, Nat.le_of_ble_eq_true rfl, Nat.le_of_ble_eq_true rfl, Nat.le_of_ble_eq_true rfl⟩ (Nat.le_of_ble_eq_true rfl) (Nat.le_of_ble_eq_true rfl) dX6_recall_10 dX6_recall_13 dX6_recall_14 dX6_recall_17
  · have hf := q_f c1 hf
    refine lv_iload_n hx hb dX6_recall_4 rfl (lv_at hl 1 rfl) ?_
    refine lv_bipush (v := 28) hx hb dX6_recall_5 (by decide) ?_
    refine lv_icmp_le (tgt := 18) hx hb dX6_recall_7 rfl (fun c2 => ?_) (fun c2 => ?_)
    · have hf := q_t c2 hf
      refine lv_aload_n hx hb dX6_recall_18 rfl (lv_at hl 0 rfl) ?_
      obtain ⟨r3, h4, hf⟩ := qbd_e hf
      refine k_callVi' (rest := []) (As := []) F ws_in (t_X6_currentStatus h4) cv_X6_currentStatus ml_X6_186 hw 0 rfl rfl rfl hl.1 rfl (Nat.le_of_ble_eq_true rfl) ⟨Nat.le_of_ble_eq_true rfl, Nat.le_of_ble_eq_true rfl⟩ ⟨Nat.le_of_ble_eq_true rfl, Nat.le_of_ble_eq_true rfl⟩ dX6_recall_19 (fun H locs hw => ?_)
      refine lv_iconst (v := 1) hx hb dX6_recall_22 (by decide) ?_
      refine lv_icmp_ne (tgt := 35) hx hb dX6_recall_23 rfl (fun c5 => ?_) (fun c5 => ?_)
      · have hf := q_f c5 hf
        obtain ⟨rfl, rfl, rfl⟩ := q_s3 hf
        exact k_throwI F hlt hlk hout ws_in hZ hw hl.1 (by decide) (by decide) thc_2 thi_2 tha_2 ⟨Nat.le_of_ble_eq_true rfl, Nat.le_of_ble_eq_true rfl, Nat.le_of_ble_eq_true rfl, Nat.le_of_ble_eq_true rfl⟩ (Nat.le_of_ble_eq_true rfl) (Nat.le_of_ble_eq_true rfl) dX6_recall_35 dX6_recall_38 dX6_recall_39 dX6_recall_42
      · have hf := q_t c5 hf
        refine lv_aload_n hx hb dX6_recall_26 rfl (lv_at hl 0 rfl) ?_
        obtain ⟨r6, h7, hf⟩ := qbd_e hf
        refine k_callVi' (rest := []) (As := []) F ws_in (t_X6_recallsMade h7) cv_X6_recallsMade ml_X6_189 hw 0 rfl rfl rfl hl.1 rfl (Nat.le_of_ble_eq_true rfl) ⟨Nat.le_of_ble_eq_true rfl, Nat.le_of_ble_eq_true rfl⟩ ⟨Nat.le_of_ble_eq_true rfl, Nat.le_of_ble_eq_true rfl⟩ dX6_recall_27 (fun H locs hw => ?_)
        refine lv_bipush (v := 6) hx hb dX6_recall_30 (by decide) ?_
        refine lv_icmp_lt (tgt := 43) hx hb dX6_recall_32 rfl (fun c8 => ?_) (fun c8 => ?_)
        · have hf := q_t c8 hf
          refine lv_aload_n hx hb dX6_recall_43 rfl (lv_at hl 0 rfl) ?_
          refine X_g_0_3 F ws_in hw fl_X6_33 dX6_recall_44 ?_
          refine lv_aload_n hx hb dX6_recall_47 rfl (lv_at hl 0 rfl) ?_
          refine X_g_0_8 F ws_in hw fl_X6_92 dX6_recall_48 ?_
          refine lv_iload_n hx hb dX6_recall_51 rfl (lv_at hl 1 rfl) ?_
          refine lv_aload_n hx hb dX6_recall_52 rfl (lv_at hl 0 rfl) ?_
          obtain ⟨r9, h10, hf⟩ := qbd_e hf
          refine k_callVi' (rest := [.int a1, .int (x.1 0 8), .ref (ad 4)]) (As := []) F ws_in (t_X6_greatestEnd h10) cv_X6_greatestEnd ml_X6_106 hw 0 rfl rfl rfl hl.1 rfl (Nat.le_of_ble_eq_true rfl) ⟨Nat.le_of_ble_eq_true rfl, Nat.le_of_ble_eq_true rfl⟩ ⟨Nat.le_of_ble_eq_true rfl, Nat.le_of_ble_eq_true rfl⟩ dX6_recall_53 (fun H locs hw => ?_)
          obtain ⟨x11, h12, hf⟩ := qbd_e hf
          refine k_callVv' (rest := []) (As := [.int (x.1 0 8), .int a1, .int r9]) F ws_in (t_X3_replace h12) cv_X3_replace ml_X6_192 hw 4 rfl rfl rfl hl.1 rfl (Nat.le_of_ble_eq_true rfl) ⟨Nat.le_of_ble_eq_true rfl, Nat.le_of_ble_eq_true rfl⟩ ⟨Nat.le_of_ble_eq_true rfl, Nat.le_of_ble_eq_true rfl⟩ dX6_recall_56 (fun H locs hw => ?_)
          refine lv_aload_n hx hb dX6_recall_59 rfl (lv_at hl 0 rfl) ?_
          obtain ⟨r13, h14, hf⟩ := qbd_e hf
          refine k_callVi' (rest := []) (As := []) F ws_in (t_X6_latestRecallEnd h14) cv_X6_latestRecallEnd ml_X6_195 hw 0 rfl rfl rfl hl.1 rfl (Nat.le_of_ble_eq_true rfl) ⟨Nat.le_of_ble_eq_true rfl, Nat.le_of_ble_eq_true rfl⟩ ⟨Nat.le_of_ble_eq_true rfl, Nat.le_of_ble_eq_true rfl⟩ dX6_recall_60 (fun H locs hw => ?_)
          obtain ⟨rfl, rfl, rfl⟩ := q_s3 hf
          exact k_xiret F hr hlk hw rfl (Nat.le_of_ble_eq_true rfl) (Nat.le_of_ble_eq_true rfl) dX6_recall_63
        · have hf := q_f c8 hf
          obtain ⟨rfl, rfl, rfl⟩ := q_s3 hf
          exact k_throwI F hlt hlk hout ws_in hZ hw hl.1 (by decide) (by decide) thc_2 thi_2 tha_2 ⟨Nat.le_of_ble_eq_true rfl, Nat.le_of_ble_eq_true rfl, Nat.le_of_ble_eq_true rfl, Nat.le_of_ble_eq_true rfl⟩ (Nat.le_of_ble_eq_true rfl) (Nat.le_of_ble_eq_true rfl) dX6_recall_35 dX6_recall_38 dX6_recall_39 dX6_recall_42
    · have hf := q_f c2 hf
      obtain ⟨rfl, rfl, rfl⟩ := q_s3 hf
      exact k_throwI F hlt hlk hout ws_in hZ hw hl.1 (by decide) (by decide) thc_1 thi_1 tha_1 ⟨Nat.le_of_ble_eq_true rfl, Nat.le_of_ble_eq_true rfl, Nat.le_of_ble_eq_true rfl, Nat.le_of_ble_eq_true rfl⟩ (Nat.le_of_ble_eq_true rfl) (Nat.le_of_ble_eq_true rfl) dX6_recall_10 dX6_recall_13 dX6_recall_14 dX6_recall_17
def f_X6_termCount (n : Nat) (x : SX) : Option (Int32) := some (x.1 1 7)
set_option maxHeartbeats 4000000 in
set_option maxRecDepth 100000 in
theorem t_X6_termCount {G : gG} {l : Launch} {ad : Nat → Nat} {n : Nat} {x : SX} {rv : Int32} (hf : f_X6_termCount n x = some rv) : MetI G l yX6_termCount cX6_termCount 1 (some .int) 0 0 0 0 [.ref (ad 0)] (wX G ad x) (wX G ad x) rv := by
  refine k_ofI (by decide) (Nat.le_of_ble_eq_true rfl) ?_
  intro p e s m args below meth c ls A F hr hlk hl hw
  have hx := F.1
  have hb := F.2.1
  have hl : lv_has ls 1 [(0, .ref (ad 0))] := hl
  unfold f_X6_termCount at hf
  refine lv_aload_n hx hb dX6_termCount_0 rfl (lv_at hl 0 rfl) ?_
  refine X_g_0_0 F ws_in hw fl_X6_10 dX6_termCount_1 ?_
  refine X_g_1_7 F ws_in hw fl_X6_198 dX6_termCount_4 ?_
  obtain rfl := q_s hf
  exact k_iret F hr hlk hw (Nat.le_of_ble_eq_true rfl) (Nat.le_of_ble_eq_true rfl) dX6_termCount_7
def f_X6_kindOf (n : Nat) (x : SX) (a1 : Int32) : Option (Nat × Int32) := (qxb (f_X6_checkTerm n x a1) ((0 : Int32)) ((qgd (qin a1 10) (some (0, (x.1 10 a1.toNatClampNeg))))))
set_option maxHeartbeats 4000000 in
set_option maxRecDepth 100000 in
theorem t_X6_kindOf {G : gG} {l : Launch} (hlt : l.stackTraces = false) {ad : Nat → Nat} {n : Nat} {x : SX} {a1 : Int32} {k0 : Nat} {rv : Int32} (hf : f_X6_kindOf n x a1 = some (k0, rv)) : MetXI G l yX6_kindOf cX6_kindOf 2 (some .int) 7 1 6 121 [.ref (ad 0), .int a1] (wX G ad x) (wX G ad x) k0 rv := by
  refine k_ofXI (by decide) (Nat.le_of_ble_eq_true rfl) ?_
  intro p e s m args below meth c ls A F hr hlk hout hl hw hZ
  have hx := F.1
  have hb := F.2.1
  have hl : lv_has ls 2 [(0, .ref (ad 0)), (1, .int a1)] := hl
  unfold f_X6_kindOf at hf
  refine lv_aload_n hx hb dX6_kindOf_0 rfl (lv_at hl 0 rfl) ?_
  refine lv_iload_n hx hb dX6_kindOf_1 rfl (lv_at hl 1 rfl) ?_
  obtain ⟨k1, h2, hk2, hn2⟩ := qxb_e hf
  refine k_xcallVv' (rest := []) (As := [.int a1]) F ws_in (t_X6_checkTerm hlt h2) cv_X6_checkTerm ml_X6_129 hZ hw 0 rfl rfl rfl hl.1 rfl (Nat.le_of_ble_eq_true rfl) ⟨Nat.le_of_ble_eq_true rfl, Nat.le_of_ble_eq_true rfl⟩ ⟨Nat.le_of_ble_eq_true rfl, Nat.le_of_ble_eq_true rfl⟩ dX6_kindOf_2 (fun hk9 E ce q9 H locs hE hw g1 g2 g3 => ?_) (fun hk9 H locs hw => ?_)
  · cases hn2 hk9
    exact k_xoutI hlk hout hw hk9 hE g1 g2 g3 (Nat.le_of_ble_eq_true rfl) (Nat.le_of_ble_eq_true rfl)
  have hf := hk2 hk9
  refine lv_aload_n hx hb dX6_kindOf_5 rfl (lv_at hl 0 rfl) ?_
  refine X_g_0_0 F ws_in hw fl_X6_10 dX6_kindOf_6 ?_
  refine X_g_1_0 F ws_in hw fl_X6_199 dX6_kindOf_9 ?_
  refine lv_iload_n hx hb dX6_kindOf_12 rfl (lv_at hl 1 rfl) ?_
  obtain ⟨g3, hf⟩ := qgd_e hf
  refine X_l_10 F hw g3 dX6_kindOf_13 ?_
  obtain ⟨rfl, rfl⟩ := q_s2 hf
  exact k_xiret F hr hlk hw rfl (Nat.le_of_ble_eq_true rfl) (Nat.le_of_ble_eq_true rfl) dX6_kindOf_14
def f_X6_isQuashed (n : Nat) (x : SX) (a1 : Int32) : Option (Nat × Int32) := (qxb (f_X6_checkTerm n x a1) ((0 : Int32)) ((qgd (qin a1 10) ((qgd (qz (x.1 16 a1.toNatClampNeg)) (some (0, (x.1 16 a1.toNatClampNeg))))))))
set_option maxHeartbeats 4000000 in
set_option maxRecDepth 100000 in
theorem t_X6_isQuashed {G : gG} {l : Launch} (hlt : l.stackTraces = false) {ad : Nat → Nat} {n : Nat} {x : SX} {a1 : Int32} {k0 : Nat} {rv : Int32} (hf : f_X6_isQuashed n x a1 = some (k0, rv)) : MetXI G l yX6_isQuashed cX6_isQuashed 2 (some .boolean) 7 1 6 121 [.ref (ad 0), .int a1] (wX G ad x) (wX G ad x) k0 rv := by
  refine k_ofXI (by decide) (Nat.le_of_ble_eq_true rfl) ?_
  intro p e s m args below meth c ls A F hr hlk hout hl hw hZ
  have hx := F.1
  have hb := F.2.1
  have hl : lv_has ls 2 [(0, .ref (ad 0)), (1, .int a1)] := hl
  unfold f_X6_isQuashed at hf
  refine lv_aload_n hx hb dX6_isQuashed_0 rfl (lv_at hl 0 rfl) ?_
  refine lv_iload_n hx hb dX6_isQuashed_1 rfl (lv_at hl 1 rfl) ?_
  obtain ⟨k1, h2, hk2, hn2⟩ := qxb_e hf
  refine k_xcallVv' (rest := []) (As := [.int a1]) F ws_in (t_X6_checkTerm hlt h2) cv_X6_checkTerm ml_X6_129 hZ hw 0 rfl rfl rfl hl.1 rfl (Nat.le_of_ble_eq_true rfl) ⟨Nat.le_of_ble_eq_true rfl, Nat.le_of_ble_eq_true rfl⟩ ⟨Nat.le_of_ble_eq_true rfl, Nat.le_of_ble_eq_true rfl⟩ dX6_isQuashed_2 (fun hk9 E ce q9 H locs hE hw g1 g2 g3 => ?_) (fun hk9 H locs hw => ?_)
  · cases hn2 hk9
    exact k_xoutI hlk hout hw hk9 hE g1 g2 g3 (Nat.le_of_ble_eq_true rfl) (Nat.le_of_ble_eq_true rfl)
  have hf := hk2 hk9
  refine lv_aload_n hx hb dX6_isQuashed_5 rfl (lv_at hl 0 rfl) ?_
  refine X_g_0_0 F ws_in hw fl_X6_10 dX6_isQuashed_6 ?_
  refine X_g_1_6 F ws_in hw fl_X6_132 dX6_isQuashed_9 ?_
  refine lv_iload_n hx hb dX6_isQuashed_12 rfl (lv_at hl 1 rfl) ?_
  obtain ⟨g3, hf⟩ := qgd_e hf
  refine X_l_16 F hw g3 dX6_isQuashed_13 ?_
  obtain ⟨g4, hf⟩ := qgd_e hf
  obtain ⟨rfl, rfl⟩ := q_s2 hf
  exact k_xiret F hr hlk hw (qz_n g4) (Nat.le_of_ble_eq_true rfl) (Nat.le_of_ble_eq_true rfl) dX6_isQuashed_14
def f_X6_parentOf (n : Nat) (x : SX) (a1 : Int32) : Option (Nat × Int32) := (qxb (f_X6_checkStandingTerm n x a1) ((0 : Int32)) ((qgd (qin a1 10) ((if (x.1 14 a1.toNatClampNeg) = (-1 : Int32) then some (4, (0 : Int32)) else some (0, (x.1 14 a1.toNatClampNeg)))))))
set_option maxHeartbeats 4000000 in
set_option maxRecDepth 100000 in
theorem t_X6_parentOf {G : gG} {l : Launch} (hlt : l.stackTraces = false) {ad : Nat → Nat} {n : Nat} {x : SX} {a1 : Int32} {k0 : Nat} {rv : Int32} (hf : f_X6_parentOf n x a1 = some (k0, rv)) : MetXI G l yX6_parentOf cX6_parentOf 2 (some .int) 8 3 18 142 [.ref (ad 0), .int a1] (wX G ad x) (wX G ad x) k0 rv := by
  refine k_ofXI (by decide) (Nat.le_of_ble_eq_true rfl) ?_
  intro p e s m args below meth c ls A F hr hlk hout hl hw hZ
  have hx := F.1
  have hb := F.2.1
  have hl : lv_has ls 2 [(0, .ref (ad 0)), (1, .int a1)] := hl
  unfold f_X6_parentOf at hf
  refine lv_aload_n hx hb dX6_parentOf_0 rfl (lv_at hl 0 rfl) ?_
  refine lv_iload_n hx hb dX6_parentOf_1 rfl (lv_at hl 1 rfl) ?_
  obtain ⟨k1, h2, hk2, hn2⟩ := qxb_e hf
  refine k_xcallVv' (rest := []) (As := [.int a1]) F ws_in (t_X6_checkStandingTerm hlt h2) cv_X6_checkStandingTerm ml_X6_158 hZ hw 0 rfl rfl rfl hl.1 rfl (Nat.le_of_ble_eq_true rfl) ⟨Nat.le_of_ble_eq_true rfl, Nat.le_of_ble_eq_true rfl⟩ ⟨Nat.le_of_ble_eq_true rfl, Nat.le_of_ble_eq_true rfl⟩ dX6_parentOf_2 (fun hk9 E ce q9 H locs hE hw g1 g2 g3 => ?_) (fun hk9 H locs hw => ?_)
  · cases hn2 hk9
    exact k_xoutI hlk hout hw hk9 hE g1 g2 g3 (Nat.le_of_ble_eq_true rfl) (Nat.le_of_ble_eq_true rfl)
  have hf := hk2 hk9
  refine lv_aload_n hx hb dX6_parentOf_5 rfl (lv_at hl 0 rfl) ?_
  refine X_g_0_0 F ws_in hw fl_X6_10 dX6_parentOf_6 ?_
  refine X_g_1_4 F ws_in hw fl_X6_202 dX6_parentOf_9 ?_
  refine lv_iload_n hx hb dX6_parentOf_12 rfl (lv_at hl 1 rfl) ?_
  obtain ⟨g3, hf⟩ := qgd_e hf
  refine X_l_14 F hw g3 dX6_parentOf_13 ?_
  refine lv_iconst (v := -1) hx hb dX6_parentOf_14 (by decide) ?_
  refine lv_icmp_ne (tgt := 26) hx hb dX6_parentOf_15 rfl (fun c4 => ?_) (fun c4 => ?_)
  · have hf := q_f c4 hf
    refine lv_aload_n hx hb dX6_parentOf_26 rfl (lv_at hl 0 rfl) ?_
    refine X_g_0_0 F ws_in hw fl_X6_10 dX6_parentOf_27 ?_
    refine X_g_1_4 F ws_in hw fl_X6_202 dX6_parentOf_30 ?_
    refine lv_iload_n hx hb dX6_parentOf_33 rfl (lv_at hl 1 rfl) ?_
    refine X_l_14 F hw g3 dX6_parentOf_34 ?_
    obtain ⟨rfl, rfl⟩ := q_s2 hf
    exact k_xiret F hr hlk hw rfl (Nat.le_of_ble_eq_true rfl) (Nat.le_of_ble_eq_true rfl) dX6_parentOf_35
  · have hf := q_t c4 hf
    obtain ⟨rfl, rfl⟩ := q_s2 hf
    exact k_throwI F hlt hlk hout ws_in hZ hw hl.1 (by decide) (by decide) thc_4 thi_4 tha_4 ⟨Nat.le_of_ble_eq_true rfl, Nat.le_of_ble_eq_true rfl, Nat.le_of_ble_eq_true rfl, Nat.le_of_ble_eq_true rfl⟩ (Nat.le_of_ble_eq_true rfl) (Nat.le_of_ble_eq_true rfl) dX6_parentOf_18 dX6_parentOf_21 dX6_parentOf_22 dX6_parentOf_25
def f_J6_bitCount_0f7a4 (n : Nat) (a1 : Int32) : Option (Int32) := (qnm (a1 - (((a1.toUInt32 >>> ((1 : Int32).toUInt32 &&& Int32.toUInt32 31)).toInt32) &&& (1431655765 : Int32))) fun v1 => (qnm ((v1 &&& (858993459 : Int32)) + (((v1.toUInt32 >>> ((2 : Int32).toUInt32 &&& Int32.toUInt32 31)).toInt32) &&& (858993459 : Int32))) fun v2 => (qnm ((v2 + ((v2.toUInt32 >>> ((4 : Int32).toUInt32 &&& Int32.toUInt32 31)).toInt32)) &&& (252645135 : Int32)) fun v3 => (qnm (v3 + ((v3.toUInt32 >>> ((8 : Int32).toUInt32 &&& Int32.toUInt32 31)).toInt32)) fun v4 => (qnm (v4 + ((v4.toUInt32 >>> ((16 : Int32).toUInt32 &&& Int32.toUInt32 31)).toInt32)) fun v5 => some (v5 &&& (63 : Int32)))))))
set_option maxHeartbeats 4000000 in
set_option maxRecDepth 100000 in
theorem t_J6_bitCount_0f7a4 {G : gG} {l : Launch} {n : Nat} {a1 : Int32} {rv : Int32} (hf : f_J6_bitCount_0f7a4 n a1 = some rv) : MetI G l yJ6_bitCount_0f7a4 cJ6_bitCount_0f7a4 1 (some .int) 0 0 0 0 [.int a1] (([] : va_W)) (([] : va_W)) rv := by
  refine k_ofI (by decide) (Nat.le_of_ble_eq_true rfl) ?_
  intro p e s m args below meth c ls A F hr hlk hl hw
  have hx := F.1
  have hb := F.2.1
  have hl : lv_has ls 1 [(0, .int a1)] := hl
  unfold f_J6_bitCount_0f7a4 at hf
  refine lv_iload_n hx hb dJ6_bitCount_0f7a4_0 rfl (lv_at hl 0 rfl) ?_
  refine lv_iload_n hx hb dJ6_bitCount_0f7a4_1 rfl (lv_at hl 0 rfl) ?_
  refine lv_iconst (v := 1) hx hb dJ6_bitCount_0f7a4_2 (by decide) ?_
  refine lv_iushr hx hb dJ6_bitCount_0f7a4_3 rfl ?_
  refine lv_ldcw (v := (1431655765 : Int32)) hx hb F.2.2.2.1 (F.2.2.2.2 _ (ws_in _ ct_J6_265)) dJ6_bitCount_0f7a4_4 ?_
  refine lv_iand hx hb dJ6_bitCount_0f7a4_7 ?_
  refine lv_isub hx hb dJ6_bitCount_0f7a4_8 ?_
  refine lv_topi (fun v1 ev1 => ?_)
  have hf := qnm_k ev1 hf
  refine lv_istore_n (lv' := [(0, .int v1)]) hx hb dJ6_bitCount_0f7a4_9 rfl hl (Nat.le_of_ble_eq_true rfl) rfl (fun ls hl => ?_)
  refine lv_iload_n hx hb dJ6_bitCount_0f7a4_10 rfl (lv_at hl 0 rfl) ?_
  refine lv_ldcw (v := (858993459 : Int32)) hx hb F.2.2.2.1 (F.2.2.2.2 _ (ws_in _ ct_J6_266)) dJ6_bitCount_0f7a4_11 ?_
  refine lv_iand hx hb dJ6_bitCount_0f7a4_14 ?_
  refine lv_iload_n hx hb dJ6_bitCount_0f7a4_15 rfl (lv_at hl 0 rfl) ?_
  refine lv_iconst (v := 2) hx hb dJ6_bitCount_0f7a4_16 (by decide) ?_
  refine lv_iushr hx hb dJ6_bitCount_0f7a4_17 rfl ?_
  refine lv_ldcw (v := (858993459 : Int32)) hx hb F.2.2.2.1 (F.2.2.2.2 _ (ws_in _ ct_J6_266)) dJ6_bitCount_0f7a4_18 ?_
  refine lv_iand hx hb dJ6_bitCount_0f7a4_21 ?_
  refine lv_iadd hx hb dJ6_bitCount_0f7a4_22 ?_
  refine lv_topi (fun v2 ev2 => ?_)
  have hf := qnm_k ev2 hf
  refine lv_istore_n (lv' := [(0, .int v2)]) hx hb dJ6_bitCount_0f7a4_23 rfl hl (Nat.le_of_ble_eq_true rfl) rfl (fun ls hl => ?_)
  refine lv_iload_n hx hb dJ6_bitCount_0f7a4_24 rfl (lv_at hl 0 rfl) ?_
  refine lv_iload_n hx hb dJ6_bitCount_0f7a4_25 rfl (lv_at hl 0 rfl) ?_
  refine lv_iconst (v := 4) hx hb dJ6_bitCount_0f7a4_26 (by decide) ?_
  refine lv_iushr hx hb dJ6_bitCount_0f7a4_27 rfl ?_
  refine lv_iadd hx hb dJ6_bitCount_0f7a4_28 ?_
  refine lv_ldcw (v := (252645135 : Int32)) hx hb F.2.2.2.1 (F.2.2.2.2 _ (ws_in _ ct_J6_267)) dJ6_bitCount_0f7a4_29 ?_
  refine lv_iand hx hb dJ6_bitCount_0f7a4_32 ?_
  refine lv_topi (fun v3 ev3 => ?_)
  have hf := qnm_k ev3 hf
  refine lv_istore_n (lv' := [(0, .int v3)]) hx hb dJ6_bitCount_0f7a4_33 rfl hl (Nat.le_of_ble_eq_true rfl) rfl (fun ls hl => ?_)
  refine lv_iload_n hx hb dJ6_bitCount_0f7a4_34 rfl (lv_at hl 0 rfl) ?_
  refine lv_iload_n hx hb dJ6_bitCount_0f7a4_35 rfl (lv_at hl 0 rfl) ?_
  refine lv_bipush (v := 8) hx hb dJ6_bitCount_0f7a4_36 (by decide) ?_
  refine lv_iushr hx hb dJ6_bitCount_0f7a4_38 rfl ?_
  refine lv_iadd hx hb dJ6_bitCount_0f7a4_39 ?_
  refine lv_topi (fun v4 ev4 => ?_)
  have hf := qnm_k ev4 hf
  refine lv_istore_n (lv' := [(0, .int v4)]) hx hb dJ6_bitCount_0f7a4_40 rfl hl (Nat.le_of_ble_eq_true rfl) rfl (fun ls hl => ?_)
  refine lv_iload_n hx hb dJ6_bitCount_0f7a4_41 rfl (lv_at hl 0 rfl) ?_
  refine lv_iload_n hx hb dJ6_bitCount_0f7a4_42 rfl (lv_at hl 0 rfl) ?_
  refine lv_bipush (v := 16) hx hb dJ6_bitCount_0f7a4_43 (by decide) ?_
  refine lv_iushr hx hb dJ6_bitCount_0f7a4_45 rfl ?_
  refine lv_iadd hx hb dJ6_bitCount_0f7a4_46 ?_
  refine lv_topi (fun v5 ev5 => ?_)
  have hf := qnm_k ev5 hf
  refine lv_istore_n (lv' := [(0, .int v5)]) hx hb dJ6_bitCount_0f7a4_47 rfl hl (Nat.le_of_ble_eq_true rfl) rfl (fun ls hl => ?_)
  refine lv_iload_n hx hb dJ6_bitCount_0f7a4_48 rfl (lv_at hl 0 rfl) ?_
  refine lv_bipush (v := 63) hx hb dJ6_bitCount_0f7a4_49 (by decide) ?_
  refine lv_iand hx hb dJ6_bitCount_0f7a4_51 ?_
  obtain rfl := q_s hf
  exact k_iret F hr hlk hw (Nat.le_of_ble_eq_true rfl) (Nat.le_of_ble_eq_true rfl) dJ6_bitCount_0f7a4_52
def f_X6_chainLength (n : Nat) (x : SX) (a1 : Int32) : Option (Nat × Int32) := (qxb (f_X6_checkStandingTerm n x a1) ((0 : Int32)) ((qgd (qin a1 10) ((qbd (f_J6_bitCount_0f7a4 n (x.1 18 a1.toNatClampNeg)) fun r4 => some (0, r4))))))
set_option maxHeartbeats 4000000 in
set_option maxRecDepth 100000 in
theorem t_X6_chainLength {G : gG} {l : Launch} (hlt : l.stackTraces = false) {ad : Nat → Nat} {n : Nat} {x : SX} {a1 : Int32} {k0 : Nat} {rv : Int32} (hf : f_X6_chainLength n x a1 = some (k0, rv)) : MetXI G l yX6_chainLength cX6_chainLength 2 (some .int) 8 2 12 142 [.ref (ad 0), .int a1] (wX G ad x) (wX G ad x) k0 rv := by
  refine k_ofXI (by decide) (Nat.le_of_ble_eq_true rfl) ?_
  intro p e s m args below meth c ls A F hr hlk hout hl hw hZ
  have hx := F.1
  have hb := F.2.1
  have hl : lv_has ls 2 [(0, .ref (ad 0)), (1, .int a1)] := hl
  unfold f_X6_chainLength at hf
  refine lv_aload_n hx hb dX6_chainLength_0 rfl (lv_at hl 0 rfl) ?_
  refine lv_iload_n hx hb dX6_chainLength_1 rfl (lv_at hl 1 rfl) ?_
  obtain ⟨k1, h2, hk2, hn2⟩ := qxb_e hf
  refine k_xcallVv' (rest := []) (As := [.int a1]) F ws_in (t_X6_checkStandingTerm hlt h2) cv_X6_checkStandingTerm ml_X6_158 hZ hw 0 rfl rfl rfl hl.1 rfl (Nat.le_of_ble_eq_true rfl) ⟨Nat.le_of_ble_eq_true rfl, Nat.le_of_ble_eq_true rfl⟩ ⟨Nat.le_of_ble_eq_true rfl, Nat.le_of_ble_eq_true rfl⟩ dX6_chainLength_2 (fun hk9 E ce q9 H locs hE hw g1 g2 g3 => ?_) (fun hk9 H locs hw => ?_)
  · cases hn2 hk9
    exact k_xoutI hlk hout hw hk9 hE g1 g2 g3 (Nat.le_of_ble_eq_true rfl) (Nat.le_of_ble_eq_true rfl)
  have hf := hk2 hk9
  refine lv_aload_n hx hb dX6_chainLength_5 rfl (lv_at hl 0 rfl) ?_
  refine X_g_0_0 F ws_in hw fl_X6_10 dX6_chainLength_6 ?_
  refine X_g_1_8 F ws_in hw fl_X6_208 dX6_chainLength_9 ?_
  refine lv_iload_n hx hb dX6_chainLength_12 rfl (lv_at hl 1 rfl) ?_
  obtain ⟨g3, hf⟩ := qgd_e hf
  refine X_l_18 F hw g3 dX6_chainLength_13 ?_
  obtain ⟨r4, h5, hf⟩ := qbd_e hf
  refine k_callPi (rest := []) (As := [.int (x.1 18 a1.toNatClampNeg)]) F ws_in (t_J6_bitCount_0f7a4 h5) cs_J6_bitCount_0f7a4 ml_X6_211 hw rfl hl.1 rfl (Nat.le_of_ble_eq_true rfl) ⟨Nat.le_of_ble_eq_true rfl, Nat.le_of_ble_eq_true rfl⟩ ⟨Nat.le_of_ble_eq_true rfl, Nat.le_of_ble_eq_true rfl⟩ dX6_chainLength_14 (fun H locs hw => ?_)
  obtain ⟨rfl, rfl⟩ := q_s2 hf
  exact k_xiret F hr hlk hw rfl (Nat.le_of_ble_eq_true rfl) (Nat.le_of_ble_eq_true rfl) dX6_chainLength_17
def f_X6_descendants_l9 (x : SX) (a1 : Int32) : Nat → Int32 → Int32 → Option (Nat × Int32)
  | 0, _, _ => none
  | m + 1, v3, v4 => (if (x.1 1 7) ≤ v4 then some (0, v3) else (qbd (if v4 = a1 then some v3 else (qgd (qin v4 10) ((if (x.1 16 v4.toNatClampNeg) = 0 then (if ((x.1 18 v4.toNatClampNeg) &&& ((1 : Int32) <<< (a1 &&& 31))) = 0 then some v3 else (qnm (v3 + (1 : Int32)) fun v14 => some v14)) else some v3)))) fun v7 => (qnm (v4 + (1 : Int32)) fun v9 => (f_X6_descendants_l9 x a1 m) v7 v9)))
def f_X6_descendants (n : Nat) (x : SX) (a1 : Int32) : Option (Nat × Int32) := (qxb (f_X6_checkStandingTerm n x a1) ((0 : Int32)) (f_X6_descendants_l9 x a1 n (0 : Int32) (0 : Int32)))
set_option maxHeartbeats 4000000 in
set_option maxRecDepth 100000 in
theorem t_X6_descendants {G : gG} {l : Launch} (hlt : l.stackTraces = false) {ad : Nat → Nat} {n : Nat} {x : SX} {a1 : Int32} {k0 : Nat} {rv : Int32} (hf : f_X6_descendants n x a1 = some (k0, rv)) : MetXI G l yX6_descendants cX6_descendants 4 (some .int) 8 2 12 142 [.ref (ad 0), .int a1] (wX G ad x) (wX G ad x) k0 rv := by
  refine k_ofXI (by decide) (Nat.le_of_ble_eq_true rfl) ?_
  intro p e s m args below meth c ls A F hr hlk hout hl hw hZ
  have hx := F.1
  have hb := F.2.1
  have hl : lv_has ls 4 [(0, .ref (ad 0)), (1, .int a1)] := hl
  unfold f_X6_descendants at hf
  refine lv_aload_n hx hb dX6_descendants_0 rfl (lv_at hl 0 rfl) ?_
  refine lv_iload_n hx hb dX6_descendants_1 rfl (lv_at hl 1 rfl) ?_
  obtain ⟨k1, h2, hk2, hn2⟩ := qxb_e hf
  refine k_xcallVv' (rest := []) (As := [.int a1]) F ws_in (t_X6_checkStandingTerm hlt h2) cv_X6_checkStandingTerm ml_X6_158 hZ hw 0 rfl rfl rfl hl.1 rfl (Nat.le_of_ble_eq_true rfl) ⟨Nat.le_of_ble_eq_true rfl, Nat.le_of_ble_eq_true rfl⟩ ⟨Nat.le_of_ble_eq_true rfl, Nat.le_of_ble_eq_true rfl⟩ dX6_descendants_2 (fun hk9 E ce q9 H locs hE hw g1 g2 g3 => ?_) (fun hk9 H locs hw => ?_)
  · cases hn2 hk9
    exact k_xoutI hlk hout hw hk9 hE g1 g2 g3 (Nat.le_of_ble_eq_true rfl) (Nat.le_of_ble_eq_true rfl)
  have hf := hk2 hk9
  refine lv_iconst (v := 0) hx hb dX6_descendants_5 (by decide) ?_
  refine lv_istore_n (lv' := [(2, .int (0 : Int32)), (0, .ref (ad 0)), (1, .int a1)]) hx hb dX6_descendants_6 rfl hl (Nat.le_of_ble_eq_true rfl) rfl (fun ls hl => ?_)
  refine lv_iconst (v := 0) hx hb dX6_descendants_7 (by decide) ?_
  refine lv_istore_n (lv' := [(3, .int (0 : Int32)), (2, .int (0 : Int32)), (0, .ref (ad 0)), (1, .int a1)]) hx hb dX6_descendants_8 rfl hl (Nat.le_of_ble_eq_true rfl) rfl (fun ls hl => ?_)
  have L5 : ∀ (m0 : Nat) (v3 : Int32) (v4 : Int32) (H : Heap) (locs : List Loc) (ls : Array Slot), Wd G (wX G ad x) A s H locs → lv_has ls 4 [(0, .ref (ad 0)), (1, .int a1), (2, .int v3), (3, .int v4)] → f_X6_descendants_l9 x a1 m0 v3 v4 = some (k0, rv) → W p l e (rmk 8 2 12 142) s m args below meth c H locs 2 12 (KQXI G below args s A (wX G ad x) k0 rv 2 12) (F0 m 9 ls []) := by
    intro m0
    induction m0 with
    | zero => intro v3 v4 H locs ls hw hl hf; cases hf
    | succ mL5 ih5 =>
      intro v3 v4 H locs ls hw hl hf
      unfold f_X6_descendants_l9 at hf
      refine lv_iload_n hx hb dX6_descendants_9 rfl (lv_at hl 3 rfl) ?_
      refine lv_aload_n hx hb dX6_descendants_10 rfl (lv_at hl 0 rfl) ?_
      refine X_g_0_0 F ws_in hw fl_X6_10 dX6_descendants_11 ?_
      refine X_g_1_7 F ws_in hw fl_X6_198 dX6_descendants_14 ?_
      refine lv_icmp_ge (tgt := 62) hx hb dX6_descendants_17 rfl (fun c6 => ?_) (fun c6 => ?_)
      · have hf := q_t c6 hf
        refine lv_iload_n hx hb dX6_descendants_62 rfl (lv_at hl 2 rfl) ?_
        obtain ⟨rfl, rfl⟩ := q_s2 hf
        exact k_xiret F hr hlk hw rfl (Nat.le_of_ble_eq_true rfl) (Nat.le_of_ble_eq_true rfl) dX6_descendants_63
      · have hf := q_f c6 hf
        refine lv_iload_n hx hb dX6_descendants_20 rfl (lv_at hl 3 rfl) ?_
        refine lv_iload_n hx hb dX6_descendants_21 rfl (lv_at hl 1 rfl) ?_
        obtain ⟨v7, hq15, hf⟩ := qbd_e hf
        have J8 : ∀ (H : Heap) (locs : List Loc) (ls : Array Slot), Wd G (wX G ad x) A s H locs → lv_has ls 4 [(0, .ref (ad 0)), (1, .int a1), (2, .int v7), (3, .int v4)] → W p l e (rmk 8 2 12 142) s m args below meth c H locs 2 12 (KQXI G below args s A (wX G ad x) k0 rv 2 12) (F0 m 56 ls []) := by
          intro H locs ls hw hl
          obtain ⟨v9, ev9⟩ : ∃ y : Int32, y = v4 + (1 : Int32) := ⟨_, rfl⟩
          refine lv_iinc (v := v9) (lv' := [(3, .int v9), (0, .ref (ad 0)), (1, .int a1), (2, .int v7)]) hx hb dX6_descendants_56 hl (k := 3) rfl (by rw [ev9]; rfl) (Nat.le_of_ble_eq_true rfl) rfl (fun ls hl => ?_)
          have hf := qnm_k ev9 hf
          refine lv_goto (tgt := 9) hx hb dX6_descendants_59 rfl ?_
          exact ih5 v7 v9 _ _ _ hw (lv_sub hl [1, 2, 3, 0] rfl) hf
        have hf := hq15
        refine lv_icmp_eq (tgt := 56) hx hb dX6_descendants_22 rfl (fun c10 => ?_) (fun c10 => ?_)
        · have hf := q_t c10 hf
          obtain rfl := q_s hf
          exact J8 _ _ _ hw (lv_sub hl [0, 1, 2, 3] rfl)
        · have hf := q_f c10 hf
          refine lv_aload_n hx hb dX6_descendants_25 rfl (lv_at hl 0 rfl) ?_
          refine X_g_0_0 F ws_in hw fl_X6_10 dX6_descendants_26 ?_
          refine X_g_1_6 F ws_in hw fl_X6_132 dX6_descendants_29 ?_
          refine lv_iload_n hx hb dX6_descendants_32 rfl (lv_at hl 3 rfl) ?_
          obtain ⟨g11, hf⟩ := qgd_e hf
          refine X_l_16 F hw g11 dX6_descendants_33 ?_
          refine lv_if_ne (tgt := 56) hx hb dX6_descendants_34 rfl (fun c12 => ?_) (fun c12 => ?_)
          · have hf := q_f c12 hf
            obtain rfl := q_s hf
            exact J8 _ _ _ hw (lv_sub hl [0, 1, 2, 3] rfl)
          · have hf := q_t c12 hf
            refine lv_aload_n hx hb dX6_descendants_37 rfl (lv_at hl 0 rfl) ?_
            refine X_g_0_0 F ws_in hw fl_X6_10 dX6_descendants_38 ?_
            refine X_g_1_8 F ws_in hw fl_X6_208 dX6_descendants_41 ?_
            refine lv_iload_n hx hb dX6_descendants_44 rfl (lv_at hl 3 rfl) ?_
            refine X_l_18 F hw g11 dX6_descendants_45 ?_
            refine lv_iconst (v := 1) hx hb dX6_descendants_46 (by decide) ?_
            refine lv_iload_n hx hb dX6_descendants_47 rfl (lv_at hl 1 rfl) ?_
            refine lv_ishl hx hb dX6_descendants_48 ?_
            refine lv_iand hx hb dX6_descendants_49 ?_
            refine lv_if_eq (tgt := 56) hx hb dX6_descendants_50 rfl (fun c13 => ?_) (fun c13 => ?_)
            · have hf := q_t c13 hf
              obtain rfl := q_s hf
              exact J8 _ _ _ hw (lv_sub hl [0, 1, 2, 3] rfl)
            · have hf := q_f c13 hf
              obtain ⟨v14, ev14⟩ : ∃ y : Int32, y = v3 + (1 : Int32) := ⟨_, rfl⟩
              refine lv_iinc (v := v14) (lv' := [(2, .int v14), (0, .ref (ad 0)), (1, .int a1), (3, .int v4)]) hx hb dX6_descendants_53 hl (k := 2) rfl (by rw [ev14]; rfl) (Nat.le_of_ble_eq_true rfl) rfl (fun ls hl => ?_)
              have hf := qnm_k ev14 hf
              obtain rfl := q_s hf
              exact J8 _ _ _ hw (lv_sub hl [1, 2, 0, 3] rfl)
  exact L5 n (0 : Int32) (0 : Int32) _ _ _ hw (lv_sub hl [2, 3, 1, 0] rfl) hf
def f_X6_start (n : Nat) (x : SX) (a1 : Int32) : Option (Nat × Int32) := (qxb (f_X6_checkStandingTerm n x a1) ((0 : Int32)) ((qgd (qin a1 10) (some (0, (x.1 19 a1.toNatClampNeg))))))
set_option maxHeartbeats 4000000 in
set_option maxRecDepth 100000 in
theorem t_X6_start {G : gG} {l : Launch} (hlt : l.stackTraces = false) {ad : Nat → Nat} {n : Nat} {x : SX} {a1 : Int32} {k0 : Nat} {rv : Int32} (hf : f_X6_start n x a1 = some (k0, rv)) : MetXI G l yX6_start cX6_start 2 (some .int) 8 2 12 142 [.ref (ad 0), .int a1] (wX G ad x) (wX G ad x) k0 rv := by
  refine k_ofXI (by decide) (Nat.le_of_ble_eq_true rfl) ?_
  intro p e s m args below meth c ls A F hr hlk hout hl hw hZ
  have hx := F.1
  have hb := F.2.1
  have hl : lv_has ls 2 [(0, .ref (ad 0)), (1, .int a1)] := hl
  unfold f_X6_start at hf
  refine lv_aload_n hx hb dX6_start_0 rfl (lv_at hl 0 rfl) ?_
  refine lv_iload_n hx hb dX6_start_1 rfl (lv_at hl 1 rfl) ?_
  obtain ⟨k1, h2, hk2, hn2⟩ := qxb_e hf
  refine k_xcallVv' (rest := []) (As := [.int a1]) F ws_in (t_X6_checkStandingTerm hlt h2) cv_X6_checkStandingTerm ml_X6_158 hZ hw 0 rfl rfl rfl hl.1 rfl (Nat.le_of_ble_eq_true rfl) ⟨Nat.le_of_ble_eq_true rfl, Nat.le_of_ble_eq_true rfl⟩ ⟨Nat.le_of_ble_eq_true rfl, Nat.le_of_ble_eq_true rfl⟩ dX6_start_2 (fun hk9 E ce q9 H locs hE hw g1 g2 g3 => ?_) (fun hk9 H locs hw => ?_)
  · cases hn2 hk9
    exact k_xoutI hlk hout hw hk9 hE g1 g2 g3 (Nat.le_of_ble_eq_true rfl) (Nat.le_of_ble_eq_true rfl)
  have hf := hk2 hk9
  refine lv_aload_n hx hb dX6_start_5 rfl (lv_at hl 0 rfl) ?_
  refine X_g_0_0 F ws_in hw fl_X6_10 dX6_start_6 ?_
  refine X_g_1_9 F ws_in hw fl_X6_216 dX6_start_9 ?_
  refine lv_iload_n hx hb dX6_start_12 rfl (lv_at hl 1 rfl) ?_
  obtain ⟨g3, hf⟩ := qgd_e hf
  refine X_l_19 F hw g3 dX6_start_13 ?_
  obtain ⟨rfl, rfl⟩ := q_s2 hf
  exact k_xiret F hr hlk hw rfl (Nat.le_of_ble_eq_true rfl) (Nat.le_of_ble_eq_true rfl) dX6_start_14
def f_X6_length (n : Nat) (x : SX) (a1 : Int32) : Option (Nat × Int32) := (qxb (f_X6_checkStandingTerm n x a1) ((0 : Int32)) ((qgd (qin a1 10) (some (0, (x.1 20 a1.toNatClampNeg))))))
set_option maxHeartbeats 4000000 in
set_option maxRecDepth 100000 in
theorem t_X6_length {G : gG} {l : Launch} (hlt : l.stackTraces = false) {ad : Nat → Nat} {n : Nat} {x : SX} {a1 : Int32} {k0 : Nat} {rv : Int32} (hf : f_X6_length n x a1 = some (k0, rv)) : MetXI G l yX6_length cX6_length 2 (some .int) 8 2 12 142 [.ref (ad 0), .int a1] (wX G ad x) (wX G ad x) k0 rv := by
  refine k_ofXI (by decide) (Nat.le_of_ble_eq_true rfl) ?_
  intro p e s m args below meth c ls A F hr hlk hout hl hw hZ
  have hx := F.1
  have hb := F.2.1
  have hl : lv_has ls 2 [(0, .ref (ad 0)), (1, .int a1)] := hl
  unfold f_X6_length at hf
  refine lv_aload_n hx hb dX6_length_0 rfl (lv_at hl 0 rfl) ?_
  refine lv_iload_n hx hb dX6_length_1 rfl (lv_at hl 1 rfl) ?_
  obtain ⟨k1, h2, hk2, hn2⟩ := qxb_e hf
  refine k_xcallVv' (rest := []) (As := [.int a1]) F ws_in (t_X6_checkStandingTerm hlt h2) cv_X6_checkStandingTerm ml_X6_158 hZ hw 0 rfl rfl rfl hl.1 rfl (Nat.le_of_ble_eq_true rfl) ⟨Nat.le_of_ble_eq_true rfl, Nat.le_of_ble_eq_true rfl⟩ ⟨Nat.le_of_ble_eq_true rfl, Nat.le_of_ble_eq_true rfl⟩ dX6_length_2 (fun hk9 E ce q9 H locs hE hw g1 g2 g3 => ?_) (fun hk9 H locs hw => ?_)
  · cases hn2 hk9
    exact k_xoutI hlk hout hw hk9 hE g1 g2 g3 (Nat.le_of_ble_eq_true rfl) (Nat.le_of_ble_eq_true rfl)
  have hf := hk2 hk9
  refine lv_aload_n hx hb dX6_length_5 rfl (lv_at hl 0 rfl) ?_
  refine X_g_0_0 F ws_in hw fl_X6_10 dX6_length_6 ?_
  refine X_g_1_10 F ws_in hw fl_X6_219 dX6_length_9 ?_
  refine lv_iload_n hx hb dX6_length_12 rfl (lv_at hl 1 rfl) ?_
  obtain ⟨g3, hf⟩ := qgd_e hf
  refine X_l_20 F hw g3 dX6_length_13 ?_
  obtain ⟨rfl, rfl⟩ := q_s2 hf
  exact k_xiret F hr hlk hw rfl (Nat.le_of_ble_eq_true rfl) (Nat.le_of_ble_eq_true rfl) dX6_length_14
def f_X6_totalLength (n : Nat) (x : SX) (a1 : Int32) : Option (Nat × Int32) := (qxb (f_X6_checkStandingTerm n x a1) ((0 : Int32)) ((qgd (qin a1 10) (some (0, (x.1 22 a1.toNatClampNeg))))))
set_option maxHeartbeats 4000000 in
set_option maxRecDepth 100000 in
theorem t_X6_totalLength {G : gG} {l : Launch} (hlt : l.stackTraces = false) {ad : Nat → Nat} {n : Nat} {x : SX} {a1 : Int32} {k0 : Nat} {rv : Int32} (hf : f_X6_totalLength n x a1 = some (k0, rv)) : MetXI G l yX6_totalLength cX6_totalLength 2 (some .int) 8 2 12 142 [.ref (ad 0), .int a1] (wX G ad x) (wX G ad x) k0 rv := by
  refine k_ofXI (by decide) (Nat.le_of_ble_eq_true rfl) ?_
  intro p e s m args below meth c ls A F hr hlk hout hl hw hZ
  have hx := F.1
  have hb := F.2.1
  have hl : lv_has ls 2 [(0, .ref (ad 0)), (1, .int a1)] := hl
  unfold f_X6_totalLength at hf
  refine lv_aload_n hx hb dX6_totalLength_0 rfl (lv_at hl 0 rfl) ?_
  refine lv_iload_n hx hb dX6_totalLength_1 rfl (lv_at hl 1 rfl) ?_
  obtain ⟨k1, h2, hk2, hn2⟩ := qxb_e hf
  refine k_xcallVv' (rest := []) (As := [.int a1]) F ws_in (t_X6_checkStandingTerm hlt h2) cv_X6_checkStandingTerm ml_X6_158 hZ hw 0 rfl rfl rfl hl.1 rfl (Nat.le_of_ble_eq_true rfl) ⟨Nat.le_of_ble_eq_true rfl, Nat.le_of_ble_eq_true rfl⟩ ⟨Nat.le_of_ble_eq_true rfl, Nat.le_of_ble_eq_true rfl⟩ dX6_totalLength_2 (fun hk9 E ce q9 H locs hE hw g1 g2 g3 => ?_) (fun hk9 H locs hw => ?_)
  · cases hn2 hk9
    exact k_xoutI hlk hout hw hk9 hE g1 g2 g3 (Nat.le_of_ble_eq_true rfl) (Nat.le_of_ble_eq_true rfl)
  have hf := hk2 hk9
  refine lv_aload_n hx hb dX6_totalLength_5 rfl (lv_at hl 0 rfl) ?_
  refine X_g_0_0 F ws_in hw fl_X6_10 dX6_totalLength_6 ?_
  refine X_g_1_12 F ws_in hw fl_X6_222 dX6_totalLength_9 ?_
  refine lv_iload_n hx hb dX6_totalLength_12 rfl (lv_at hl 1 rfl) ?_
  obtain ⟨g3, hf⟩ := qgd_e hf
  refine X_l_22 F hw g3 dX6_totalLength_13 ?_
  obtain ⟨rfl, rfl⟩ := q_s2 hf
  exact k_xiret F hr hlk hw rfl (Nat.le_of_ble_eq_true rfl) (Nat.le_of_ble_eq_true rfl) dX6_totalLength_14
def f_X6_custodialPart (n : Nat) (x : SX) (a1 : Int32) : Option (Nat × Int32) := (qxb (f_X6_checkStandingTerm n x a1) ((0 : Int32)) ((qgd (qin a1 10) (some (0, (x.1 23 a1.toNatClampNeg))))))
set_option maxHeartbeats 4000000 in
set_option maxRecDepth 100000 in
theorem t_X6_custodialPart {G : gG} {l : Launch} (hlt : l.stackTraces = false) {ad : Nat → Nat} {n : Nat} {x : SX} {a1 : Int32} {k0 : Nat} {rv : Int32} (hf : f_X6_custodialPart n x a1 = some (k0, rv)) : MetXI G l yX6_custodialPart cX6_custodialPart 2 (some .int) 8 2 12 142 [.ref (ad 0), .int a1] (wX G ad x) (wX G ad x) k0 rv := by
  refine k_ofXI (by decide) (Nat.le_of_ble_eq_true rfl) ?_
  intro p e s m args below meth c ls A F hr hlk hout hl hw hZ
  have hx := F.1
  have hb := F.2.1
  have hl : lv_has ls 2 [(0, .ref (ad 0)), (1, .int a1)] := hl
  unfold f_X6_custodialPart at hf
  refine lv_aload_n hx hb dX6_custodialPart_0 rfl (lv_at hl 0 rfl) ?_
  refine lv_iload_n hx hb dX6_custodialPart_1 rfl (lv_at hl 1 rfl) ?_
  obtain ⟨k1, h2, hk2, hn2⟩ := qxb_e hf
  refine k_xcallVv' (rest := []) (As := [.int a1]) F ws_in (t_X6_checkStandingTerm hlt h2) cv_X6_checkStandingTerm ml_X6_158 hZ hw 0 rfl rfl rfl hl.1 rfl (Nat.le_of_ble_eq_true rfl) ⟨Nat.le_of_ble_eq_true rfl, Nat.le_of_ble_eq_true rfl⟩ ⟨Nat.le_of_ble_eq_true rfl, Nat.le_of_ble_eq_true rfl⟩ dX6_custodialPart_2 (fun hk9 E ce q9 H locs hE hw g1 g2 g3 => ?_) (fun hk9 H locs hw => ?_)
  · cases hn2 hk9
    exact k_xoutI hlk hout hw hk9 hE g1 g2 g3 (Nat.le_of_ble_eq_true rfl) (Nat.le_of_ble_eq_true rfl)
  have hf := hk2 hk9
  refine lv_aload_n hx hb dX6_custodialPart_5 rfl (lv_at hl 0 rfl) ?_
  refine X_g_0_0 F ws_in hw fl_X6_10 dX6_custodialPart_6 ?_
  refine X_g_1_13 F ws_in hw fl_X6_225 dX6_custodialPart_9 ?_
  refine lv_iload_n hx hb dX6_custodialPart_12 rfl (lv_at hl 1 rfl) ?_
  obtain ⟨g3, hf⟩ := qgd_e hf
  refine X_l_23 F hw g3 dX6_custodialPart_13 ?_
  obtain ⟨rfl, rfl⟩ := q_s2 hf
  exact k_xiret F hr hlk hw rfl (Nat.le_of_ble_eq_true rfl) (Nat.le_of_ble_eq_true rfl) dX6_custodialPart_14
def f_X6_credit (n : Nat) (x : SX) (a1 : Int32) : Option (Nat × Int32) := (qxb (f_X6_checkStandingTerm n x a1) ((0 : Int32)) ((qgd (qin a1 10) (some (0, (x.1 24 a1.toNatClampNeg))))))
set_option maxHeartbeats 4000000 in
set_option maxRecDepth 100000 in
theorem t_X6_credit {G : gG} {l : Launch} (hlt : l.stackTraces = false) {ad : Nat → Nat} {n : Nat} {x : SX} {a1 : Int32} {k0 : Nat} {rv : Int32} (hf : f_X6_credit n x a1 = some (k0, rv)) : MetXI G l yX6_credit cX6_credit 2 (some .int) 8 2 12 142 [.ref (ad 0), .int a1] (wX G ad x) (wX G ad x) k0 rv := by
  refine k_ofXI (by decide) (Nat.le_of_ble_eq_true rfl) ?_
  intro p e s m args below meth c ls A F hr hlk hout hl hw hZ
  have hx := F.1
  have hb := F.2.1
  have hl : lv_has ls 2 [(0, .ref (ad 0)), (1, .int a1)] := hl
  unfold f_X6_credit at hf
  refine lv_aload_n hx hb dX6_credit_0 rfl (lv_at hl 0 rfl) ?_
  refine lv_iload_n hx hb dX6_credit_1 rfl (lv_at hl 1 rfl) ?_
  obtain ⟨k1, h2, hk2, hn2⟩ := qxb_e hf
  refine k_xcallVv' (rest := []) (As := [.int a1]) F ws_in (t_X6_checkStandingTerm hlt h2) cv_X6_checkStandingTerm ml_X6_158 hZ hw 0 rfl rfl rfl hl.1 rfl (Nat.le_of_ble_eq_true rfl) ⟨Nat.le_of_ble_eq_true rfl, Nat.le_of_ble_eq_true rfl⟩ ⟨Nat.le_of_ble_eq_true rfl, Nat.le_of_ble_eq_true rfl⟩ dX6_credit_2 (fun hk9 E ce q9 H locs hE hw g1 g2 g3 => ?_) (fun hk9 H locs hw => ?_)
  · cases hn2 hk9
    exact k_xoutI hlk hout hw hk9 hE g1 g2 g3 (Nat.le_of_ble_eq_true rfl) (Nat.le_of_ble_eq_true rfl)
  have hf := hk2 hk9
  refine lv_aload_n hx hb dX6_credit_5 rfl (lv_at hl 0 rfl) ?_
  refine X_g_0_0 F ws_in hw fl_X6_10 dX6_credit_6 ?_
  refine X_g_1_14 F ws_in hw fl_X6_155 dX6_credit_9 ?_
  refine lv_iload_n hx hb dX6_credit_12 rfl (lv_at hl 1 rfl) ?_
  obtain ⟨g3, hf⟩ := qgd_e hf
  refine X_l_24 F hw g3 dX6_credit_13 ?_
  obtain ⟨rfl, rfl⟩ := q_s2 hf
  exact k_xiret F hr hlk hw rfl (Nat.le_of_ble_eq_true rfl) (Nat.le_of_ble_eq_true rfl) dX6_credit_14
def f_X2_sizeWithin_5_l12 (a2 : Int32) (n : Nat) (a1 : Int32) (x : SX) : Nat → Int32 → Int32 → Option (Int32)
  | 0, _, _ => none
  | m + 1, v2, v3 => (if (229 : Int32) ≤ v3 then some v2 else (if (a2 >>> ((6 : Int32) &&& 31)) < v3 then some v2 else (qgd (qin v3 229) ((qbd (f_X2_bitsWithin n v3 a1 a2) fun r8 => (qbd (f_J13_bitCount_95d88 n ((x.2 40 v3.toNatClampNeg) &&& r8)) fun r10 => (qnm (v2 + r10) fun v12 => (qnm (v3 + (1 : Int32)) fun v13 => (f_X2_sizeWithin_5_l12 a2 n a1 x m) v12 v13))))))))
def f_X2_sizeWithin_5 (n : Nat) (x : SX) (a1 : Int32) (a2 : Int32) : Option (Int32) := (qnm ((if a1 < (0 : Int32) then (0 : Int32) else a1) >>> ((6 : Int32) &&& 31)) fun v1 => f_X2_sizeWithin_5_l12 a2 n a1 x n (0 : Int32) v1)
set_option maxHeartbeats 4000000 in
set_option maxRecDepth 100000 in
theorem t_X2_sizeWithin_5 {G : gG} {l : Launch} {ad : Nat → Nat} {n : Nat} {x : SX} {a1 : Int32} {a2 : Int32} {rv : Int32} (hf : f_X2_sizeWithin_5 n x a1 a2 = some rv) : MetI G l yX2_sizeWithin cX2_sizeWithin 5 (some .int) 2 0 0 54 [.ref (ad 5), .int a1, .int a2] (wX G ad x) (wX G ad x) rv := by
  refine k_ofI (by decide) (Nat.le_of_ble_eq_true rfl) ?_
  intro p e s m args below meth c ls A F hr hlk hl hw
  have hx := F.1
  have hb := F.2.1
  have hl : lv_has ls 5 [(0, .ref (ad 5)), (1, .int a1), (2, .int a2)] := hl
  unfold f_X2_sizeWithin_5 at hf
  refine lv_iconst (v := 0) hx hb dX2_sizeWithin_0 (by decide) ?_
  refine lv_istore_n (lv' := [(3, .int (0 : Int32)), (0, .ref (ad 5)), (1, .int a1), (2, .int a2)]) hx hb dX2_sizeWithin_1 rfl hl (Nat.le_of_ble_eq_true rfl) rfl (fun ls hl => ?_)
  refine lv_iload_n hx hb dX2_sizeWithin_2 rfl (lv_at hl 2 rfl) ?_
  refine lv_iconst (v := 0) hx hb dX2_sizeWithin_3 (by decide) ?_
  refine k_mmax F ws_in ml_X2_21 cm_max hl.1 ⟨Nat.le_of_ble_eq_true rfl, Nat.le_of_ble_eq_true rfl, Nat.le_of_ble_eq_true rfl, Nat.le_of_ble_eq_true rfl⟩ dX2_sizeWithin_4 ?_
  refine lv_bipush (v := 6) hx hb dX2_sizeWithin_7 (by decide) ?_
  refine lv_ishr hx hb dX2_sizeWithin_9 ?_
  refine lv_topi (fun v1 ev1 => ?_)
  have hf := qnm_k ev1 hf
  refine lv_istore (lv' := [(4, .int v1), (3, .int (0 : Int32)), (0, .ref (ad 5)), (1, .int a1), (2, .int a2)]) hx hb dX2_sizeWithin_10 hl (Nat.le_of_ble_eq_true rfl) rfl (fun ls hl => ?_)
  have L4 : ∀ (m0 : Nat) (v2 : Int32) (v3 : Int32) (H : Heap) (locs : List Loc) (ls : Array Slot), Wd G (wX G ad x) A s H locs → lv_has ls 5 [(0, .ref (ad 5)), (1, .int a1), (2, .int a2), (3, .int v2), (4, .int v3)] → f_X2_sizeWithin_5_l12 a2 n a1 x m0 v2 v3 = some rv → W p l e (rmk 2 0 0 54) s m args below meth c H locs 0 0 (KQI G below args s A (wX G ad x) rv 0 0) (F0 m 12 ls []) := by
    intro m0
    induction m0 with
    | zero => intro v2 v3 H locs ls hw hl hf; cases hf
    | succ mL4 ih4 =>
      intro v2 v3 H locs ls hw hl hf
      unfold f_X2_sizeWithin_5_l12 at hf
      refine lv_iload hx hb dX2_sizeWithin_12 (lv_at hl 4 rfl) ?_
      refine lv_sipush (v := 229) hx hb dX2_sizeWithin_14 (by decide) ?_
      refine lv_icmp_ge (tgt := 56) hx hb dX2_sizeWithin_17 rfl (fun c5 => ?_) (fun c5 => ?_)
      · have hf := q_t c5 hf
        refine lv_iload_n hx hb dX2_sizeWithin_56 rfl (lv_at hl 3 rfl) ?_
        obtain rfl := q_s hf
        exact k_iret F hr hlk hw (Nat.le_of_ble_eq_true rfl) (Nat.le_of_ble_eq_true rfl) dX2_sizeWithin_57
      · have hf := q_f c5 hf
        refine lv_iload hx hb dX2_sizeWithin_20 (lv_at hl 4 rfl) ?_
        refine lv_iload_n hx hb dX2_sizeWithin_22 rfl (lv_at hl 2 rfl) ?_
        refine lv_bipush (v := 6) hx hb dX2_sizeWithin_23 (by decide) ?_
        refine lv_ishr hx hb dX2_sizeWithin_25 ?_
        refine lv_icmp_gt (tgt := 56) hx hb dX2_sizeWithin_26 rfl (fun c6 => ?_) (fun c6 => ?_)
        · have hf := q_t c6 hf
          refine lv_iload_n hx hb dX2_sizeWithin_56 rfl (lv_at hl 3 rfl) ?_
          obtain rfl := q_s hf
          exact k_iret F hr hlk hw (Nat.le_of_ble_eq_true rfl) (Nat.le_of_ble_eq_true rfl) dX2_sizeWithin_57
        · have hf := q_f c6 hf
          refine lv_iload_n hx hb dX2_sizeWithin_29 rfl (lv_at hl 3 rfl) ?_
          refine lv_aload_n hx hb dX2_sizeWithin_30 rfl (lv_at hl 0 rfl) ?_
          refine X_g_5_0 F ws_in hw fl_X2_11 dX2_sizeWithin_31 ?_
          refine lv_iload hx hb dX2_sizeWithin_34 (lv_at hl 4 rfl) ?_
          obtain ⟨g7, hf⟩ := qgd_e hf
          refine X_l_40 F hw g7 dX2_sizeWithin_36 ?_
          refine lv_iload hx hb dX2_sizeWithin_37 (lv_at hl 4 rfl) ?_
          refine lv_iload_n hx hb dX2_sizeWithin_39 rfl (lv_at hl 1 rfl) ?_
          refine lv_iload_n hx hb dX2_sizeWithin_40 rfl (lv_at hl 2 rfl) ?_
          obtain ⟨r8, h9, hf⟩ := qbd_e hf
          refine k_callPj (rest := [.long (x.2 40 v3.toNatClampNeg), .int v2]) (As := [.int v3, .int a1, .int a2]) F ws_in (t_X2_bitsWithin h9) cs_X2_bitsWithin ml_X2_27 hw rfl hl.1 rfl (Nat.le_of_ble_eq_true rfl) ⟨Nat.le_of_ble_eq_true rfl, Nat.le_of_ble_eq_true rfl⟩ ⟨Nat.le_of_ble_eq_true rfl, Nat.le_of_ble_eq_true rfl⟩ dX2_sizeWithin_41 (fun H locs hw => ?_)
          refine lv_land hx hb dX2_sizeWithin_44 ?_
          obtain ⟨r10, h11, hf⟩ := qbd_e hf
          refine k_callPi (rest := [.int v2]) (As := [.long ((x.2 40 v3.toNatClampNeg) &&& r8)]) F ws_in (t_J13_bitCount_95d88 h11) cs_J13_bitCount_95d88 ml_X2_31 hw rfl hl.1 rfl (Nat.le_of_ble_eq_true rfl) ⟨Nat.le_of_ble_eq_true rfl, Nat.le_of_ble_eq_true rfl⟩ ⟨Nat.le_of_ble_eq_true rfl, Nat.le_of_ble_eq_true rfl⟩ dX2_sizeWithin_45 (fun H locs hw => ?_)
          refine lv_iadd hx hb dX2_sizeWithin_48 ?_
          refine lv_topi (fun v12 ev12 => ?_)
          have hf := qnm_k ev12 hf
          refine lv_istore_n (lv' := [(3, .int v12), (0, .ref (ad 5)), (1, .int a1), (2, .int a2), (4, .int v3)]) hx hb dX2_sizeWithin_49 rfl hl (Nat.le_of_ble_eq_true rfl) rfl (fun ls hl => ?_)
          obtain ⟨v13, ev13⟩ : ∃ y : Int32, y = v3 + (1 : Int32) := ⟨_, rfl⟩
          refine lv_iinc (v := v13) (lv' := [(4, .int v13), (3, .int v12), (0, .ref (ad 5)), (1, .int a1), (2, .int a2)]) hx hb dX2_sizeWithin_50 hl (k := 4) rfl (by rw [ev13]; rfl) (Nat.le_of_ble_eq_true rfl) rfl (fun ls hl => ?_)
          have hf := qnm_k ev13 hf
          refine lv_goto (tgt := 12) hx hb dX2_sizeWithin_53 rfl ?_
          exact ih4 v12 v13 _ _ _ hw (lv_sub hl [2, 3, 4, 1, 0] rfl) hf
  exact L4 n (0 : Int32) v1 _ _ _ hw (lv_sub hl [2, 3, 4, 1, 0] rfl) hf
def f_X6_unservedDays (n : Nat) (x : SX) (a1 : Int32) (a2 : Int32) : Option (Int32) := (qbd (f_X2_sizeWithin_5 n x a1 a2) fun r1 => some (((a2 - a1) + (1 : Int32)) - r1))
set_option maxHeartbeats 4000000 in
set_option maxRecDepth 100000 in
theorem t_X6_unservedDays {G : gG} {l : Launch} {ad : Nat → Nat} {n : Nat} {x : SX} {a1 : Int32} {a2 : Int32} {rv : Int32} (hf : f_X6_unservedDays n x a1 a2 = some rv) : MetI G l yX6_unservedDays cX6_unservedDays 3 (some .int) 3 0 0 78 [.ref (ad 0), .int a1, .int a2] (wX G ad x) (wX G ad x) rv := by
  refine k_ofI (by decide) (Nat.le_of_ble_eq_true rfl) ?_
  intro p e s m args below meth c ls A F hr hlk hl hw
  have hx := F.1
  have hb := F.2.1
  have hl : lv_has ls 3 [(0, .ref (ad 0)), (1, .int a1), (2, .int a2)] := hl
  unfold f_X6_unservedDays at hf
  refine lv_iload_n hx hb dX6_unservedDays_0 rfl (lv_at hl 2 rfl) ?_
  refine lv_iload_n hx hb dX6_unservedDays_1 rfl (lv_at hl 1 rfl) ?_
  refine lv_isub hx hb dX6_unservedDays_2 ?_
  refine lv_iconst (v := 1) hx hb dX6_unservedDays_3 (by decide) ?_
  refine lv_iadd hx hb dX6_unservedDays_4 ?_
  refine lv_aload_n hx hb dX6_unservedDays_5 rfl (lv_at hl 0 rfl) ?_
  refine X_g_0_4 F ws_in hw fl_X6_40 dX6_unservedDays_6 ?_
  refine lv_iload_n hx hb dX6_unservedDays_9 rfl (lv_at hl 1 rfl) ?_
  refine lv_iload_n hx hb dX6_unservedDays_10 rfl (lv_at hl 2 rfl) ?_
  obtain ⟨r1, h2, hf⟩ := qbd_e hf
  refine k_callVi' (rest := [.int ((a2 - a1) + (1 : Int32))]) (As := [.int a1, .int a2]) F ws_in (t_X2_sizeWithin_5 h2) cv_X2_sizeWithin ml_X6_334 hw 5 rfl rfl rfl hl.1 rfl (Nat.le_of_ble_eq_true rfl) ⟨Nat.le_of_ble_eq_true rfl, Nat.le_of_ble_eq_true rfl⟩ ⟨Nat.le_of_ble_eq_true rfl, Nat.le_of_ble_eq_true rfl⟩ dX6_unservedDays_11 (fun H locs hw => ?_)
  refine lv_isub hx hb dX6_unservedDays_14 ?_
  obtain rfl := q_s hf
  exact k_iret F hr hlk hw (Nat.le_of_ble_eq_true rfl) (Nat.le_of_ble_eq_true rfl) dX6_unservedDays_15
def f_X6_mergedCredit_e110 (n : Nat) (x3 : SX) (a1 : Int32) (v5 : Int32) (v6 : Int32) (v7 : Int32) : Option (Int32 × SX) := (qbd (f_X6_unservedDays n x3 v6 v7) fun r8 => (qnm (v5 + r8) fun v10 => (qgd (qin a1 10) (some ((if (x3.1 22 a1.toNatClampNeg) < v10 then (x3.1 22 a1.toNatClampNeg) else v10), x3)))))
def f_X6_mergedCredit_l28 (r2 : Int32) (n : Nat) (x3 : SX) (a1 : Int32) : Nat → Int32 → Int32 → Int32 → Int32 → Option (Int32 × SX)
  | 0, _, _, _, _ => none
  | m + 1, v13, v14, v15, v16 => (if r2 ≤ v16 then f_X6_mergedCredit_e110 n x3 a1 v13 v14 v15 else (qgd (qin v16 8) ((qbd3 (if (x3.1 33 v16.toNatClampNeg) ≤ v15 then (qnm (if v15 < (x3.1 34 v16.toNatClampNeg) then (x3.1 34 v16.toNatClampNeg) else v15) fun v26 => some (v13, v14, v26)) else (qbd (f_X6_unservedDays n x3 v14 v15) fun r27 => (qnm (v13 + r27) fun v29 => (qnm (x3.1 33 v16.toNatClampNeg) fun v30 => (qnm (x3.1 34 v16.toNatClampNeg) fun v31 => some (v29, v30, v31)))))) fun v20 v21 v22 => (qnm (v16 + (1 : Int32)) fun v24 => (f_X6_mergedCredit_l28 r2 n x3 a1 m) v20 v21 v22 v24)))))
def f_X6_mergedCredit (n : Nat) (x : SX) (a1 : Int32) : Option (Int32 × SX) := (qgd (qin a1 10) ((qbd2 (f_X4_sort n x (x.1 18 a1.toNatClampNeg)) fun r2 x3 => f_X6_mergedCredit_l28 r2 n x3 a1 n (0 : Int32) (0 : Int32) (-1 : Int32) (0 : Int32))))
set_option maxHeartbeats 4000000 in
set_option maxRecDepth 100000 in
theorem t_X6_mergedCredit {G : gG} {l : Launch} {ad : Nat → Nat} {n : Nat} {x : SX} {a1 : Int32} {rv : Int32} {xr : SX} (hf : f_X6_mergedCredit n x a1 = some (rv, xr)) : MetI G l yX6_mergedCredit cX6_mergedCredit 7 (some .int) 4 0 0 100 [.ref (ad 0), .int a1] (wX G ad x) (wX G ad xr) rv := by
  refine k_ofI (by decide) (Nat.le_of_ble_eq_true rfl) ?_
  intro p e s m args below meth c ls A F hr hlk hl hw
  have hx := F.1
  have hb := F.2.1
  have hl : lv_has ls 7 [(0, .ref (ad 0)), (1, .int a1)] := hl
  unfold f_X6_mergedCredit at hf
  refine lv_aload_n hx hb dX6_mergedCredit_0 rfl (lv_at hl 0 rfl) ?_
  refine X_g_0_1 F ws_in hw fl_X6_19 dX6_mergedCredit_1 ?_
  refine lv_aload_n hx hb dX6_mergedCredit_4 rfl (lv_at hl 0 rfl) ?_
  refine X_g_0_0 F ws_in hw fl_X6_10 dX6_mergedCredit_5 ?_
  refine X_g_1_8 F ws_in hw fl_X6_208 dX6_mergedCredit_8 ?_
  refine lv_iload_n hx hb dX6_mergedCredit_11 rfl (lv_at hl 1 rfl) ?_
  obtain ⟨g1, hf⟩ := qgd_e hf
  refine X_l_18 F hw g1 dX6_mergedCredit_12 ?_
  obtain ⟨r2, x3, h4, hf⟩ := qbd2_e hf
  refine k_callVi' (rest := []) (As := [.int (x.1 18 a1.toNatClampNeg)]) F ws_in (t_X4_sort h4) cv_X4_sort ml_X6_322 hw 2 rfl rfl rfl hl.1 rfl (Nat.le_of_ble_eq_true rfl) ⟨Nat.le_of_ble_eq_true rfl, Nat.le_of_ble_eq_true rfl⟩ ⟨Nat.le_of_ble_eq_true rfl, Nat.le_of_ble_eq_true rfl⟩ dX6_mergedCredit_13 (fun H locs hw => ?_)
  refine lv_istore_n (lv' := [(2, .int r2), (0, .ref (ad 0)), (1, .int a1)]) hx hb dX6_mergedCredit_16 rfl hl (Nat.le_of_ble_eq_true rfl) rfl (fun ls hl => ?_)
  refine lv_iconst (v := 0) hx hb dX6_mergedCredit_17 (by decide) ?_
  refine lv_istore_n (lv' := [(3, .int (0 : Int32)), (2, .int r2), (0, .ref (ad 0)), (1, .int a1)]) hx hb dX6_mergedCredit_18 rfl hl (Nat.le_of_ble_eq_true rfl) rfl (fun ls hl => ?_)
  refine lv_iconst (v := 0) hx hb dX6_mergedCredit_19 (by decide) ?_
  refine lv_istore (lv' := [(4, .int (0 : Int32)), (3, .int (0 : Int32)), (2, .int r2), (0, .ref (ad 0)), (1, .int a1)]) hx hb dX6_mergedCredit_20 hl (Nat.le_of_ble_eq_true rfl) rfl (fun ls hl => ?_)
  refine lv_iconst (v := -1) hx hb dX6_mergedCredit_22 (by decide) ?_
  refine lv_istore (lv' := [(5, .int (-1 : Int32)), (4, .int (0 : Int32)), (3, .int (0 : Int32)), (2, .int r2), (0, .ref (ad 0)), (1, .int a1)]) hx hb dX6_mergedCredit_23 hl (Nat.le_of_ble_eq_true rfl) rfl (fun ls hl => ?_)
  refine lv_iconst (v := 0) hx hb dX6_mergedCredit_25 (by decide) ?_
  refine lv_istore (lv' := [(6, .int (0 : Int32)), (5, .int (-1 : Int32)), (4, .int (0 : Int32)), (3, .int (0 : Int32)), (2, .int r2), (0, .ref (ad 0)), (1, .int a1)]) hx hb dX6_mergedCredit_26 hl (Nat.le_of_ble_eq_true rfl) rfl (fun ls hl => ?_)
  have E12 : ∀ (v5 : Int32) (v6 : Int32) (v7 : Int32) (H : Heap) (locs : List Loc) (ls : Array Slot), Wd G (wX G ad x3) A s H locs → lv_has ls 7 [(0, .ref (ad 0)), (1, .int a1), (3, .int v5), (4, .int v6), (5, .int v7)] → f_X6_mergedCredit_e110 n x3 a1 v5 v6 v7 = some (rv, xr) → W p l e (rmk 4 0 0 100) s m args below meth c H locs 0 0 (KQI G below args s A (wX G ad xr) rv 0 0) (F0 m 110 ls []) := by
    intro v5 v6 v7 H locs ls hw hl hf
    unfold f_X6_mergedCredit_e110 at hf
    refine lv_iload_n hx hb dX6_mergedCredit_110 rfl (lv_at hl 2 rfl) ?_
    refine lv_aload_n hx hb dX6_mergedCredit_111 rfl (lv_at hl 0 rfl) ?_
    refine lv_iload hx hb dX6_mergedCredit_112 (lv_at hl 3 rfl) ?_
    refine lv_iload hx hb dX6_mergedCredit_114 (lv_at hl 4 rfl) ?_
    obtain ⟨r8, h9, hf⟩ := qbd_e hf
    refine k_callVi' (rest := [.int v5]) (As := [.int v6, .int v7]) F ws_in (t_X6_unservedDays h9) cv_X6_unservedDays ml_X6_328 hw 0 rfl rfl rfl hl.1 rfl (Nat.le_of_ble_eq_true rfl) ⟨Nat.le_of_ble_eq_true rfl, Nat.le_of_ble_eq_true rfl⟩ ⟨Nat.le_of_ble_eq_true rfl, Nat.le_of_ble_eq_true rfl⟩ dX6_mergedCredit_116 (fun H locs hw => ?_)
    refine lv_iadd hx hb dX6_mergedCredit_119 ?_
    refine lv_topi (fun v10 ev10 => ?_)
    have hf := qnm_k ev10 hf
    refine lv_istore_n (lv' := [(3, .int v10), (0, .ref (ad 0)), (1, .int a1), (4, .int v6), (5, .int v7)]) hx hb dX6_mergedCredit_120 rfl hl (Nat.le_of_ble_eq_true rfl) rfl (fun ls hl => ?_)
    refine lv_iload_n hx hb dX6_mergedCredit_121 rfl (lv_at hl 0 rfl) ?_
    refine lv_aload_n hx hb dX6_mergedCredit_122 rfl (lv_at hl 1 rfl) ?_
    refine X_g_0_0 F ws_in hw fl_X6_10 dX6_mergedCredit_123 ?_
    refine X_g_1_12 F ws_in hw fl_X6_222 dX6_mergedCredit_126 ?_
    refine lv_iload_n hx hb dX6_mergedCredit_129 rfl (lv_at hl 2 rfl) ?_
    obtain ⟨g11, hf⟩ := qgd_e hf
    refine X_l_22 F hw g11 dX6_mergedCredit_130 ?_
    refine k_mmin F ws_in ml_X6_293 cm_min hl.1 ⟨Nat.le_of_ble_eq_true rfl, Nat.le_of_ble_eq_true rfl, Nat.le_of_ble_eq_true rfl, Nat.le_of_ble_eq_true rfl⟩ dX6_mergedCredit_131 ?_
    obtain ⟨rfl, rfl⟩ := q_s2 hf
    exact k_iret F hr hlk hw (Nat.le_of_ble_eq_true rfl) (Nat.le_of_ble_eq_true rfl) dX6_mergedCredit_134
  have L17 : ∀ (m0 : Nat) (v13 : Int32) (v14 : Int32) (v15 : Int32) (v16 : Int32) (H : Heap) (locs : List Loc) (ls : Array Slot), Wd G (wX G ad x3) A s H locs → lv_has ls 7 [(0, .ref (ad 0)), (1, .int a1), (2, .int r2), (3, .int v13), (4, .int v14), (5, .int v15), (6, .int v16)] → f_X6_mergedCredit_l28 r2 n x3 a1 m0 v13 v14 v15 v16 = some (rv, xr) → W p l e (rmk 4 0 0 100) s m args below meth c H locs 0 0 (KQI G below args s A (wX G ad xr) rv 0 0) (F0 m 28 ls []) := by
    intro m0
    induction m0 with
    | zero => intro v13 v14 v15 v16 H locs ls hw hl hf; cases hf
    | succ mL17 ih17 =>
      intro v13 v14 v15 v16 H locs ls hw hl hf
      unfold f_X6_mergedCredit_l28 at hf
      refine lv_iload hx hb dX6_mergedCredit_28 (lv_at hl 6 rfl) ?_
      refine lv_iload_n hx hb dX6_mergedCredit_30 rfl (lv_at hl 2 rfl) ?_
      refine lv_icmp_ge (tgt := 110) hx hb dX6_mergedCredit_31 rfl (fun c18 => ?_) (fun c18 => ?_)
      · have hf := q_t c18 hf
        exact E12 v13 v14 v15 _ _ _ hw (lv_sub hl [0, 1, 3, 4, 5] rfl) hf
      · have hf := q_f c18 hf
        refine lv_aload_n hx hb dX6_mergedCredit_34 rfl (lv_at hl 0 rfl) ?_
        refine X_g_0_1 F ws_in hw fl_X6_19 dX6_mergedCredit_35 ?_
        refine X_g_2_3 F ws_in hw fl_X6_325 dX6_mergedCredit_38 ?_
        refine lv_iload hx hb dX6_mergedCredit_41 (lv_at hl 6 rfl) ?_
        obtain ⟨g19, hf⟩ := qgd_e hf
        refine X_l_33 F hw g19 dX6_mergedCredit_43 ?_
        refine lv_iload hx hb dX6_mergedCredit_44 (lv_at hl 5 rfl) ?_
        obtain ⟨v20, v21, v22, hq32, hf⟩ := qbd3_e hf
        have J23 : ∀ (H : Heap) (locs : List Loc) (ls : Array Slot), Wd G (wX G ad x3) A s H locs → lv_has ls 7 [(0, .ref (ad 0)), (1, .int a1), (2, .int r2), (3, .int v20), (4, .int v21), (5, .int v22), (6, .int v16)] → W p l e (rmk 4 0 0 100) s m args below meth c H locs 0 0 (KQI G below args s A (wX G ad xr) rv 0 0) (F0 m 104 ls []) := by
          intro H locs ls hw hl
          obtain ⟨v24, ev24⟩ : ∃ y : Int32, y = v16 + (1 : Int32) := ⟨_, rfl⟩
          refine lv_iinc (v := v24) (lv' := [(6, .int v24), (0, .ref (ad 0)), (1, .int a1), (2, .int r2), (3, .int v20), (4, .int v21), (5, .int v22)]) hx hb dX6_mergedCredit_104 hl (k := 6) rfl (by rw [ev24]; rfl) (Nat.le_of_ble_eq_true rfl) rfl (fun ls hl => ?_)
          have hf := qnm_k ev24 hf
          refine lv_goto (tgt := 28) hx hb dX6_mergedCredit_107 rfl ?_
          exact ih17 v20 v21 v22 v24 _ _ _ hw (lv_sub hl [1, 2, 3, 4, 5, 6, 0] rfl) hf
        have hf := hq32
        refine lv_icmp_le (tgt := 87) hx hb dX6_mergedCredit_46 rfl (fun c25 => ?_) (fun c25 => ?_)
        · have hf := q_t c25 hf
          refine lv_iload hx hb dX6_mergedCredit_87 (lv_at hl 5 rfl) ?_
          refine lv_aload_n hx hb dX6_mergedCredit_89 rfl (lv_at hl 0 rfl) ?_
          refine X_g_0_1 F ws_in hw fl_X6_19 dX6_mergedCredit_90 ?_
          refine X_g_2_4 F ws_in hw fl_X6_331 dX6_mergedCredit_93 ?_
          refine lv_iload hx hb dX6_mergedCredit_96 (lv_at hl 6 rfl) ?_
          refine X_l_34 F hw g19 dX6_mergedCredit_98 ?_
          refine k_mmax F ws_in ml_X6_252 cm_max hl.1 ⟨Nat.le_of_ble_eq_true rfl, Nat.le_of_ble_eq_true rfl, Nat.le_of_ble_eq_true rfl, Nat.le_of_ble_eq_true rfl⟩ dX6_mergedCredit_99 ?_
          refine lv_topi (fun v26 ev26 => ?_)
          have hf := qnm_k ev26 hf
          refine lv_istore (lv' := [(5, .int v26), (0, .ref (ad 0)), (1, .int a1), (2, .int r2), (3, .int v13), (4, .int v14), (6, .int v16)]) hx hb dX6_mergedCredit_102 hl (Nat.le_of_ble_eq_true rfl) rfl (fun ls hl => ?_)
          obtain ⟨rfl, rfl, rfl⟩ := q_s3 hf
          exact J23 _ _ _ hw (lv_sub hl [1, 2, 3, 4, 5, 0, 6] rfl)
        · have hf := q_f c25 hf
          refine lv_iload_n hx hb dX6_mergedCredit_49 rfl (lv_at hl 3 rfl) ?_
          refine lv_aload_n hx hb dX6_mergedCredit_50 rfl (lv_at hl 0 rfl) ?_
          refine lv_iload hx hb dX6_mergedCredit_51 (lv_at hl 4 rfl) ?_
          refine lv_iload hx hb dX6_mergedCredit_53 (lv_at hl 5 rfl) ?_
          obtain ⟨r27, h28, hf⟩ := qbd_e hf
          refine k_callVi' (rest := [.int v13]) (As := [.int v14, .int v15]) F ws_in (t_X6_unservedDays h28) cv_X6_unservedDays ml_X6_328 hw 0 rfl rfl rfl hl.1 rfl (Nat.le_of_ble_eq_true rfl) ⟨Nat.le_of_ble_eq_true rfl, Nat.le_of_ble_eq_true rfl⟩ ⟨Nat.le_of_ble_eq_true rfl, Nat.le_of_ble_eq_true rfl⟩ dX6_mergedCredit_55 (fun H locs hw => ?_)
          refine lv_iadd hx hb dX6_mergedCredit_58 ?_
          refine lv_topi (fun v29 ev29 => ?_)
          have hf := qnm_k ev29 hf
          refine lv_istore_n (lv' := [(3, .int v29), (0, .ref (ad 0)), (1, .int a1), (2, .int r2), (4, .int v14), (5, .int v15), (6, .int v16)]) hx hb dX6_mergedCredit_59 rfl hl (Nat.le_of_ble_eq_true rfl) rfl (fun ls hl => ?_)
          refine lv_aload_n hx hb dX6_mergedCredit_60 rfl (lv_at hl 1 rfl) ?_
          refine X_g_0_1 F ws_in hw fl_X6_19 dX6_mergedCredit_61 ?_
          refine X_g_2_3 F ws_in hw fl_X6_325 dX6_mergedCredit_64 ?_
          refine lv_iload hx hb dX6_mergedCredit_67 (lv_at hl 6 rfl) ?_
          refine X_l_33 F hw g19 dX6_mergedCredit_69 ?_
          refine lv_topi (fun v30 ev30 => ?_)
          have hf := qnm_k ev30 hf
          refine lv_istore (lv' := [(4, .int v30), (3, .int v29), (0, .ref (ad 0)), (1, .int a1), (2, .int r2), (5, .int v15), (6, .int v16)]) hx hb dX6_mergedCredit_70 hl (Nat.le_of_ble_eq_true rfl) rfl (fun ls hl => ?_)
          refine lv_aload_n hx hb dX6_mergedCredit_72 rfl (lv_at hl 2 rfl) ?_
          refine X_g_0_1 F ws_in hw fl_X6_19 dX6_mergedCredit_73 ?_
          refine X_g_2_4 F ws_in hw fl_X6_331 dX6_mergedCredit_76 ?_
          refine lv_iload hx hb dX6_mergedCredit_79 (lv_at hl 6 rfl) ?_
          refine X_l_34 F hw g19 dX6_mergedCredit_81 ?_
          refine lv_topi (fun v31 ev31 => ?_)
          have hf := qnm_k ev31 hf
          refine lv_istore (lv' := [(5, .int v31), (4, .int v30), (3, .int v29), (0, .ref (ad 0)), (1, .int a1), (2, .int r2), (6, .int v16)]) hx hb dX6_mergedCredit_82 hl (Nat.le_of_ble_eq_true rfl) rfl (fun ls hl => ?_)
          refine lv_goto (tgt := 104) hx hb dX6_mergedCredit_84 rfl ?_
          obtain ⟨rfl, rfl, rfl⟩ := q_s3 hf
          exact J23 _ _ _ hw (lv_sub hl [3, 4, 5, 2, 1, 0, 6] rfl)
  exact L17 n (0 : Int32) (0 : Int32) (-1 : Int32) (0 : Int32) _ _ _ hw (lv_sub hl [5, 6, 4, 3, 2, 1, 0] rfl) hf
def f_X6_creditByMerging (n : Nat) (x : SX) (a1 : Int32) : Option (Nat × Int32 × SX) := (qxb (f_X6_checkStandingTerm n x a1) ((0 : Int32), x) ((qbd2 (f_X6_mergedCredit n x a1) fun r3 x4 => some (0, r3, x4))))
set_option maxHeartbeats 4000000 in
set_option maxRecDepth 100000 in
theorem t_X6_creditByMerging {G : gG} {l : Launch} (hlt : l.stackTraces = false) {ad : Nat → Nat} {n : Nat} {x : SX} {a1 : Int32} {k0 : Nat} {rv : Int32} {xr : SX} (hf : f_X6_creditByMerging n x a1 = some (k0, rv, xr)) : MetXI G l yX6_creditByMerging cX6_creditByMerging 2 (some .int) 8 2 12 142 [.ref (ad 0), .int a1] (wX G ad x) (wX G ad xr) k0 rv := by
  refine k_ofXI (by decide) (Nat.le_of_ble_eq_true rfl) ?_
  intro p e s m args below meth c ls A F hr hlk hout hl hw hZ
  have hx := F.1
  have hb := F.2.1
  have hl : lv_has ls 2 [(0, .ref (ad 0)), (1, .int a1)] := hl
  unfold f_X6_creditByMerging at hf
  refine lv_aload_n hx hb dX6_creditByMerging_0 rfl (lv_at hl 0 rfl) ?_
  refine lv_iload_n hx hb dX6_creditByMerging_1 rfl (lv_at hl 1 rfl) ?_
  obtain ⟨k1, h2, hk2, hn2⟩ := qxb_e hf
  refine k_xcallVv' (rest := []) (As := [.int a1]) F ws_in (t_X6_checkStandingTerm hlt h2) cv_X6_checkStandingTerm ml_X6_158 hZ hw 0 rfl rfl rfl hl.1 rfl (Nat.le_of_ble_eq_true rfl) ⟨Nat.le_of_ble_eq_true rfl, Nat.le_of_ble_eq_true rfl⟩ ⟨Nat.le_of_ble_eq_true rfl, Nat.le_of_ble_eq_true rfl⟩ dX6_creditByMerging_2 (fun hk9 E ce q9 H locs hE hw g1 g2 g3 => ?_) (fun hk9 H locs hw => ?_)
  · cases hn2 hk9
    exact k_xoutI hlk hout hw hk9 hE g1 g2 g3 (Nat.le_of_ble_eq_true rfl) (Nat.le_of_ble_eq_true rfl)
  have hf := hk2 hk9
  refine lv_aload_n hx hb dX6_creditByMerging_5 rfl (lv_at hl 0 rfl) ?_
  refine lv_iload_n hx hb dX6_creditByMerging_6 rfl (lv_at hl 1 rfl) ?_
  obtain ⟨r3, x4, h5, hf⟩ := qbd2_e hf
  refine k_callVi' (rest := []) (As := [.int a1]) F ws_in (t_X6_mergedCredit h5) cv_X6_mergedCredit ml_X6_228 hw 0 rfl rfl rfl hl.1 rfl (Nat.le_of_ble_eq_true rfl) ⟨Nat.le_of_ble_eq_true rfl, Nat.le_of_ble_eq_true rfl⟩ ⟨Nat.le_of_ble_eq_true rfl, Nat.le_of_ble_eq_true rfl⟩ dX6_creditByMerging_7 (fun H locs hw => ?_)
  obtain ⟨rfl, rfl, rfl⟩ := q_s3 hf
  exact k_xiret F hr hlk hw rfl (Nat.le_of_ble_eq_true rfl) (Nat.le_of_ble_eq_true rfl) dX6_creditByMerging_10
def f_X6_addedDays (n : Nat) (x : SX) (a1 : Int32) : Option (Nat × Int32) := (qxb (f_X6_checkStandingTerm n x a1) ((0 : Int32)) ((qgd (qin a1 10) ((qbd (f_X0_daysForChain n x (x.1 18 a1.toNatClampNeg)) fun r4 => some (0, r4))))))
set_option maxHeartbeats 4000000 in
set_option maxRecDepth 100000 in
theorem t_X6_addedDays {G : gG} {l : Launch} (hlt : l.stackTraces = false) {ad : Nat → Nat} {n : Nat} {x : SX} {a1 : Int32} {k0 : Nat} {rv : Int32} (hf : f_X6_addedDays n x a1 = some (k0, rv)) : MetXI G l yX6_addedDays cX6_addedDays 2 (some .int) 8 2 12 142 [.ref (ad 0), .int a1] (wX G ad x) (wX G ad x) k0 rv := by
  refine k_ofXI (by decide) (Nat.le_of_ble_eq_true rfl) ?_
  intro p e s m args below meth c ls A F hr hlk hout hl hw hZ
  have hx := F.1
  have hb := F.2.1
  have hl : lv_has ls 2 [(0, .ref (ad 0)), (1, .int a1)] := hl
  unfold f_X6_addedDays at hf
  refine lv_aload_n hx hb dX6_addedDays_0 rfl (lv_at hl 0 rfl) ?_
  refine lv_iload_n hx hb dX6_addedDays_1 rfl (lv_at hl 1 rfl) ?_
  obtain ⟨k1, h2, hk2, hn2⟩ := qxb_e hf
  refine k_xcallVv' (rest := []) (As := [.int a1]) F ws_in (t_X6_checkStandingTerm hlt h2) cv_X6_checkStandingTerm ml_X6_158 hZ hw 0 rfl rfl rfl hl.1 rfl (Nat.le_of_ble_eq_true rfl) ⟨Nat.le_of_ble_eq_true rfl, Nat.le_of_ble_eq_true rfl⟩ ⟨Nat.le_of_ble_eq_true rfl, Nat.le_of_ble_eq_true rfl⟩ dX6_addedDays_2 (fun hk9 E ce q9 H locs hE hw g1 g2 g3 => ?_) (fun hk9 H locs hw => ?_)
  · cases hn2 hk9
    exact k_xoutI hlk hout hw hk9 hE g1 g2 g3 (Nat.le_of_ble_eq_true rfl) (Nat.le_of_ble_eq_true rfl)
  have hf := hk2 hk9
  refine lv_aload_n hx hb dX6_addedDays_5 rfl (lv_at hl 0 rfl) ?_
  refine X_g_0_2 F ws_in hw fl_X6_26 dX6_addedDays_6 ?_
  refine lv_aload_n hx hb dX6_addedDays_9 rfl (lv_at hl 0 rfl) ?_
  refine X_g_0_0 F ws_in hw fl_X6_10 dX6_addedDays_10 ?_
  refine X_g_1_8 F ws_in hw fl_X6_208 dX6_addedDays_13 ?_
  refine lv_iload_n hx hb dX6_addedDays_16 rfl (lv_at hl 1 rfl) ?_
  obtain ⟨g3, hf⟩ := qgd_e hf
  refine X_l_18 F hw g3 dX6_addedDays_17 ?_
  obtain ⟨r4, h5, hf⟩ := qbd_e hf
  refine k_callVi' (rest := []) (As := [.int (x.1 18 a1.toNatClampNeg)]) F ws_in (t_X0_daysForChain h5) cv_X0_daysForChain ml_X6_231 hw 3 rfl rfl rfl hl.1 rfl (Nat.le_of_ble_eq_true rfl) ⟨Nat.le_of_ble_eq_true rfl, Nat.le_of_ble_eq_true rfl⟩ ⟨Nat.le_of_ble_eq_true rfl, Nat.le_of_ble_eq_true rfl⟩ dX6_addedDays_18 (fun H locs hw => ?_)
  obtain ⟨rfl, rfl⟩ := q_s2 hf
  exact k_xiret F hr hlk hw rfl (Nat.le_of_ble_eq_true rfl) (Nat.le_of_ble_eq_true rfl) dX6_addedDays_21
def f_X6_releaseDay (n : Nat) (x : SX) (a1 : Int32) : Option (Nat × Int32) := (qxb (f_X6_checkStandingTerm n x a1) ((0 : Int32)) ((qbd (f_X6_releaseIn n x a1) fun r3 => some (0, r3))))
set_option maxHeartbeats 4000000 in
set_option maxRecDepth 100000 in
theorem t_X6_releaseDay {G : gG} {l : Launch} (hlt : l.stackTraces = false) {ad : Nat → Nat} {n : Nat} {x : SX} {a1 : Int32} {k0 : Nat} {rv : Int32} (hf : f_X6_releaseDay n x a1 = some (k0, rv)) : MetXI G l yX6_releaseDay cX6_releaseDay 2 (some .int) 8 2 12 142 [.ref (ad 0), .int a1] (wX G ad x) (wX G ad x) k0 rv := by
  refine k_ofXI (by decide) (Nat.le_of_ble_eq_true rfl) ?_
  intro p e s m args below meth c ls A F hr hlk hout hl hw hZ
  have hx := F.1
  have hb := F.2.1
  have hl : lv_has ls 2 [(0, .ref (ad 0)), (1, .int a1)] := hl
  unfold f_X6_releaseDay at hf
  refine lv_aload_n hx hb dX6_releaseDay_0 rfl (lv_at hl 0 rfl) ?_
  refine lv_iload_n hx hb dX6_releaseDay_1 rfl (lv_at hl 1 rfl) ?_
  obtain ⟨k1, h2, hk2, hn2⟩ := qxb_e hf
  refine k_xcallVv' (rest := []) (As := [.int a1]) F ws_in (t_X6_checkStandingTerm hlt h2) cv_X6_checkStandingTerm ml_X6_158 hZ hw 0 rfl rfl rfl hl.1 rfl (Nat.le_of_ble_eq_true rfl) ⟨Nat.le_of_ble_eq_true rfl, Nat.le_of_ble_eq_true rfl⟩ ⟨Nat.le_of_ble_eq_true rfl, Nat.le_of_ble_eq_true rfl⟩ dX6_releaseDay_2 (fun hk9 E ce q9 H locs hE hw g1 g2 g3 => ?_) (fun hk9 H locs hw => ?_)
  · cases hn2 hk9
    exact k_xoutI hlk hout hw hk9 hE g1 g2 g3 (Nat.le_of_ble_eq_true rfl) (Nat.le_of_ble_eq_true rfl)
  have hf := hk2 hk9
  refine lv_aload_n hx hb dX6_releaseDay_5 rfl (lv_at hl 0 rfl) ?_
  refine lv_iload_n hx hb dX6_releaseDay_6 rfl (lv_at hl 1 rfl) ?_
  obtain ⟨r3, h4, hf⟩ := qbd_e hf
  refine k_callVi' (rest := []) (As := [.int a1]) F ws_in (t_X6_releaseIn h4) cv_X6_releaseIn ml_X6_136 hw 0 rfl rfl rfl hl.1 rfl (Nat.le_of_ble_eq_true rfl) ⟨Nat.le_of_ble_eq_true rfl, Nat.le_of_ble_eq_true rfl⟩ ⟨Nat.le_of_ble_eq_true rfl, Nat.le_of_ble_eq_true rfl⟩ dX6_releaseDay_7 (fun H locs hw => ?_)
  obtain ⟨rfl, rfl⟩ := q_s2 hf
  exact k_xiret F hr hlk hw rfl (Nat.le_of_ble_eq_true rfl) (Nat.le_of_ble_eq_true rfl) dX6_releaseDay_10
def f_X6_servedRelease_l110 : Nat → Int32 → Int32 → Option (Int32)
  | 0, _, _ => none
  | m + 1, v13, v14 => (if v14 ≤ 0 then some v13 else (qnm (v13 + (1 : Int32)) fun v17 => (qnm (v14 + (-1 : Int32)) fun v18 => (f_X6_servedRelease_l110 m) v17 v18)))
def f_X6_servedRelease_e96 (a1 : Int32) (x : SX) (n : Nat) (v10 : Int32) : Option (Int32) := (qgd (qin a1 10) ((qnm (x.1 21 a1.toNatClampNeg) fun v12 => f_X6_servedRelease_l110 n v12 v10)))
def f_X6_servedRelease_l75 (a1 : Int32) (x : SX) (n : Nat) : Nat → Int32 → Int32 → Int32 → Option (Int32)
  | 0, _, _, _ => none
  | m + 1, v20, v21, v22 => (if v22 ≤ 0 then f_X6_servedRelease_e96 a1 x n v20 else (qbd2 (if v21 ≤ 0 then some (v20, v21) else (qnm (v21 + (-1 : Int32)) fun v30 => (qnm (v20 + (1 : Int32)) fun v31 => some (v31, v30)))) fun v25 v26 => (qnm (v22 + (-1 : Int32)) fun v28 => (f_X6_servedRelease_l75 a1 x n m) v25 v26 v28)))
def f_X6_servedRelease_e57 (a1 : Int32) (n : Nat) (x : SX) (v5 : Int32) (v6 : Int32) : Option (Int32) := (qgd (qin a1 10) ((qbd (f_X0_daysForChain n x (x.1 18 a1.toNatClampNeg)) fun r8 => f_X6_servedRelease_l75 a1 x n n v5 v6 r8)))
def f_X6_servedRelease_l33 (a1 : Int32) (n : Nat) (x : SX) : Nat → Int32 → Int32 → Int32 → Option (Int32)
  | 0, _, _, _ => none
  | m + 1, v34, v35, v36 => (if v36 ≤ 0 then f_X6_servedRelease_e57 a1 n x v34 v35 else (qbd2 (if v34 ≤ 0 then (qnm (v35 + (-1 : Int32)) fun v44 => some (v34, v44)) else (qnm (v34 + (-1 : Int32)) fun v45 => some (v45, v35))) fun v39 v40 => (qnm (v36 + (-1 : Int32)) fun v42 => (f_X6_servedRelease_l33 a1 n x m) v39 v40 v42)))
def f_X6_servedRelease (n : Nat) (x : SX) (a1 : Int32) : Option (Int32) := (qgd (qin a1 10) ((qnm (x.1 23 a1.toNatClampNeg) fun v2 => (qnm ((x.1 22 a1.toNatClampNeg) - v2) fun v3 => (qnm (x.1 24 a1.toNatClampNeg) fun v4 => f_X6_servedRelease_l33 a1 n x n v2 v3 v4)))))
set_option maxHeartbeats 4000000 in
set_option maxRecDepth 100000 in
theorem t_X6_servedRelease {G : gG} {l : Launch} {ad : Nat → Nat} {n : Nat} {x : SX} {a1 : Int32} {rv : Int32} (hf : f_X6_servedRelease n x a1 = some rv) : MetI G l yX6_servedRelease cX6_servedRelease 6 (some .int) 1 0 0 23 [.ref (ad 0), .int a1] (wX G ad x) (wX G ad x) rv := by
  refine k_ofI (by decide) (Nat.le_of_ble_eq_true rfl) ?_
  intro p e s m args below meth c ls A F hr hlk hl hw
  have hx := F.1
  have hb := F.2.1
  have hl : lv_has ls 6 [(0, .ref (ad 0)), (1, .int a1)] := hl
  unfold f_X6_servedRelease at hf
  refine lv_aload_n hx hb dX6_servedRelease_0 rfl (lv_at hl 0 rfl) ?_
  refine X_g_0_0 F ws_in hw fl_X6_10 dX6_servedRelease_1 ?_
  refine X_g_1_13 F ws_in hw fl_X6_225 dX6_servedRelease_4 ?_
  refine lv_iload_n hx hb dX6_servedRelease_7 rfl (lv_at hl 1 rfl) ?_
  obtain ⟨g1, hf⟩ := qgd_e hf
  refine X_l_23 F hw g1 dX6_servedRelease_8 ?_
  refine lv_topi (fun v2 ev2 => ?_)
  have hf := qnm_k ev2 hf
  refine lv_istore_n (lv' := [(2, .int v2), (0, .ref (ad 0)), (1, .int a1)]) hx hb dX6_servedRelease_9 rfl hl (Nat.le_of_ble_eq_true rfl) rfl (fun ls hl => ?_)
  refine lv_aload_n hx hb dX6_servedRelease_10 rfl (lv_at hl 1 rfl) ?_
  refine X_g_0_0 F ws_in hw fl_X6_10 dX6_servedRelease_11 ?_
  refine X_g_1_12 F ws_in hw fl_X6_222 dX6_servedRelease_14 ?_
  refine lv_iload_n hx hb dX6_servedRelease_17 rfl (lv_at hl 2 rfl) ?_
  refine X_l_22 F hw g1 dX6_servedRelease_18 ?_
  refine lv_iload_n hx hb dX6_servedRelease_19 rfl (lv_at hl 0 rfl) ?_
  refine lv_isub hx hb dX6_servedRelease_20 ?_
  refine lv_topi (fun v3 ev3 => ?_)
  have hf := qnm_k ev3 hf
  refine lv_istore_n (lv' := [(3, .int v3), (2, .int v2), (0, .ref (ad 0)), (1, .int a1)]) hx hb dX6_servedRelease_21 rfl hl (Nat.le_of_ble_eq_true rfl) rfl (fun ls hl => ?_)
  refine lv_aload_n hx hb dX6_servedRelease_22 rfl (lv_at hl 2 rfl) ?_
  refine X_g_0_0 F ws_in hw fl_X6_10 dX6_servedRelease_23 ?_
  refine X_g_1_14 F ws_in hw fl_X6_155 dX6_servedRelease_26 ?_
  refine lv_iload_n hx hb dX6_servedRelease_29 rfl (lv_at hl 3 rfl) ?_
  refine X_l_24 F hw g1 dX6_servedRelease_30 ?_
  refine lv_topi (fun v4 ev4 => ?_)
  have hf := qnm_k ev4 hf
  refine lv_istore (lv' := [(4, .int v4), (3, .int v3), (2, .int v2), (0, .ref (ad 0)), (1, .int a1)]) hx hb dX6_servedRelease_31 hl (Nat.le_of_ble_eq_true rfl) rfl (fun ls hl => ?_)
  have E33 : ∀ (v5 : Int32) (v6 : Int32) (H : Heap) (locs : List Loc) (ls : Array Slot), Wd G (wX G ad x) A s H locs → lv_has ls 6 [(0, .ref (ad 0)), (1, .int a1), (2, .int v5), (3, .int v6)] → f_X6_servedRelease_e57 a1 n x v5 v6 = some rv → W p l e (rmk 1 0 0 23) s m args below meth c H locs 0 0 (KQI G below args s A (wX G ad x) rv 0 0) (F0 m 57 ls []) := by
    intro v5 v6 H locs ls hw hl hf
    unfold f_X6_servedRelease_e57 at hf
    refine lv_aload_n hx hb dX6_servedRelease_57 rfl (lv_at hl 0 rfl) ?_
    refine X_g_0_2 F ws_in hw fl_X6_26 dX6_servedRelease_58 ?_
    refine lv_aload_n hx hb dX6_servedRelease_61 rfl (lv_at hl 0 rfl) ?_
    refine X_g_0_0 F ws_in hw fl_X6_10 dX6_servedRelease_62 ?_
    refine X_g_1_8 F ws_in hw fl_X6_208 dX6_servedRelease_65 ?_
    refine lv_iload_n hx hb dX6_servedRelease_68 rfl (lv_at hl 1 rfl) ?_
    obtain ⟨g7, hf⟩ := qgd_e hf
    refine X_l_18 F hw g7 dX6_servedRelease_69 ?_
    obtain ⟨r8, h9, hf⟩ := qbd_e hf
    refine k_callVi' (rest := []) (As := [.int (x.1 18 a1.toNatClampNeg)]) F ws_in (t_X0_daysForChain h9) cv_X0_daysForChain ml_X6_231 hw 3 rfl rfl rfl hl.1 rfl (Nat.le_of_ble_eq_true rfl) ⟨Nat.le_of_ble_eq_true rfl, Nat.le_of_ble_eq_true rfl⟩ ⟨Nat.le_of_ble_eq_true rfl, Nat.le_of_ble_eq_true rfl⟩ dX6_servedRelease_70 (fun H locs hw => ?_)
    refine lv_istore (lv' := [(4, .int r8), (0, .ref (ad 0)), (1, .int a1), (2, .int v5), (3, .int v6)]) hx hb dX6_servedRelease_73 hl (Nat.le_of_ble_eq_true rfl) rfl (fun ls hl => ?_)
    have E19 : ∀ (v10 : Int32) (H : Heap) (locs : List Loc) (ls : Array Slot), Wd G (wX G ad x) A s H locs → lv_has ls 6 [(0, .ref (ad 0)), (1, .int a1), (2, .int v10)] → f_X6_servedRelease_e96 a1 x n v10 = some rv → W p l e (rmk 1 0 0 23) s m args below meth c H locs 0 0 (KQI G below args s A (wX G ad x) rv 0 0) (F0 m 96 ls []) := by
      intro v10 H locs ls hw hl hf
      unfold f_X6_servedRelease_e96 at hf
      refine lv_aload_n hx hb dX6_servedRelease_96 rfl (lv_at hl 0 rfl) ?_
      refine X_g_0_0 F ws_in hw fl_X6_10 dX6_servedRelease_97 ?_
      refine X_g_1_11 F ws_in hw fl_X6_340 dX6_servedRelease_100 ?_
      refine lv_iload_n hx hb dX6_servedRelease_103 rfl (lv_at hl 1 rfl) ?_
      obtain ⟨g11, hf⟩ := qgd_e hf
      refine X_l_21 F hw g11 dX6_servedRelease_104 ?_
      refine lv_topi (fun v12 ev12 => ?_)
      have hf := qnm_k ev12 hf
      refine lv_istore (lv' := [(4, .int v12), (0, .ref (ad 0)), (1, .int a1), (2, .int v10)]) hx hb dX6_servedRelease_105 hl (Nat.le_of_ble_eq_true rfl) rfl (fun ls hl => ?_)
      refine lv_iload_n hx hb dX6_servedRelease_107 rfl (lv_at hl 3 rfl) ?_
      refine lv_istore (lv' := [(5, .int v10), (4, .int v12), (0, .ref (ad 0)), (1, .int a1), (2, .int v10)]) hx hb dX6_servedRelease_108 hl (Nat.le_of_ble_eq_true rfl) rfl (fun ls hl => ?_)
      have L15 : ∀ (m0 : Nat) (v13 : Int32) (v14 : Int32) (H : Heap) (locs : List Loc) (ls : Array Slot), Wd G (wX G ad x) A s H locs → lv_has ls 6 [(4, .int v13), (5, .int v14)] → f_X6_servedRelease_l110 m0 v13 v14 = some rv → W p l e (rmk 1 0 0 23) s m args below meth c H locs 0 0 (KQI G below args s A (wX G ad x) rv 0 0) (F0 m 110 ls []) := by
        intro m0
        induction m0 with
        | zero => intro v13 v14 H locs ls hw hl hf; cases hf
        | succ mL15 ih15 =>
          intro v13 v14 H locs ls hw hl hf
          unfold f_X6_servedRelease_l110 at hf
          refine lv_iload hx hb dX6_servedRelease_110 (lv_at hl 1 rfl) ?_
          refine lv_if_le (tgt := 124) hx hb dX6_servedRelease_112 rfl (fun c16 => ?_) (fun c16 => ?_)
          · have hf := q_t c16 hf
            refine lv_iload hx hb dX6_servedRelease_124 (lv_at hl 0 rfl) ?_
            obtain rfl := q_s hf
            exact k_iret F hr hlk hw (Nat.le_of_ble_eq_true rfl) (Nat.le_of_ble_eq_true rfl) dX6_servedRelease_126
          · have hf := q_f c16 hf
            obtain ⟨v17, ev17⟩ : ∃ y : Int32, y = v13 + (1 : Int32) := ⟨_, rfl⟩
            refine lv_iinc (v := v17) (lv' := [(4, .int v17), (5, .int v14)]) hx hb dX6_servedRelease_115 hl (k := 0) rfl (by rw [ev17]; rfl) (Nat.le_of_ble_eq_true rfl) rfl (fun ls hl => ?_)
            have hf := qnm_k ev17 hf
            obtain ⟨v18, ev18⟩ : ∃ y : Int32, y = v14 + (-1 : Int32) := ⟨_, rfl⟩
            refine lv_iinc (v := v18) (lv' := [(5, .int v18), (4, .int v17)]) hx hb dX6_servedRelease_118 hl (k := 1) rfl (by rw [ev18]; rfl) (Nat.le_of_ble_eq_true rfl) rfl (fun ls hl => ?_)
            have hf := qnm_k ev18 hf
            refine lv_goto (tgt := 110) hx hb dX6_servedRelease_121 rfl ?_
            exact ih15 v17 v18 _ _ _ hw (lv_sub hl [1, 0] rfl) hf
      exact L15 n v12 v10 _ _ _ hw (lv_sub hl [1, 0] rfl) hf
    have L23 : ∀ (m0 : Nat) (v20 : Int32) (v21 : Int32) (v22 : Int32) (H : Heap) (locs : List Loc) (ls : Array Slot), Wd G (wX G ad x) A s H locs → lv_has ls 6 [(0, .ref (ad 0)), (1, .int a1), (2, .int v20), (3, .int v21), (4, .int v22)] → f_X6_servedRelease_l75 a1 x n m0 v20 v21 v22 = some rv → W p l e (rmk 1 0 0 23) s m args below meth c H locs 0 0 (KQI G below args s A (wX G ad x) rv 0 0) (F0 m 75 ls []) := by
      intro m0
      induction m0 with
      | zero => intro v20 v21 v22 H locs ls hw hl hf; cases hf
      | succ mL23 ih23 =>
        intro v20 v21 v22 H locs ls hw hl hf
        unfold f_X6_servedRelease_l75 at hf
        refine lv_iload hx hb dX6_servedRelease_75 (lv_at hl 4 rfl) ?_
        refine lv_if_le (tgt := 96) hx hb dX6_servedRelease_77 rfl (fun c24 => ?_) (fun c24 => ?_)
        · have hf := q_t c24 hf
          exact E19 v20 _ _ _ hw (lv_sub hl [0, 1, 2] rfl) hf
        · have hf := q_f c24 hf
          refine lv_iload_n hx hb dX6_servedRelease_80 rfl (lv_at hl 3 rfl) ?_
          obtain ⟨v25, v26, hq32, hf⟩ := qbd2_e hf
          have J27 : ∀ (H : Heap) (locs : List Loc) (ls : Array Slot), Wd G (wX G ad x) A s H locs → lv_has ls 6 [(0, .ref (ad 0)), (1, .int a1), (2, .int v25), (3, .int v26), (4, .int v22)] → W p l e (rmk 1 0 0 23) s m args below meth c H locs 0 0 (KQI G below args s A (wX G ad x) rv 0 0) (F0 m 90 ls []) := by
            intro H locs ls hw hl
            obtain ⟨v28, ev28⟩ : ∃ y : Int32, y = v22 + (-1 : Int32) := ⟨_, rfl⟩
            refine lv_iinc (v := v28) (lv' := [(4, .int v28), (0, .ref (ad 0)), (1, .int a1), (2, .int v25), (3, .int v26)]) hx hb dX6_servedRelease_90 hl (k := 4) rfl (by rw [ev28]; rfl) (Nat.le_of_ble_eq_true rfl) rfl (fun ls hl => ?_)
            have hf := qnm_k ev28 hf
            refine lv_goto (tgt := 75) hx hb dX6_servedRelease_93 rfl ?_
            exact ih23 v25 v26 v28 _ _ _ hw (lv_sub hl [1, 2, 3, 4, 0] rfl) hf
          have hf := hq32
          refine lv_if_le (tgt := 90) hx hb dX6_servedRelease_81 rfl (fun c29 => ?_) (fun c29 => ?_)
          · have hf := q_t c29 hf
            obtain ⟨rfl, rfl⟩ := q_s2 hf
            exact J27 _ _ _ hw (lv_sub hl [0, 1, 2, 3, 4] rfl)
          · have hf := q_f c29 hf
            obtain ⟨v30, ev30⟩ : ∃ y : Int32, y = v21 + (-1 : Int32) := ⟨_, rfl⟩
            refine lv_iinc (v := v30) (lv' := [(3, .int v30), (0, .ref (ad 0)), (1, .int a1), (2, .int v20), (4, .int v22)]) hx hb dX6_servedRelease_84 hl (k := 3) rfl (by rw [ev30]; rfl) (Nat.le_of_ble_eq_true rfl) rfl (fun ls hl => ?_)
            have hf := qnm_k ev30 hf
            obtain ⟨v31, ev31⟩ : ∃ y : Int32, y = v20 + (1 : Int32) := ⟨_, rfl⟩
            refine lv_iinc (v := v31) (lv' := [(2, .int v31), (3, .int v30), (0, .ref (ad 0)), (1, .int a1), (4, .int v22)]) hx hb dX6_servedRelease_87 hl (k := 3) rfl (by rw [ev31]; rfl) (Nat.le_of_ble_eq_true rfl) rfl (fun ls hl => ?_)
            have hf := qnm_k ev31 hf
            obtain ⟨rfl, rfl⟩ := q_s2 hf
            exact J27 _ _ _ hw (lv_sub hl [2, 3, 0, 1, 4] rfl)
    exact L23 n v5 v6 r8 _ _ _ hw (lv_sub hl [1, 2, 3, 4, 0] rfl) hf
  have L37 : ∀ (m0 : Nat) (v34 : Int32) (v35 : Int32) (v36 : Int32) (H : Heap) (locs : List Loc) (ls : Array Slot), Wd G (wX G ad x) A s H locs → lv_has ls 6 [(0, .ref (ad 0)), (1, .int a1), (2, .int v34), (3, .int v35), (4, .int v36)] → f_X6_servedRelease_l33 a1 n x m0 v34 v35 v36 = some rv → W p l e (rmk 1 0 0 23) s m args below meth c H locs 0 0 (KQI G below args s A (wX G ad x) rv 0 0) (F0 m 33 ls []) := by
    intro m0
    induction m0 with
    | zero => intro v34 v35 v36 H locs ls hw hl hf; cases hf
    | succ mL37 ih37 =>
      intro v34 v35 v36 H locs ls hw hl hf
      unfold f_X6_servedRelease_l33 at hf
      refine lv_iload hx hb dX6_servedRelease_33 (lv_at hl 4 rfl) ?_
      refine lv_if_le (tgt := 57) hx hb dX6_servedRelease_35 rfl (fun c38 => ?_) (fun c38 => ?_)
      · have hf := q_t c38 hf
        exact E33 v34 v35 _ _ _ hw (lv_sub hl [0, 1, 2, 3] rfl) hf
      · have hf := q_f c38 hf
        refine lv_iload_n hx hb dX6_servedRelease_38 rfl (lv_at hl 2 rfl) ?_
        obtain ⟨v39, v40, hq46, hf⟩ := qbd2_e hf
        have J41 : ∀ (H : Heap) (locs : List Loc) (ls : Array Slot), Wd G (wX G ad x) A s H locs → lv_has ls 6 [(0, .ref (ad 0)), (1, .int a1), (2, .int v39), (3, .int v40), (4, .int v36)] → W p l e (rmk 1 0 0 23) s m args below meth c H locs 0 0 (KQI G below args s A (wX G ad x) rv 0 0) (F0 m 51 ls []) := by
          intro H locs ls hw hl
          obtain ⟨v42, ev42⟩ : ∃ y : Int32, y = v36 + (-1 : Int32) := ⟨_, rfl⟩
          refine lv_iinc (v := v42) (lv' := [(4, .int v42), (0, .ref (ad 0)), (1, .int a1), (2, .int v39), (3, .int v40)]) hx hb dX6_servedRelease_51 hl (k := 4) rfl (by rw [ev42]; rfl) (Nat.le_of_ble_eq_true rfl) rfl (fun ls hl => ?_)
          have hf := qnm_k ev42 hf
          refine lv_goto (tgt := 33) hx hb dX6_servedRelease_54 rfl ?_
          exact ih37 v39 v40 v42 _ _ _ hw (lv_sub hl [1, 2, 3, 4, 0] rfl) hf
        have hf := hq46
        refine lv_if_le (tgt := 48) hx hb dX6_servedRelease_39 rfl (fun c43 => ?_) (fun c43 => ?_)
        · have hf := q_t c43 hf
          obtain ⟨v44, ev44⟩ : ∃ y : Int32, y = v35 + (-1 : Int32) := ⟨_, rfl⟩
          refine lv_iinc (v := v44) (lv' := [(3, .int v44), (0, .ref (ad 0)), (1, .int a1), (2, .int v34), (4, .int v36)]) hx hb dX6_servedRelease_48 hl (k := 3) rfl (by rw [ev44]; rfl) (Nat.le_of_ble_eq_true rfl) rfl (fun ls hl => ?_)
          have hf := qnm_k ev44 hf
          obtain ⟨rfl, rfl⟩ := q_s2 hf
          exact J41 _ _ _ hw (lv_sub hl [1, 2, 3, 0, 4] rfl)
        · have hf := q_f c43 hf
          obtain ⟨v45, ev45⟩ : ∃ y : Int32, y = v34 + (-1 : Int32) := ⟨_, rfl⟩
          refine lv_iinc (v := v45) (lv' := [(2, .int v45), (0, .ref (ad 0)), (1, .int a1), (3, .int v35), (4, .int v36)]) hx hb dX6_servedRelease_42 hl (k := 2) rfl (by rw [ev45]; rfl) (Nat.le_of_ble_eq_true rfl) rfl (fun ls hl => ?_)
          have hf := qnm_k ev45 hf
          refine lv_goto (tgt := 51) hx hb dX6_servedRelease_45 rfl ?_
          obtain ⟨rfl, rfl⟩ := q_s2 hf
          exact J41 _ _ _ hw (lv_sub hl [1, 2, 0, 3, 4] rfl)
  exact L37 n v2 v3 v4 _ _ _ hw (lv_sub hl [3, 4, 2, 1, 0] rfl) hf
def f_X6_releaseDayByServing (n : Nat) (x : SX) (a1 : Int32) : Option (Nat × Int32) := (qxb (f_X6_checkStandingTerm n x a1) ((0 : Int32)) ((qbd (f_X6_servedRelease n x a1) fun r3 => some (0, r3))))
set_option maxHeartbeats 4000000 in
set_option maxRecDepth 100000 in
theorem t_X6_releaseDayByServing {G : gG} {l : Launch} (hlt : l.stackTraces = false) {ad : Nat → Nat} {n : Nat} {x : SX} {a1 : Int32} {k0 : Nat} {rv : Int32} (hf : f_X6_releaseDayByServing n x a1 = some (k0, rv)) : MetXI G l yX6_releaseDayByServing cX6_releaseDayByServing 2 (some .int) 8 2 12 142 [.ref (ad 0), .int a1] (wX G ad x) (wX G ad x) k0 rv := by
  refine k_ofXI (by decide) (Nat.le_of_ble_eq_true rfl) ?_
  intro p e s m args below meth c ls A F hr hlk hout hl hw hZ
  have hx := F.1
  have hb := F.2.1
  have hl : lv_has ls 2 [(0, .ref (ad 0)), (1, .int a1)] := hl
  unfold f_X6_releaseDayByServing at hf
  refine lv_aload_n hx hb dX6_releaseDayByServing_0 rfl (lv_at hl 0 rfl) ?_
  refine lv_iload_n hx hb dX6_releaseDayByServing_1 rfl (lv_at hl 1 rfl) ?_
  obtain ⟨k1, h2, hk2, hn2⟩ := qxb_e hf
  refine k_xcallVv' (rest := []) (As := [.int a1]) F ws_in (t_X6_checkStandingTerm hlt h2) cv_X6_checkStandingTerm ml_X6_158 hZ hw 0 rfl rfl rfl hl.1 rfl (Nat.le_of_ble_eq_true rfl) ⟨Nat.le_of_ble_eq_true rfl, Nat.le_of_ble_eq_true rfl⟩ ⟨Nat.le_of_ble_eq_true rfl, Nat.le_of_ble_eq_true rfl⟩ dX6_releaseDayByServing_2 (fun hk9 E ce q9 H locs hE hw g1 g2 g3 => ?_) (fun hk9 H locs hw => ?_)
  · cases hn2 hk9
    exact k_xoutI hlk hout hw hk9 hE g1 g2 g3 (Nat.le_of_ble_eq_true rfl) (Nat.le_of_ble_eq_true rfl)
  have hf := hk2 hk9
  refine lv_aload_n hx hb dX6_releaseDayByServing_5 rfl (lv_at hl 0 rfl) ?_
  refine lv_iload_n hx hb dX6_releaseDayByServing_6 rfl (lv_at hl 1 rfl) ?_
  obtain ⟨r3, h4, hf⟩ := qbd_e hf
  refine k_callVi' (rest := []) (As := [.int a1]) F ws_in (t_X6_servedRelease h4) cv_X6_servedRelease ml_X6_234 hw 0 rfl rfl rfl hl.1 rfl (Nat.le_of_ble_eq_true rfl) ⟨Nat.le_of_ble_eq_true rfl, Nat.le_of_ble_eq_true rfl⟩ ⟨Nat.le_of_ble_eq_true rfl, Nat.le_of_ble_eq_true rfl⟩ dX6_releaseDayByServing_7 (fun H locs hw => ?_)
  obtain ⟨rfl, rfl⟩ := q_s2 hf
  exact k_xiret F hr hlk hw rfl (Nat.le_of_ble_eq_true rfl) (Nat.le_of_ble_eq_true rfl) dX6_releaseDayByServing_10
def f_X6_endDay (n : Nat) (x : SX) (a1 : Int32) : Option (Nat × Int32) := (qxb (f_X6_checkStandingTerm n x a1) ((0 : Int32)) ((qbd (f_X5_endOf n x a1) fun r3 => some (0, r3))))
set_option maxHeartbeats 4000000 in
set_option maxRecDepth 100000 in
theorem t_X6_endDay {G : gG} {l : Launch} (hlt : l.stackTraces = false) {ad : Nat → Nat} {n : Nat} {x : SX} {a1 : Int32} {k0 : Nat} {rv : Int32} (hf : f_X6_endDay n x a1 = some (k0, rv)) : MetXI G l yX6_endDay cX6_endDay 2 (some .int) 8 2 12 142 [.ref (ad 0), .int a1] (wX G ad x) (wX G ad x) k0 rv := by
  refine k_ofXI (by decide) (Nat.le_of_ble_eq_true rfl) ?_
  intro p e s m args below meth c ls A F hr hlk hout hl hw hZ
  have hx := F.1
  have hb := F.2.1
  have hl : lv_has ls 2 [(0, .ref (ad 0)), (1, .int a1)] := hl
  unfold f_X6_endDay at hf
  refine lv_aload_n hx hb dX6_endDay_0 rfl (lv_at hl 0 rfl) ?_
  refine lv_iload_n hx hb dX6_endDay_1 rfl (lv_at hl 1 rfl) ?_
  obtain ⟨k1, h2, hk2, hn2⟩ := qxb_e hf
  refine k_xcallVv' (rest := []) (As := [.int a1]) F ws_in (t_X6_checkStandingTerm hlt h2) cv_X6_checkStandingTerm ml_X6_158 hZ hw 0 rfl rfl rfl hl.1 rfl (Nat.le_of_ble_eq_true rfl) ⟨Nat.le_of_ble_eq_true rfl, Nat.le_of_ble_eq_true rfl⟩ ⟨Nat.le_of_ble_eq_true rfl, Nat.le_of_ble_eq_true rfl⟩ dX6_endDay_2 (fun hk9 E ce q9 H locs hE hw g1 g2 g3 => ?_) (fun hk9 H locs hw => ?_)
  · cases hn2 hk9
    exact k_xoutI hlk hout hw hk9 hE g1 g2 g3 (Nat.le_of_ble_eq_true rfl) (Nat.le_of_ble_eq_true rfl)
  have hf := hk2 hk9
  refine lv_aload_n hx hb dX6_endDay_5 rfl (lv_at hl 0 rfl) ?_
  refine X_g_0_0 F ws_in hw fl_X6_10 dX6_endDay_6 ?_
  refine lv_iload_n hx hb dX6_endDay_9 rfl (lv_at hl 1 rfl) ?_
  obtain ⟨r3, h4, hf⟩ := qbd_e hf
  refine k_callVi' (rest := []) (As := [.int a1]) F ws_in (t_X5_endOf h4) cv_X5_endOf ml_X6_237 hw 1 rfl rfl rfl hl.1 rfl (Nat.le_of_ble_eq_true rfl) ⟨Nat.le_of_ble_eq_true rfl, Nat.le_of_ble_eq_true rfl⟩ ⟨Nat.le_of_ble_eq_true rfl, Nat.le_of_ble_eq_true rfl⟩ dX6_endDay_10 (fun H locs hw => ?_)
  obtain ⟨rfl, rfl⟩ := q_s2 hf
  exact k_xiret F hr hlk hw rfl (Nat.le_of_ble_eq_true rfl) (Nat.le_of_ble_eq_true rfl) dX6_endDay_13
def f_X6_status (n : Nat) (x : SX) : Option (Int32) := (qbd (f_X6_currentStatus n x) fun r1 => some r1)
set_option maxHeartbeats 4000000 in
set_option maxRecDepth 100000 in
theorem t_X6_status {G : gG} {l : Launch} {ad : Nat → Nat} {n : Nat} {x : SX} {rv : Int32} (hf : f_X6_status n x = some rv) : MetI G l yX6_status cX6_status 1 (some .int) 6 0 0 132 [.ref (ad 0)] (wX G ad x) (wX G ad x) rv := by
  refine k_ofI (by decide) (Nat.le_of_ble_eq_true rfl) ?_
  intro p e s m args below meth c ls A F hr hlk hl hw
  have hx := F.1
  have hb := F.2.1
  have hl : lv_has ls 1 [(0, .ref (ad 0))] := hl
  unfold f_X6_status at hf
  refine lv_aload_n hx hb dX6_status_0 rfl (lv_at hl 0 rfl) ?_
  obtain ⟨r1, h2, hf⟩ := qbd_e hf
  refine k_callVi' (rest := []) (As := []) F ws_in (t_X6_currentStatus h2) cv_X6_currentStatus ml_X6_186 hw 0 rfl rfl rfl hl.1 rfl (Nat.le_of_ble_eq_true rfl) ⟨Nat.le_of_ble_eq_true rfl, Nat.le_of_ble_eq_true rfl⟩ ⟨Nat.le_of_ble_eq_true rfl, Nat.le_of_ble_eq_true rfl⟩ dX6_status_1 (fun H locs hw => ?_)
  obtain rfl := q_s hf
  exact k_iret F hr hlk hw (Nat.le_of_ble_eq_true rfl) (Nat.le_of_ble_eq_true rfl) dX6_status_4
def f_X6_checkAnyTermStands (n : Nat) (x : SX) : Option (Nat) := (qbd (f_X5_standing n x) fun r1 => (if r1 = 0 then some 4 else some 0))
set_option maxHeartbeats 4000000 in
set_option maxRecDepth 100000 in
theorem t_X6_checkAnyTermStands {G : gG} {l : Launch} (hlt : l.stackTraces = false) {ad : Nat → Nat} {n : Nat} {x : SX} {k0 : Nat} (hf : f_X6_checkAnyTermStands n x = some k0) : MetXV G l yX6_checkAnyTermStands cX6_checkAnyTermStands 1 none 6 1 6 100 [.ref (ad 0)] (wX G ad x) (wX G ad x) k0 := by
  refine k_ofXV (by decide) (Nat.le_of_ble_eq_true rfl) ?_
  intro p e s m args below meth c ls A F hr hlk hout hl hw hZ
  have hx := F.1
  have hb := F.2.1
  have hl : lv_has ls 1 [(0, .ref (ad 0))] := hl
  unfold f_X6_checkAnyTermStands at hf
  refine lv_aload_n hx hb dX6_checkAnyTermStands_0 rfl (lv_at hl 0 rfl) ?_
  refine X_g_0_0 F ws_in hw fl_X6_10 dX6_checkAnyTermStands_1 ?_
  obtain ⟨r1, h2, hf⟩ := qbd_e hf
  refine k_callVi' (rest := []) (As := []) F ws_in (t_X5_standing h2) cv_X5_standing ml_X6_260 hw 1 rfl rfl rfl hl.1 rfl (Nat.le_of_ble_eq_true rfl) ⟨Nat.le_of_ble_eq_true rfl, Nat.le_of_ble_eq_true rfl⟩ ⟨Nat.le_of_ble_eq_true rfl, Nat.le_of_ble_eq_true rfl⟩ dX6_checkAnyTermStands_4 (fun H locs hw => ?_)
  refine lv_if_ne (tgt := 18) hx hb dX6_checkAnyTermStands_7 rfl (fun c3 => ?_) (fun c3 => ?_)
  · have hf := q_f c3 hf
    obtain rfl := q_s hf
    exact k_xvret F hr hlk hw (Nat.le_of_ble_eq_true rfl) (Nat.le_of_ble_eq_true rfl) dX6_checkAnyTermStands_18
  · have hf := q_t c3 hf
    obtain rfl := q_s hf
    exact k_throwV F hlt hlk hout ws_in hZ hw hl.1 (by decide) (by decide) thc_4 thi_4 tha_4 ⟨Nat.le_of_ble_eq_true rfl, Nat.le_of_ble_eq_true rfl, Nat.le_of_ble_eq_true rfl, Nat.le_of_ble_eq_true rfl⟩ (Nat.le_of_ble_eq_true rfl) (Nat.le_of_ble_eq_true rfl) dX6_checkAnyTermStands_10 dX6_checkAnyTermStands_13 dX6_checkAnyTermStands_14 dX6_checkAnyTermStands_17
def f_X6_lastRelease (n : Nat) (x : SX) : Option (Nat × Int32) := (qxb (f_X6_checkAnyTermStands n x) ((0 : Int32)) ((qbd (f_X6_greatestRelease n x (0 : Int32) (0 : Int32)) fun r3 => some (0, r3))))
set_option maxHeartbeats 4000000 in
set_option maxRecDepth 100000 in
theorem t_X6_lastRelease {G : gG} {l : Launch} (hlt : l.stackTraces = false) {ad : Nat → Nat} {n : Nat} {x : SX} {k0 : Nat} {rv : Int32} (hf : f_X6_lastRelease n x = some (k0, rv)) : MetXI G l yX6_lastRelease cX6_lastRelease 1 (some .int) 7 1 6 120 [.ref (ad 0)] (wX G ad x) (wX G ad x) k0 rv := by
  refine k_ofXI (by decide) (Nat.le_of_ble_eq_true rfl) ?_
  intro p e s m args below meth c ls A F hr hlk hout hl hw hZ
  have hx := F.1
  have hb := F.2.1
  have hl : lv_has ls 1 [(0, .ref (ad 0))] := hl
  unfold f_X6_lastRelease at hf
  refine lv_aload_n hx hb dX6_lastRelease_0 rfl (lv_at hl 0 rfl) ?_
  obtain ⟨k1, h2, hk2, hn2⟩ := qxb_e hf
  refine k_xcallVv' (rest := []) (As := []) F ws_in (t_X6_checkAnyTermStands hlt h2) cv_X6_checkAnyTermStands ml_X6_240 hZ hw 0 rfl rfl rfl hl.1 rfl (Nat.le_of_ble_eq_true rfl) ⟨Nat.le_of_ble_eq_true rfl, Nat.le_of_ble_eq_true rfl⟩ ⟨Nat.le_of_ble_eq_true rfl, Nat.le_of_ble_eq_true rfl⟩ dX6_lastRelease_1 (fun hk9 E ce q9 H locs hE hw g1 g2 g3 => ?_) (fun hk9 H locs hw => ?_)
  · cases hn2 hk9
    exact k_xoutI hlk hout hw hk9 hE g1 g2 g3 (Nat.le_of_ble_eq_true rfl) (Nat.le_of_ble_eq_true rfl)
  have hf := hk2 hk9
  refine lv_aload_n hx hb dX6_lastRelease_4 rfl (lv_at hl 0 rfl) ?_
  refine lv_iconst (v := 0) hx hb dX6_lastRelease_5 (by decide) ?_
  refine lv_iconst (v := 0) hx hb dX6_lastRelease_6 (by decide) ?_
  obtain ⟨r3, h4, hf⟩ := qbd_e hf
  refine k_callVi' (rest := []) (As := [.int (0 : Int32), .int (0 : Int32)]) F ws_in (t_X6_greatestRelease h4) cv_X6_greatestRelease ml_X6_243 hw 0 rfl rfl rfl hl.1 rfl (Nat.le_of_ble_eq_true rfl) ⟨Nat.le_of_ble_eq_true rfl, Nat.le_of_ble_eq_true rfl⟩ ⟨Nat.le_of_ble_eq_true rfl, Nat.le_of_ble_eq_true rfl⟩ dX6_lastRelease_7 (fun H locs hw => ?_)
  obtain ⟨rfl, rfl⟩ := q_s2 hf
  exact k_xiret F hr hlk hw rfl (Nat.le_of_ble_eq_true rfl) (Nat.le_of_ble_eq_true rfl) dX6_lastRelease_10
def f_X6_lastEnd (n : Nat) (x : SX) : Option (Nat × Int32) := (qxb (f_X6_checkAnyTermStands n x) ((0 : Int32)) ((qbd (f_X6_greatestEnd n x) fun r3 => some (0, r3))))
set_option maxHeartbeats 4000000 in
set_option maxRecDepth 100000 in
theorem t_X6_lastEnd {G : gG} {l : Launch} (hlt : l.stackTraces = false) {ad : Nat → Nat} {n : Nat} {x : SX} {k0 : Nat} {rv : Int32} (hf : f_X6_lastEnd n x = some (k0, rv)) : MetXI G l yX6_lastEnd cX6_lastEnd 1 (some .int) 7 1 6 120 [.ref (ad 0)] (wX G ad x) (wX G ad x) k0 rv := by
  refine k_ofXI (by decide) (Nat.le_of_ble_eq_true rfl) ?_
  intro p e s m args below meth c ls A F hr hlk hout hl hw hZ
  have hx := F.1
  have hb := F.2.1
  have hl : lv_has ls 1 [(0, .ref (ad 0))] := hl
  unfold f_X6_lastEnd at hf
  refine lv_aload_n hx hb dX6_lastEnd_0 rfl (lv_at hl 0 rfl) ?_
  obtain ⟨k1, h2, hk2, hn2⟩ := qxb_e hf
  refine k_xcallVv' (rest := []) (As := []) F ws_in (t_X6_checkAnyTermStands hlt h2) cv_X6_checkAnyTermStands ml_X6_240 hZ hw 0 rfl rfl rfl hl.1 rfl (Nat.le_of_ble_eq_true rfl) ⟨Nat.le_of_ble_eq_true rfl, Nat.le_of_ble_eq_true rfl⟩ ⟨Nat.le_of_ble_eq_true rfl, Nat.le_of_ble_eq_true rfl⟩ dX6_lastEnd_1 (fun hk9 E ce q9 H locs hE hw g1 g2 g3 => ?_) (fun hk9 H locs hw => ?_)
  · cases hn2 hk9
    exact k_xoutI hlk hout hw hk9 hE g1 g2 g3 (Nat.le_of_ble_eq_true rfl) (Nat.le_of_ble_eq_true rfl)
  have hf := hk2 hk9
  refine lv_aload_n hx hb dX6_lastEnd_4 rfl (lv_at hl 0 rfl) ?_
  obtain ⟨r3, h4, hf⟩ := qbd_e hf
  refine k_callVi' (rest := []) (As := []) F ws_in (t_X6_greatestEnd h4) cv_X6_greatestEnd ml_X6_106 hw 0 rfl rfl rfl hl.1 rfl (Nat.le_of_ble_eq_true rfl) ⟨Nat.le_of_ble_eq_true rfl, Nat.le_of_ble_eq_true rfl⟩ ⟨Nat.le_of_ble_eq_true rfl, Nat.le_of_ble_eq_true rfl⟩ dX6_lastEnd_5 (fun H locs hw => ?_)
  obtain ⟨rfl, rfl⟩ := q_s2 hf
  exact k_xiret F hr hlk hw rfl (Nat.le_of_ble_eq_true rfl) (Nat.le_of_ble_eq_true rfl) dX6_lastEnd_8
def f_X6_decidingTerm_l10 (x : SX) (n : Nat) : Nat → Int32 → Int32 → Int32 → Option (Nat × Int32)
  | 0, _, _, _ => none
  | m + 1, v3, v4, v5 => (if (x.1 1 7) ≤ v5 then some (0, v3) else (qgd (qin v5 10) ((qbd2 (if (x.1 16 v5.toNatClampNeg) = 0 then (qbd (f_X6_releaseIn n x v5) fun r14 => (if r14 ≤ v4 then some (v3, v4) else (qbd (f_X6_releaseIn n x v5) fun r17 => some (v5, r17)))) else some (v3, v4)) fun v9 v10 => (qnm (v5 + (1 : Int32)) fun v12 => (f_X6_decidingTerm_l10 x n m) v9 v10 v12)))))
def f_X6_decidingTerm (n : Nat) (x : SX) : Option (Nat × Int32) := (qxb (f_X6_checkAnyTermStands n x) ((0 : Int32)) (f_X6_decidingTerm_l10 x n n (-1 : Int32) (-1 : Int32) (0 : Int32)))
set_option maxHeartbeats 4000000 in
set_option maxRecDepth 100000 in
theorem t_X6_decidingTerm {G : gG} {l : Launch} (hlt : l.stackTraces = false) {ad : Nat → Nat} {n : Nat} {x : SX} {k0 : Nat} {rv : Int32} (hf : f_X6_decidingTerm n x = some (k0, rv)) : MetXI G l yX6_decidingTerm cX6_decidingTerm 4 (some .int) 7 1 6 120 [.ref (ad 0)] (wX G ad x) (wX G ad x) k0 rv := by
  refine k_ofXI (by decide) (Nat.le_of_ble_eq_true rfl) ?_
  intro p e s m args below meth c ls A F hr hlk hout hl hw hZ
  have hx := F.1
  have hb := F.2.1
  have hl : lv_has ls 4 [(0, .ref (ad 0))] := hl
  unfold f_X6_decidingTerm at hf
  refine lv_aload_n hx hb dX6_decidingTerm_0 rfl (lv_at hl 0 rfl) ?_
  obtain ⟨k1, h2, hk2, hn2⟩ := qxb_e hf
  refine k_xcallVv' (rest := []) (As := []) F ws_in (t_X6_checkAnyTermStands hlt h2) cv_X6_checkAnyTermStands ml_X6_240 hZ hw 0 rfl rfl rfl hl.1 rfl (Nat.le_of_ble_eq_true rfl) ⟨Nat.le_of_ble_eq_true rfl, Nat.le_of_ble_eq_true rfl⟩ ⟨Nat.le_of_ble_eq_true rfl, Nat.le_of_ble_eq_true rfl⟩ dX6_decidingTerm_1 (fun hk9 E ce q9 H locs hE hw g1 g2 g3 => ?_) (fun hk9 H locs hw => ?_)
  · cases hn2 hk9
    exact k_xoutI hlk hout hw hk9 hE g1 g2 g3 (Nat.le_of_ble_eq_true rfl) (Nat.le_of_ble_eq_true rfl)
  have hf := hk2 hk9
  refine lv_iconst (v := -1) hx hb dX6_decidingTerm_4 (by decide) ?_
  refine lv_istore_n (lv' := [(1, .int (-1 : Int32)), (0, .ref (ad 0))]) hx hb dX6_decidingTerm_5 rfl hl (Nat.le_of_ble_eq_true rfl) rfl (fun ls hl => ?_)
  refine lv_iconst (v := -1) hx hb dX6_decidingTerm_6 (by decide) ?_
  refine lv_istore_n (lv' := [(2, .int (-1 : Int32)), (1, .int (-1 : Int32)), (0, .ref (ad 0))]) hx hb dX6_decidingTerm_7 rfl hl (Nat.le_of_ble_eq_true rfl) rfl (fun ls hl => ?_)
  refine lv_iconst (v := 0) hx hb dX6_decidingTerm_8 (by decide) ?_
  refine lv_istore_n (lv' := [(3, .int (0 : Int32)), (2, .int (-1 : Int32)), (1, .int (-1 : Int32)), (0, .ref (ad 0))]) hx hb dX6_decidingTerm_9 rfl hl (Nat.le_of_ble_eq_true rfl) rfl (fun ls hl => ?_)
  have L6 : ∀ (m0 : Nat) (v3 : Int32) (v4 : Int32) (v5 : Int32) (H : Heap) (locs : List Loc) (ls : Array Slot), Wd G (wX G ad x) A s H locs → lv_has ls 4 [(0, .ref (ad 0)), (1, .int v3), (2, .int v4), (3, .int v5)] → f_X6_decidingTerm_l10 x n m0 v3 v4 v5 = some (k0, rv) → W p l e (rmk 7 1 6 120) s m args below meth c H locs 1 6 (KQXI G below args s A (wX G ad x) k0 rv 1 6) (F0 m 10 ls []) := by
    intro m0
    induction m0 with
    | zero => intro v3 v4 v5 H locs ls hw hl hf; cases hf
    | succ mL6 ih6 =>
      intro v3 v4 v5 H locs ls hw hl hf
      unfold f_X6_decidingTerm_l10 at hf
      refine lv_iload_n hx hb dX6_decidingTerm_10 rfl (lv_at hl 3 rfl) ?_
      refine lv_aload_n hx hb dX6_decidingTerm_11 rfl (lv_at hl 0 rfl) ?_
      refine X_g_0_0 F ws_in hw fl_X6_10 dX6_decidingTerm_12 ?_
      refine X_g_1_7 F ws_in hw fl_X6_198 dX6_decidingTerm_15 ?_
      refine lv_icmp_ge (tgt := 56) hx hb dX6_decidingTerm_18 rfl (fun c7 => ?_) (fun c7 => ?_)
      · have hf := q_t c7 hf
        refine lv_iload_n hx hb dX6_decidingTerm_56 rfl (lv_at hl 1 rfl) ?_
        obtain ⟨rfl, rfl⟩ := q_s2 hf
        exact k_xiret F hr hlk hw rfl (Nat.le_of_ble_eq_true rfl) (Nat.le_of_ble_eq_true rfl) dX6_decidingTerm_57
      · have hf := q_f c7 hf
        refine lv_aload_n hx hb dX6_decidingTerm_21 rfl (lv_at hl 0 rfl) ?_
        refine X_g_0_0 F ws_in hw fl_X6_10 dX6_decidingTerm_22 ?_
        refine X_g_1_6 F ws_in hw fl_X6_132 dX6_decidingTerm_25 ?_
        refine lv_iload_n hx hb dX6_decidingTerm_28 rfl (lv_at hl 3 rfl) ?_
        obtain ⟨g8, hf⟩ := qgd_e hf
        refine X_l_16 F hw g8 dX6_decidingTerm_29 ?_
        obtain ⟨v9, v10, hq19, hf⟩ := qbd2_e hf
        have J11 : ∀ (H : Heap) (locs : List Loc) (ls : Array Slot), Wd G (wX G ad x) A s H locs → lv_has ls 4 [(0, .ref (ad 0)), (1, .int v9), (2, .int v10), (3, .int v5)] → W p l e (rmk 7 1 6 120) s m args below meth c H locs 1 6 (KQXI G below args s A (wX G ad x) k0 rv 1 6) (F0 m 50 ls []) := by
          intro H locs ls hw hl
          obtain ⟨v12, ev12⟩ : ∃ y : Int32, y = v5 + (1 : Int32) := ⟨_, rfl⟩
          refine lv_iinc (v := v12) (lv' := [(3, .int v12), (0, .ref (ad 0)), (1, .int v9), (2, .int v10)]) hx hb dX6_decidingTerm_50 hl (k := 3) rfl (by rw [ev12]; rfl) (Nat.le_of_ble_eq_true rfl) rfl (fun ls hl => ?_)
          have hf := qnm_k ev12 hf
          refine lv_goto (tgt := 10) hx hb dX6_decidingTerm_53 rfl ?_
          exact ih6 v9 v10 v12 _ _ _ hw (lv_sub hl [1, 2, 3, 0] rfl) hf
        have hf := hq19
        refine lv_if_ne (tgt := 50) hx hb dX6_decidingTerm_30 rfl (fun c13 => ?_) (fun c13 => ?_)
        · have hf := q_f c13 hf
          obtain ⟨rfl, rfl⟩ := q_s2 hf
          exact J11 _ _ _ hw (lv_sub hl [0, 1, 2, 3] rfl)
        · have hf := q_t c13 hf
          refine lv_aload_n hx hb dX6_decidingTerm_33 rfl (lv_at hl 0 rfl) ?_
          refine lv_iload_n hx hb dX6_decidingTerm_34 rfl (lv_at hl 3 rfl) ?_
          obtain ⟨r14, h15, hf⟩ := qbd_e hf
          refine k_callVi' (rest := []) (As := [.int v5]) F ws_in (t_X6_releaseIn h15) cv_X6_releaseIn ml_X6_136 hw 0 rfl rfl rfl hl.1 rfl (Nat.le_of_ble_eq_true rfl) ⟨Nat.le_of_ble_eq_true rfl, Nat.le_of_ble_eq_true rfl⟩ ⟨Nat.le_of_ble_eq_true rfl, Nat.le_of_ble_eq_true rfl⟩ dX6_decidingTerm_35 (fun H locs hw => ?_)
          refine lv_iload_n hx hb dX6_decidingTerm_38 rfl (lv_at hl 2 rfl) ?_
          refine lv_icmp_le (tgt := 50) hx hb dX6_decidingTerm_39 rfl (fun c16 => ?_) (fun c16 => ?_)
          · have hf := q_t c16 hf
            obtain ⟨rfl, rfl⟩ := q_s2 hf
            exact J11 _ _ _ hw (lv_sub hl [0, 1, 2, 3] rfl)
          · have hf := q_f c16 hf
            refine lv_aload_n hx hb dX6_decidingTerm_42 rfl (lv_at hl 0 rfl) ?_
            refine lv_iload_n hx hb dX6_decidingTerm_43 rfl (lv_at hl 3 rfl) ?_
            obtain ⟨r17, h18, hf⟩ := qbd_e hf
            refine k_callVi' (rest := []) (As := [.int v5]) F ws_in (t_X6_releaseIn h18) cv_X6_releaseIn ml_X6_136 hw 0 rfl rfl rfl hl.1 rfl (Nat.le_of_ble_eq_true rfl) ⟨Nat.le_of_ble_eq_true rfl, Nat.le_of_ble_eq_true rfl⟩ ⟨Nat.le_of_ble_eq_true rfl, Nat.le_of_ble_eq_true rfl⟩ dX6_decidingTerm_44 (fun H locs hw => ?_)
            refine lv_istore_n (lv' := [(2, .int r17), (0, .ref (ad 0)), (1, .int v3), (3, .int v5)]) hx hb dX6_decidingTerm_47 rfl hl (Nat.le_of_ble_eq_true rfl) rfl (fun ls hl => ?_)
            refine lv_iload_n hx hb dX6_decidingTerm_48 rfl (lv_at hl 3 rfl) ?_
            refine lv_istore_n (lv' := [(1, .int v5), (2, .int r17), (0, .ref (ad 0)), (3, .int v5)]) hx hb dX6_decidingTerm_49 rfl hl (Nat.le_of_ble_eq_true rfl) rfl (fun ls hl => ?_)
            obtain ⟨rfl, rfl⟩ := q_s2 hf
            exact J11 _ _ _ hw (lv_sub hl [2, 0, 1, 3] rfl)
  exact L6 n (-1 : Int32) (-1 : Int32) (0 : Int32) _ _ _ hw (lv_sub hl [3, 2, 1, 0] rfl) hf
def f_J6_compare_7cf53 (n : Nat) (a1 : Int32) (a2 : Int32) : Option (Int32) := (qbd (if a2 ≤ a1 then (if a1 = a2 then some (0 : Int32) else some (1 : Int32)) else some (-1 : Int32)) fun v1 => some v1)
set_option maxHeartbeats 4000000 in
set_option maxRecDepth 100000 in
theorem t_J6_compare_7cf53 {G : gG} {l : Launch} {n : Nat} {a1 : Int32} {a2 : Int32} {rv : Int32} (hf : f_J6_compare_7cf53 n a1 a2 = some rv) : MetI G l yJ6_compare_7cf53 cJ6_compare_7cf53 2 (some .int) 0 0 0 0 [.int a1, .int a2] (([] : va_W)) (([] : va_W)) rv := by
  refine k_ofI (by decide) (Nat.le_of_ble_eq_true rfl) ?_
  intro p e s m args below meth c ls A F hr hlk hl hw
  have hx := F.1
  have hb := F.2.1
  have hl : lv_has ls 2 [(0, .int a1), (1, .int a2)] := hl
  unfold f_J6_compare_7cf53 at hf
  refine lv_iload_n hx hb dJ6_compare_7cf53_0 rfl (lv_at hl 0 rfl) ?_
  refine lv_iload_n hx hb dJ6_compare_7cf53_1 rfl (lv_at hl 1 rfl) ?_
  obtain ⟨v1, hq5, hf⟩ := qbd_e hf
  have J2 : ∀ (H : Heap) (locs : List Loc) (ls : Array Slot), Wd G (([] : va_W)) A s H locs → lv_has ls 2 [] → W p l e (rmk 0 0 0 0) s m args below meth c H locs 0 0 (KQI G below args s A (([] : va_W)) rv 0 0) (F0 m 19 ls [.int v1]) := by
    intro H locs ls hw hl
    obtain rfl := q_s hf
    exact k_iret F hr hlk hw (Nat.le_of_ble_eq_true rfl) (Nat.le_of_ble_eq_true rfl) dJ6_compare_7cf53_19
  have hf := hq5
  refine lv_icmp_ge (tgt := 9) hx hb dJ6_compare_7cf53_2 rfl (fun c3 => ?_) (fun c3 => ?_)
  · have hf := q_t c3 hf
    refine lv_iload_n hx hb dJ6_compare_7cf53_9 rfl (lv_at hl 0 rfl) ?_
    refine lv_iload_n hx hb dJ6_compare_7cf53_10 rfl (lv_at hl 1 rfl) ?_
    refine lv_icmp_ne (tgt := 18) hx hb dJ6_compare_7cf53_11 rfl (fun c4 => ?_) (fun c4 => ?_)
    · have hf := q_f c4 hf
      refine lv_iconst (v := 1) hx hb dJ6_compare_7cf53_18 (by decide) ?_
      obtain rfl := q_s hf
      exact J2 _ _ _ hw (lv_sub hl [] rfl)
    · have hf := q_t c4 hf
      refine lv_iconst (v := 0) hx hb dJ6_compare_7cf53_14 (by decide) ?_
      refine lv_goto (tgt := 19) hx hb dJ6_compare_7cf53_15 rfl ?_
      obtain rfl := q_s hf
      exact J2 _ _ _ hw (lv_sub hl [] rfl)
  · have hf := q_f c3 hf
    refine lv_iconst (v := -1) hx hb dJ6_compare_7cf53_5 (by decide) ?_
    refine lv_goto (tgt := 19) hx hb dJ6_compare_7cf53_6 rfl ?_
    obtain rfl := q_s hf
    exact J2 _ _ _ hw (lv_sub hl [] rfl)
def f_X6_comesBefore (n : Nat) (x : SX) (a1 : Int32) (a2 : Int32) : Option (Int32) := (qbd (f_X6_releaseIn n x a1) fun r1 => (qbd (f_X6_releaseIn n x a2) fun r3 => (qbd (f_J6_compare_7cf53 n r1 r3) fun r5 => (if r5 = 0 then (qbd (f_X5_endOf n x a1) fun r8 => (qbd (f_X5_endOf n x a2) fun r10 => (qbd (f_J6_compare_7cf53 n r8 r10) fun r12 => (qbd (if r12 = 0 then (if a2 ≤ a1 then some (0 : Int32) else some (1 : Int32)) else (if 0 ≤ r12 then some (0 : Int32) else some (1 : Int32))) fun v14 => (qgd (qz v14) (some v14)))))) else (qbd (if 0 ≤ r5 then some (0 : Int32) else some (1 : Int32)) fun v21 => (qgd (qz v21) (some v21)))))))
set_option maxHeartbeats 4000000 in
set_option maxRecDepth 100000 in
theorem t_X6_comesBefore {G : gG} {l : Launch} {ad : Nat → Nat} {n : Nat} {x : SX} {a1 : Int32} {a2 : Int32} {rv : Int32} (hf : f_X6_comesBefore n x a1 a2 = some rv) : MetI G l yX6_comesBefore cX6_comesBefore 5 (some .boolean) 3 0 0 75 [.ref (ad 0), .int a1, .int a2] (wX G ad x) (wX G ad x) rv := by
  refine k_ofI (by decide) (Nat.le_of_ble_eq_true rfl) ?_
  intro p e s m args below meth c ls A F hr hlk hl hw
  have hx := F.1
  have hb := F.2.1
  have hl : lv_has ls 5 [(0, .ref (ad 0)), (1, .int a1), (2, .int a2)] := hl
  unfold f_X6_comesBefore at hf
  refine lv_aload_n hx hb dX6_comesBefore_0 rfl (lv_at hl 0 rfl) ?_
  refine lv_iload_n hx hb dX6_comesBefore_1 rfl (lv_at hl 1 rfl) ?_
  obtain ⟨r1, h2, hf⟩ := qbd_e hf
  refine k_callVi' (rest := []) (As := [.int a1]) F ws_in (t_X6_releaseIn h2) cv_X6_releaseIn ml_X6_136 hw 0 rfl rfl rfl hl.1 rfl (Nat.le_of_ble_eq_true rfl) ⟨Nat.le_of_ble_eq_true rfl, Nat.le_of_ble_eq_true rfl⟩ ⟨Nat.le_of_ble_eq_true rfl, Nat.le_of_ble_eq_true rfl⟩ dX6_comesBefore_2 (fun H locs hw => ?_)
  refine lv_aload_n hx hb dX6_comesBefore_5 rfl (lv_at hl 0 rfl) ?_
  refine lv_iload_n hx hb dX6_comesBefore_6 rfl (lv_at hl 2 rfl) ?_
  obtain ⟨r3, h4, hf⟩ := qbd_e hf
  refine k_callVi' (rest := [.int r1]) (As := [.int a2]) F ws_in (t_X6_releaseIn h4) cv_X6_releaseIn ml_X6_136 hw 0 rfl rfl rfl hl.1 rfl (Nat.le_of_ble_eq_true rfl) ⟨Nat.le_of_ble_eq_true rfl, Nat.le_of_ble_eq_true rfl⟩ ⟨Nat.le_of_ble_eq_true rfl, Nat.le_of_ble_eq_true rfl⟩ dX6_comesBefore_7 (fun H locs hw => ?_)
  obtain ⟨r5, h6, hf⟩ := qbd_e hf
  refine k_callPi (rest := []) (As := [.int r1, .int r3]) F ws_in (t_J6_compare_7cf53 h6) cs_J6_compare_7cf53 ml_X6_346 hw rfl hl.1 rfl (Nat.le_of_ble_eq_true rfl) ⟨Nat.le_of_ble_eq_true rfl, Nat.le_of_ble_eq_true rfl⟩ ⟨Nat.le_of_ble_eq_true rfl, Nat.le_of_ble_eq_true rfl⟩ dX6_comesBefore_10 (fun H locs hw => ?_)
  refine lv_istore_n (lv' := [(3, .int r5), (0, .ref (ad 0)), (1, .int a1), (2, .int a2)]) hx hb dX6_comesBefore_13 rfl hl (Nat.le_of_ble_eq_true rfl) rfl (fun ls hl => ?_)
  refine lv_iload_n hx hb dX6_comesBefore_14 rfl (lv_at hl 0 rfl) ?_
  refine lv_if_eq (tgt := 28) hx hb dX6_comesBefore_15 rfl (fun c7 => ?_) (fun c7 => ?_)
  · have hf := q_t c7 hf
    refine lv_aload_n hx hb dX6_comesBefore_28 rfl (lv_at hl 1 rfl) ?_
    refine X_g_0_0 F ws_in hw fl_X6_10 dX6_comesBefore_29 ?_
    refine lv_iload_n hx hb dX6_comesBefore_32 rfl (lv_at hl 2 rfl) ?_
    obtain ⟨r8, h9, hf⟩ := qbd_e hf
    refine k_callVi' (rest := []) (As := [.int a1]) F ws_in (t_X5_endOf h9) cv_X5_endOf ml_X6_237 hw 1 rfl rfl rfl hl.1 rfl (Nat.le_of_ble_eq_true rfl) ⟨Nat.le_of_ble_eq_true rfl, Nat.le_of_ble_eq_true rfl⟩ ⟨Nat.le_of_ble_eq_true rfl, Nat.le_of_ble_eq_true rfl⟩ dX6_comesBefore_33 (fun H locs hw => ?_)
    refine lv_aload_n hx hb dX6_comesBefore_36 rfl (lv_at hl 1 rfl) ?_
    refine X_g_0_0 F ws_in hw fl_X6_10 dX6_comesBefore_37 ?_
    refine lv_iload_n hx hb dX6_comesBefore_40 rfl (lv_at hl 3 rfl) ?_
    obtain ⟨r10, h11, hf⟩ := qbd_e hf
    refine k_callVi' (rest := [.int r8]) (As := [.int a2]) F ws_in (t_X5_endOf h11) cv_X5_endOf ml_X6_237 hw 1 rfl rfl rfl hl.1 rfl (Nat.le_of_ble_eq_true rfl) ⟨Nat.le_of_ble_eq_true rfl, Nat.le_of_ble_eq_true rfl⟩ ⟨Nat.le_of_ble_eq_true rfl, Nat.le_of_ble_eq_true rfl⟩ dX6_comesBefore_41 (fun H locs hw => ?_)
    obtain ⟨r12, h13, hf⟩ := qbd_e hf
    refine k_callPi (rest := []) (As := [.int r8, .int r10]) F ws_in (t_J6_compare_7cf53 h13) cs_J6_compare_7cf53 ml_X6_346 hw rfl hl.1 rfl (Nat.le_of_ble_eq_true rfl) ⟨Nat.le_of_ble_eq_true rfl, Nat.le_of_ble_eq_true rfl⟩ ⟨Nat.le_of_ble_eq_true rfl, Nat.le_of_ble_eq_true rfl⟩ dX6_comesBefore_44 (fun H locs hw => ?_)
    refine lv_istore (lv' := [(4, .int r12), (3, .int r5), (0, .ref (ad 0)), (1, .int a1), (2, .int a2)]) hx hb dX6_comesBefore_47 hl (Nat.le_of_ble_eq_true rfl) rfl (fun ls hl => ?_)
    refine lv_iload hx hb dX6_comesBefore_49 (lv_at hl 0 rfl) ?_
    obtain ⟨v14, hq20, hf⟩ := qbd_e hf
    have J15 : ∀ (H : Heap) (locs : List Loc) (ls : Array Slot), Wd G (wX G ad x) A s H locs → lv_has ls 5 [] → W p l e (rmk 3 0 0 75) s m args below meth c H locs 0 0 (KQI G below args s A (wX G ad x) rv 0 0) (F0 m 77 ls [.int v14]) := by
      intro H locs ls hw hl
      obtain ⟨g16, hf⟩ := qgd_e hf
      obtain rfl := q_s hf
      exact k_zret F hr hlk hw (qz_n g16) (Nat.le_of_ble_eq_true rfl) (Nat.le_of_ble_eq_true rfl) dX6_comesBefore_77
    have hf := hq20
    refine lv_if_eq (tgt := 67) hx hb dX6_comesBefore_51 rfl (fun c17 => ?_) (fun c17 => ?_)
    · have hf := q_t c17 hf
      refine lv_iload_n hx hb dX6_comesBefore_67 rfl (lv_at hl 3 rfl) ?_
      refine lv_iload_n hx hb dX6_comesBefore_68 rfl (lv_at hl 4 rfl) ?_
      refine lv_icmp_ge (tgt := 76) hx hb dX6_comesBefore_69 rfl (fun c18 => ?_) (fun c18 => ?_)
      · have hf := q_t c18 hf
        refine lv_iconst (v := 0) hx hb dX6_comesBefore_76 (by decide) ?_
        obtain rfl := q_s hf
        exact J15 _ _ _ hw (lv_sub hl [] rfl)
      · have hf := q_f c18 hf
        refine lv_iconst (v := 1) hx hb dX6_comesBefore_72 (by decide) ?_
        refine lv_goto (tgt := 77) hx hb dX6_comesBefore_73 rfl ?_
        obtain rfl := q_s hf
        exact J15 _ _ _ hw (lv_sub hl [] rfl)
    · have hf := q_f c17 hf
      refine lv_iload hx hb dX6_comesBefore_54 (lv_at hl 0 rfl) ?_
      refine lv_if_ge (tgt := 63) hx hb dX6_comesBefore_56 rfl (fun c19 => ?_) (fun c19 => ?_)
      · have hf := q_t c19 hf
        refine lv_iconst (v := 0) hx hb dX6_comesBefore_63 (by decide) ?_
        refine lv_goto (tgt := 77) hx hb dX6_comesBefore_64 rfl ?_
        obtain rfl := q_s hf
        exact J15 _ _ _ hw (lv_sub hl [] rfl)
      · have hf := q_f c19 hf
        refine lv_iconst (v := 1) hx hb dX6_comesBefore_59 (by decide) ?_
        refine lv_goto (tgt := 77) hx hb dX6_comesBefore_60 rfl ?_
        obtain rfl := q_s hf
        exact J15 _ _ _ hw (lv_sub hl [] rfl)
  · have hf := q_f c7 hf
    refine lv_iload_n hx hb dX6_comesBefore_18 rfl (lv_at hl 0 rfl) ?_
    obtain ⟨v21, hq25, hf⟩ := qbd_e hf
    have J22 : ∀ (H : Heap) (locs : List Loc) (ls : Array Slot), Wd G (wX G ad x) A s H locs → lv_has ls 5 [] → W p l e (rmk 3 0 0 75) s m args below meth c H locs 0 0 (KQI G below args s A (wX G ad x) rv 0 0) (F0 m 27 ls [.int v21]) := by
      intro H locs ls hw hl
      obtain ⟨g23, hf⟩ := qgd_e hf
      obtain rfl := q_s hf
      exact k_zret F hr hlk hw (qz_n g23) (Nat.le_of_ble_eq_true rfl) (Nat.le_of_ble_eq_true rfl) dX6_comesBefore_27
    have hf := hq25
    refine lv_if_ge (tgt := 26) hx hb dX6_comesBefore_19 rfl (fun c24 => ?_) (fun c24 => ?_)
    · have hf := q_t c24 hf
      refine lv_iconst (v := 0) hx hb dX6_comesBefore_26 (by decide) ?_
      obtain rfl := q_s hf
      exact J22 _ _ _ hw (lv_sub hl [] rfl)
    · have hf := q_f c24 hf
      refine lv_iconst (v := 1) hx hb dX6_comesBefore_22 (by decide) ?_
      refine lv_goto (tgt := 27) hx hb dX6_comesBefore_23 rfl ?_
      obtain rfl := q_s hf
      exact J22 _ _ _ hw (lv_sub hl [] rfl)
def f_X6_placeByRelease_l4 (x : SX) (n : Nat) (a1 : Int32) : Nat → Int32 → Int32 → Option (Int32)
  | 0, _, _ => none
  | m + 1, v1, v2 => (if (x.1 1 7) ≤ v2 then some v1 else (qgd (qin v2 10) ((qbd (if (x.1 16 v2.toNatClampNeg) = 0 then (qbd (f_X6_comesBefore n x v2 a1) fun r10 => (if r10 = 0 then some v1 else (qnm (v1 + (1 : Int32)) fun v13 => some v13))) else some v1) fun v6 => (qnm (v2 + (1 : Int32)) fun v8 => (f_X6_placeByRelease_l4 x n a1 m) v6 v8)))))
def f_X6_placeByRelease (n : Nat) (x : SX) (a1 : Int32) : Option (Int32) := f_X6_placeByRelease_l4 x n a1 n (0 : Int32) (0 : Int32)
set_option maxHeartbeats 4000000 in
set_option maxRecDepth 100000 in
theorem t_X6_placeByRelease {G : gG} {l : Launch} {ad : Nat → Nat} {n : Nat} {x : SX} {a1 : Int32} {rv : Int32} (hf : f_X6_placeByRelease n x a1 = some rv) : MetI G l yX6_placeByRelease cX6_placeByRelease 4 (some .int) 4 0 0 99 [.ref (ad 0), .int a1] (wX G ad x) (wX G ad x) rv := by
  refine k_ofI (by decide) (Nat.le_of_ble_eq_true rfl) ?_
  intro p e s m args below meth c ls A F hr hlk hl hw
  have hx := F.1
  have hb := F.2.1
  have hl : lv_has ls 4 [(0, .ref (ad 0)), (1, .int a1)] := hl
  unfold f_X6_placeByRelease at hf
  refine lv_iconst (v := 0) hx hb dX6_placeByRelease_0 (by decide) ?_
  refine lv_istore_n (lv' := [(2, .int (0 : Int32)), (0, .ref (ad 0)), (1, .int a1)]) hx hb dX6_placeByRelease_1 rfl hl (Nat.le_of_ble_eq_true rfl) rfl (fun ls hl => ?_)
  refine lv_iconst (v := 0) hx hb dX6_placeByRelease_2 (by decide) ?_
  refine lv_istore_n (lv' := [(3, .int (0 : Int32)), (2, .int (0 : Int32)), (0, .ref (ad 0)), (1, .int a1)]) hx hb dX6_placeByRelease_3 rfl hl (Nat.le_of_ble_eq_true rfl) rfl (fun ls hl => ?_)
  have L3 : ∀ (m0 : Nat) (v1 : Int32) (v2 : Int32) (H : Heap) (locs : List Loc) (ls : Array Slot), Wd G (wX G ad x) A s H locs → lv_has ls 4 [(0, .ref (ad 0)), (1, .int a1), (2, .int v1), (3, .int v2)] → f_X6_placeByRelease_l4 x n a1 m0 v1 v2 = some rv → W p l e (rmk 4 0 0 99) s m args below meth c H locs 0 0 (KQI G below args s A (wX G ad x) rv 0 0) (F0 m 4 ls []) := by
    intro m0
    induction m0 with
    | zero => intro v1 v2 H locs ls hw hl hf; cases hf
    | succ mL3 ih3 =>
      intro v1 v2 H locs ls hw hl hf
      unfold f_X6_placeByRelease_l4 at hf
      refine lv_iload_n hx hb dX6_placeByRelease_4 rfl (lv_at hl 3 rfl) ?_
      refine lv_aload_n hx hb dX6_placeByRelease_5 rfl (lv_at hl 0 rfl) ?_
      refine X_g_0_0 F ws_in hw fl_X6_10 dX6_placeByRelease_6 ?_
      refine X_g_1_7 F ws_in hw fl_X6_198 dX6_placeByRelease_9 ?_
      refine lv_icmp_ge (tgt := 45) hx hb dX6_placeByRelease_12 rfl (fun c4 => ?_) (fun c4 => ?_)
      · have hf := q_t c4 hf
        refine lv_iload_n hx hb dX6_placeByRelease_45 rfl (lv_at hl 2 rfl) ?_
        obtain rfl := q_s hf
        exact k_iret F hr hlk hw (Nat.le_of_ble_eq_true rfl) (Nat.le_of_ble_eq_true rfl) dX6_placeByRelease_46
      · have hf := q_f c4 hf
        refine lv_aload_n hx hb dX6_placeByRelease_15 rfl (lv_at hl 0 rfl) ?_
        refine X_g_0_0 F ws_in hw fl_X6_10 dX6_placeByRelease_16 ?_
        refine X_g_1_6 F ws_in hw fl_X6_132 dX6_placeByRelease_19 ?_
        refine lv_iload_n hx hb dX6_placeByRelease_22 rfl (lv_at hl 3 rfl) ?_
        obtain ⟨g5, hf⟩ := qgd_e hf
        refine X_l_16 F hw g5 dX6_placeByRelease_23 ?_
        obtain ⟨v6, hq14, hf⟩ := qbd_e hf
        have J7 : ∀ (H : Heap) (locs : List Loc) (ls : Array Slot), Wd G (wX G ad x) A s H locs → lv_has ls 4 [(0, .ref (ad 0)), (1, .int a1), (2, .int v6), (3, .int v2)] → W p l e (rmk 4 0 0 99) s m args below meth c H locs 0 0 (KQI G below args s A (wX G ad x) rv 0 0) (F0 m 39 ls []) := by
          intro H locs ls hw hl
          obtain ⟨v8, ev8⟩ : ∃ y : Int32, y = v2 + (1 : Int32) := ⟨_, rfl⟩
          refine lv_iinc (v := v8) (lv' := [(3, .int v8), (0, .ref (ad 0)), (1, .int a1), (2, .int v6)]) hx hb dX6_placeByRelease_39 hl (k := 3) rfl (by rw [ev8]; rfl) (Nat.le_of_ble_eq_true rfl) rfl (fun ls hl => ?_)
          have hf := qnm_k ev8 hf
          refine lv_goto (tgt := 4) hx hb dX6_placeByRelease_42 rfl ?_
          exact ih3 v6 v8 _ _ _ hw (lv_sub hl [1, 2, 3, 0] rfl) hf
        have hf := hq14
        refine lv_if_ne (tgt := 39) hx hb dX6_placeByRelease_24 rfl (fun c9 => ?_) (fun c9 => ?_)
        · have hf := q_f c9 hf
          obtain rfl := q_s hf
          exact J7 _ _ _ hw (lv_sub hl [0, 1, 2, 3] rfl)
        · have hf := q_t c9 hf
          refine lv_aload_n hx hb dX6_placeByRelease_27 rfl (lv_at hl 0 rfl) ?_
          refine lv_iload_n hx hb dX6_placeByRelease_28 rfl (lv_at hl 3 rfl) ?_
          refine lv_iload_n hx hb dX6_placeByRelease_29 rfl (lv_at hl 1 rfl) ?_
          obtain ⟨r10, h11, hf⟩ := qbd_e hf
          refine k_callVi' (rest := []) (As := [.int v2, .int a1]) F ws_in (t_X6_comesBefore h11) cv_X6_comesBefore ml_X6_343 hw 0 rfl rfl rfl hl.1 rfl (Nat.le_of_ble_eq_true rfl) ⟨Nat.le_of_ble_eq_true rfl, Nat.le_of_ble_eq_true rfl⟩ ⟨Nat.le_of_ble_eq_true rfl, Nat.le_of_ble_eq_true rfl⟩ dX6_placeByRelease_30 (fun H locs hw => ?_)
          refine lv_if_eq (tgt := 39) hx hb dX6_placeByRelease_33 rfl (fun c12 => ?_) (fun c12 => ?_)
          · have hf := q_t c12 hf
            obtain rfl := q_s hf
            exact J7 _ _ _ hw (lv_sub hl [0, 1, 2, 3] rfl)
          · have hf := q_f c12 hf
            obtain ⟨v13, ev13⟩ : ∃ y : Int32, y = v1 + (1 : Int32) := ⟨_, rfl⟩
            refine lv_iinc (v := v13) (lv' := [(2, .int v13), (0, .ref (ad 0)), (1, .int a1), (3, .int v2)]) hx hb dX6_placeByRelease_36 hl (k := 2) rfl (by rw [ev13]; rfl) (Nat.le_of_ble_eq_true rfl) rfl (fun ls hl => ?_)
            have hf := qnm_k ev13 hf
            obtain rfl := q_s hf
            exact J7 _ _ _ hw (lv_sub hl [1, 2, 0, 3] rfl)
  exact L3 n (0 : Int32) (0 : Int32) _ _ _ hw (lv_sub hl [2, 3, 1, 0] rfl) hf
