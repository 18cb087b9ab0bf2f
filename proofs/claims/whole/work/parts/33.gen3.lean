def f_X6_termByRelease_l2 (x : SX) (n : Nat) (a1 : Int32) : Nat → Int32 → Option (Nat × Int32)
  | 0, _ => none
  | m + 1, v1 => (if (x.1 1 7) ≤ v1 then some (3, (0 : Int32)) else (qgd (qin v1 10) ((if (x.1 16 v1.toNatClampNeg) = 0 then (qbd (f_X6_placeByRelease n x v1) fun r7 => (if r7 = a1 then some (0, v1) else (qnm (v1 + (1 : Int32)) fun v10 => (f_X6_termByRelease_l2 x n a1 m) v10))) else (qnm (v1 + (1 : Int32)) fun v6 => (f_X6_termByRelease_l2 x n a1 m) v6)))))
def f_X6_termByRelease (n : Nat) (x : SX) (a1 : Int32) : Option (Nat × Int32) := f_X6_termByRelease_l2 x n a1 n (0 : Int32)
set_option maxHeartbeats 4000000 in
set_option maxRecDepth 100000 in
theorem t_X6_termByRelease {G : gG} {l : Launch} (hlt : l.stackTraces = false) {ad : Nat → Nat} {n : Nat} {x : SX} {a1 : Int32} {k0 : Nat} {rv : Int32} (hf : f_X6_termByRelease n x a1 = some (k0, rv)) : MetXI G l yX6_termByRelease cX6_termByRelease 3 (some .int) 6 1 6 122 [.ref (ad 0), .int a1] (wX G ad x) (wX G ad x) k0 rv := by
  refine k_ofXI (by decide) (Nat.le_of_ble_eq_true rfl) ?_
  intro p e s m args below meth c ls A F hr hlk hout hl hw hZ
  have hx := F.1
  have hb := F.2.1
  have hl : lv_has ls 3 [(0, .ref (ad 0)), (1, .int a1)] := hl
  unfold f_X6_termByRelease at hf
  refine lv_iconst (v := 0) hx hb dX6_termByRelease_0 (by decide) ?_
  refine lv_istore_n (lv' := [(2, .int (0 : Int32)), (0, .ref (ad 0)), (1, .int a1)]) hx hb dX6_termByRelease_1 rfl hl (Nat.le_of_ble_eq_true rfl) rfl (fun ls hl => ?_)
  have L2 : ∀ (m0 : Nat) (v1 : Int32) (H : Heap) (locs : List Loc) (ls : Array Slot), Wd G (wX G ad x) A s H locs → lv_has ls 3 [(0, .ref (ad 0)), (1, .int a1), (2, .int v1)] → f_X6_termByRelease_l2 x n a1 m0 v1 = some (k0, rv) → W p l e (rmk 6 1 6 122) s m args below meth c H locs 0 0 (KQXI G below args s A (wX G ad x) k0 rv 1 6) (F0 m 2 ls []) := by
    intro m0
    induction m0 with
    | zero => intro v1 H locs ls hw hl hf; cases hf
    | succ mL2 ih2 =>
      intro v1 H locs ls hw hl hf
      unfold f_X6_termByRelease_l2 at hf
      refine lv_iload_n hx hb dX6_termByRelease_2 rfl (lv_at hl 2 rfl) ?_
      refine lv_aload_n hx hb dX6_termByRelease_3 rfl (lv_at hl 0 rfl) ?_
      refine X_g_0_0 F ws_in hw fl_X6_10 dX6_termByRelease_4 ?_
      refine X_g_1_7 F ws_in hw fl_X6_198 dX6_termByRelease_7 ?_
      refine lv_icmp_ge (tgt := 42) hx hb dX6_termByRelease_10 rfl (fun c3 => ?_) (fun c3 => ?_)
      · have hf := q_t c3 hf
        obtain ⟨rfl, rfl⟩ := q_s2 hf
        exact k_throwI F hlt hlk hout ws_in hZ hw hl.1 (by decide) (by decide) thc_3 thi_3 tha_3 ⟨Nat.le_of_ble_eq_true rfl, Nat.le_of_ble_eq_true rfl, Nat.le_of_ble_eq_true rfl, Nat.le_of_ble_eq_true rfl⟩ (Nat.le_of_ble_eq_true rfl) (Nat.le_of_ble_eq_true rfl) dX6_termByRelease_42 dX6_termByRelease_45 dX6_termByRelease_46 dX6_termByRelease_49
      · have hf := q_f c3 hf
        refine lv_aload_n hx hb dX6_termByRelease_13 rfl (lv_at hl 0 rfl) ?_
        refine X_g_0_0 F ws_in hw fl_X6_10 dX6_termByRelease_14 ?_
        refine X_g_1_6 F ws_in hw fl_X6_132 dX6_termByRelease_17 ?_
        refine lv_iload_n hx hb dX6_termByRelease_20 rfl (lv_at hl 2 rfl) ?_
        obtain ⟨g4, hf⟩ := qgd_e hf
        refine X_l_16 F hw g4 dX6_termByRelease_21 ?_
        refine lv_if_ne (tgt := 36) hx hb dX6_termByRelease_22 rfl (fun c5 => ?_) (fun c5 => ?_)
        · have hf := q_f c5 hf
          obtain ⟨v6, ev6⟩ : ∃ y : Int32, y = v1 + (1 : Int32) := ⟨_, rfl⟩
          refine lv_iinc (v := v6) (lv' := [(2, .int v6), (0, .ref (ad 0)), (1, .int a1)]) hx hb dX6_termByRelease_36 hl (k := 2) rfl (by rw [ev6]; rfl) (Nat.le_of_ble_eq_true rfl) rfl (fun ls hl => ?_)
          have hf := qnm_k ev6 hf
          refine lv_goto (tgt := 2) hx hb dX6_termByRelease_39 rfl ?_
          exact ih2 v6 _ _ _ hw (lv_sub hl [1, 2, 0] rfl) hf
        · have hf := q_t c5 hf
          refine lv_aload_n hx hb dX6_termByRelease_25 rfl (lv_at hl 0 rfl) ?_
          refine lv_iload_n hx hb dX6_termByRelease_26 rfl (lv_at hl 2 rfl) ?_
          obtain ⟨r7, h8, hf⟩ := qbd_e hf
          refine k_callVi' (rest := []) (As := [.int v1]) F ws_in (t_X6_placeByRelease h8) cv_X6_placeByRelease ml_X6_246 hw 0 rfl rfl rfl hl.1 rfl (Nat.le_of_ble_eq_true rfl) ⟨Nat.le_of_ble_eq_true rfl, Nat.le_of_ble_eq_true rfl⟩ ⟨Nat.le_of_ble_eq_true rfl, Nat.le_of_ble_eq_true rfl⟩ dX6_termByRelease_27 (fun H locs hw => ?_)
          refine lv_iload_n hx hb dX6_termByRelease_30 rfl (lv_at hl 1 rfl) ?_
          refine lv_icmp_ne (tgt := 36) hx hb dX6_termByRelease_31 rfl (fun c9 => ?_) (fun c9 => ?_)
          · have hf := q_f c9 hf
            obtain ⟨v10, ev10⟩ : ∃ y : Int32, y = v1 + (1 : Int32) := ⟨_, rfl⟩
            refine lv_iinc (v := v10) (lv' := [(2, .int v10), (0, .ref (ad 0)), (1, .int a1)]) hx hb dX6_termByRelease_36 hl (k := 2) rfl (by rw [ev10]; rfl) (Nat.le_of_ble_eq_true rfl) rfl (fun ls hl => ?_)
            have hf := qnm_k ev10 hf
            refine lv_goto (tgt := 2) hx hb dX6_termByRelease_39 rfl ?_
            exact ih2 v10 _ _ _ hw (lv_sub hl [1, 2, 0] rfl) hf
          · have hf := q_t c9 hf
            refine lv_iload_n hx hb dX6_termByRelease_34 rfl (lv_at hl 2 rfl) ?_
            obtain ⟨rfl, rfl⟩ := q_s2 hf
            exact k_xiret F hr hlk hw rfl (Nat.le_of_ble_eq_true rfl) (Nat.le_of_ble_eq_true rfl) dX6_termByRelease_35
  exact L2 n (0 : Int32) _ _ _ hw (lv_sub hl [1, 2, 0] rfl) hf
def f_X6_daysInCustodyLeft (n : Nat) (x : SX) : Option (Int32) := (qbd (f_X6_custodyEnd n x) fun r1 => some (if (r1 - (x.1 0 8)) < (0 : Int32) then (0 : Int32) else (r1 - (x.1 0 8))))
set_option maxHeartbeats 4000000 in
set_option maxRecDepth 100000 in
theorem t_X6_daysInCustodyLeft {G : gG} {l : Launch} {ad : Nat → Nat} {n : Nat} {x : SX} {rv : Int32} (hf : f_X6_daysInCustodyLeft n x = some rv) : MetI G l yX6_daysInCustodyLeft cX6_daysInCustodyLeft 1 (some .int) 5 0 0 112 [.ref (ad 0)] (wX G ad x) (wX G ad x) rv := by
  refine k_ofI (by decide) (Nat.le_of_ble_eq_true rfl) ?_
  intro p e s m args below meth c ls A F hr hlk hl hw
  have hx := F.1
  have hb := F.2.1
  have hl : lv_has ls 1 [(0, .ref (ad 0))] := hl
  unfold f_X6_daysInCustodyLeft at hf
  refine lv_aload_n hx hb dX6_daysInCustodyLeft_0 rfl (lv_at hl 0 rfl) ?_
  obtain ⟨r1, h2, hf⟩ := qbd_e hf
  refine k_callVi' (rest := []) (As := []) F ws_in (t_X6_custodyEnd h2) cv_X6_custodyEnd ml_X6_99 hw 0 rfl rfl rfl hl.1 rfl (Nat.le_of_ble_eq_true rfl) ⟨Nat.le_of_ble_eq_true rfl, Nat.le_of_ble_eq_true rfl⟩ ⟨Nat.le_of_ble_eq_true rfl, Nat.le_of_ble_eq_true rfl⟩ dX6_daysInCustodyLeft_1 (fun H locs hw => ?_)
  refine lv_aload_n hx hb dX6_daysInCustodyLeft_4 rfl (lv_at hl 0 rfl) ?_
  refine X_g_0_8 F ws_in hw fl_X6_92 dX6_daysInCustodyLeft_5 ?_
  refine lv_isub hx hb dX6_daysInCustodyLeft_8 ?_
  refine lv_iconst (v := 0) hx hb dX6_daysInCustodyLeft_9 (by decide) ?_
  refine k_mmax F ws_in ml_X6_252 cm_max hl.1 ⟨Nat.le_of_ble_eq_true rfl, Nat.le_of_ble_eq_true rfl, Nat.le_of_ble_eq_true rfl, Nat.le_of_ble_eq_true rfl⟩ dX6_daysInCustodyLeft_10 ?_
  obtain rfl := q_s hf
  exact k_iret F hr hlk hw (Nat.le_of_ble_eq_true rfl) (Nat.le_of_ble_eq_true rfl) dX6_daysInCustodyLeft_13
def f_X6_recallCount (n : Nat) (x : SX) : Option (Int32) := (qbd (f_X6_recallsMade n x) fun r1 => some r1)
set_option maxHeartbeats 4000000 in
set_option maxRecDepth 100000 in
theorem t_X6_recallCount {G : gG} {l : Launch} {ad : Nat → Nat} {n : Nat} {x : SX} {rv : Int32} (hf : f_X6_recallCount n x = some rv) : MetI G l yX6_recallCount cX6_recallCount 1 (some .int) 1 0 0 20 [.ref (ad 0)] (wX G ad x) (wX G ad x) rv := by
  refine k_ofI (by decide) (Nat.le_of_ble_eq_true rfl) ?_
  intro p e s m args below meth c ls A F hr hlk hl hw
  have hx := F.1
  have hb := F.2.1
  have hl : lv_has ls 1 [(0, .ref (ad 0))] := hl
  unfold f_X6_recallCount at hf
  refine lv_aload_n hx hb dX6_recallCount_0 rfl (lv_at hl 0 rfl) ?_
  obtain ⟨r1, h2, hf⟩ := qbd_e hf
  refine k_callVi' (rest := []) (As := []) F ws_in (t_X6_recallsMade h2) cv_X6_recallsMade ml_X6_189 hw 0 rfl rfl rfl hl.1 rfl (Nat.le_of_ble_eq_true rfl) ⟨Nat.le_of_ble_eq_true rfl, Nat.le_of_ble_eq_true rfl⟩ ⟨Nat.le_of_ble_eq_true rfl, Nat.le_of_ble_eq_true rfl⟩ dX6_recallCount_1 (fun H locs hw => ?_)
  obtain rfl := q_s hf
  exact k_iret F hr hlk hw (Nat.le_of_ble_eq_true rfl) (Nat.le_of_ble_eq_true rfl) dX6_recallCount_4
def f_X6_recallEnd (n : Nat) (x : SX) : Option (Nat × Int32) := (qbd (f_X6_recallIsRunning n x) fun r1 => (if r1 = 0 then some (4, (0 : Int32)) else (qbd (f_X6_latestRecallEnd n x) fun r4 => some (0, r4))))
set_option maxHeartbeats 4000000 in
set_option maxRecDepth 100000 in
theorem t_X6_recallEnd {G : gG} {l : Launch} (hlt : l.stackTraces = false) {ad : Nat → Nat} {n : Nat} {x : SX} {k0 : Nat} {rv : Int32} (hf : f_X6_recallEnd n x = some (k0, rv)) : MetXI G l yX6_recallEnd cX6_recallEnd 1 (some .int) 6 1 6 100 [.ref (ad 0)] (wX G ad x) (wX G ad x) k0 rv := by
  refine k_ofXI (by decide) (Nat.le_of_ble_eq_true rfl) ?_
  intro p e s m args below meth c ls A F hr hlk hout hl hw hZ
  have hx := F.1
  have hb := F.2.1
  have hl : lv_has ls 1 [(0, .ref (ad 0))] := hl
  unfold f_X6_recallEnd at hf
  refine lv_aload_n hx hb dX6_recallEnd_0 rfl (lv_at hl 0 rfl) ?_
  obtain ⟨r1, h2, hf⟩ := qbd_e hf
  refine k_callVi' (rest := []) (As := []) F ws_in (t_X6_recallIsRunning h2) cv_X6_recallIsRunning ml_X6_168 hw 0 rfl rfl rfl hl.1 rfl (Nat.le_of_ble_eq_true rfl) ⟨Nat.le_of_ble_eq_true rfl, Nat.le_of_ble_eq_true rfl⟩ ⟨Nat.le_of_ble_eq_true rfl, Nat.le_of_ble_eq_true rfl⟩ dX6_recallEnd_1 (fun H locs hw => ?_)
  refine lv_if_ne (tgt := 15) hx hb dX6_recallEnd_4 rfl (fun c3 => ?_) (fun c3 => ?_)
  · have hf := q_f c3 hf
    refine lv_aload_n hx hb dX6_recallEnd_15 rfl (lv_at hl 0 rfl) ?_
    obtain ⟨r4, h5, hf⟩ := qbd_e hf
    refine k_callVi' (rest := []) (As := []) F ws_in (t_X6_latestRecallEnd h5) cv_X6_latestRecallEnd ml_X6_195 hw 0 rfl rfl rfl hl.1 rfl (Nat.le_of_ble_eq_true rfl) ⟨Nat.le_of_ble_eq_true rfl, Nat.le_of_ble_eq_true rfl⟩ ⟨Nat.le_of_ble_eq_true rfl, Nat.le_of_ble_eq_true rfl⟩ dX6_recallEnd_16 (fun H locs hw => ?_)
    obtain ⟨rfl, rfl⟩ := q_s2 hf
    exact k_xiret F hr hlk hw rfl (Nat.le_of_ble_eq_true rfl) (Nat.le_of_ble_eq_true rfl) dX6_recallEnd_19
  · have hf := q_t c3 hf
    obtain ⟨rfl, rfl⟩ := q_s2 hf
    exact k_throwI F hlt hlk hout ws_in hZ hw hl.1 (by decide) (by decide) thc_4 thi_4 tha_4 ⟨Nat.le_of_ble_eq_true rfl, Nat.le_of_ble_eq_true rfl, Nat.le_of_ble_eq_true rfl, Nat.le_of_ble_eq_true rfl⟩ (Nat.le_of_ble_eq_true rfl) (Nat.le_of_ble_eq_true rfl) dX6_recallEnd_7 dX6_recallEnd_10 dX6_recallEnd_11 dX6_recallEnd_14
def f_X6_awardDays (n : Nat) (x : SX) (a1 : Int32) : Option (Nat × Int32) := (qxb (f_X6_checkAward n x a1) ((0 : Int32)) ((qgd (qin a1 8) (some (0, (x.1 35 a1.toNatClampNeg))))))
set_option maxHeartbeats 4000000 in
set_option maxRecDepth 100000 in
theorem t_X6_awardDays {G : gG} {l : Launch} (hlt : l.stackTraces = false) {ad : Nat → Nat} {n : Nat} {x : SX} {a1 : Int32} {k0 : Nat} {rv : Int32} (hf : f_X6_awardDays n x a1 = some (k0, rv)) : MetXI G l yX6_awardDays cX6_awardDays 2 (some .int) 7 1 6 121 [.ref (ad 0), .int a1] (wX G ad x) (wX G ad x) k0 rv := by
  refine k_ofXI (by decide) (Nat.le_of_ble_eq_true rfl) ?_
  intro p e s m args below meth c ls A F hr hlk hout hl hw hZ
  have hx := F.1
  have hb := F.2.1
  have hl : lv_has ls 2 [(0, .ref (ad 0)), (1, .int a1)] := hl
  unfold f_X6_awardDays at hf
  refine lv_aload_n hx hb dX6_awardDays_0 rfl (lv_at hl 0 rfl) ?_
  refine lv_iload_n hx hb dX6_awardDays_1 rfl (lv_at hl 1 rfl) ?_
  obtain ⟨k1, h2, hk2, hn2⟩ := qxb_e hf
  refine k_xcallVv' (rest := []) (As := [.int a1]) F ws_in (t_X6_checkAward hlt h2) cv_X6_checkAward ml_X6_180 hZ hw 0 rfl rfl rfl hl.1 rfl (Nat.le_of_ble_eq_true rfl) ⟨Nat.le_of_ble_eq_true rfl, Nat.le_of_ble_eq_true rfl⟩ ⟨Nat.le_of_ble_eq_true rfl, Nat.le_of_ble_eq_true rfl⟩ dX6_awardDays_2 (fun hk9 E ce q9 H locs hE hw g1 g2 g3 => ?_) (fun hk9 H locs hw => ?_)
  · cases hn2 hk9
    exact k_xoutI hlk hout hw hk9 hE g1 g2 g3 (Nat.le_of_ble_eq_true rfl) (Nat.le_of_ble_eq_true rfl)
  have hf := hk2 hk9
  refine lv_aload_n hx hb dX6_awardDays_5 rfl (lv_at hl 0 rfl) ?_
  refine X_g_0_2 F ws_in hw fl_X6_26 dX6_awardDays_6 ?_
  refine X_g_3_0 F ws_in hw fl_X6_183 dX6_awardDays_9 ?_
  refine lv_iload_n hx hb dX6_awardDays_12 rfl (lv_at hl 1 rfl) ?_
  obtain ⟨g3, hf⟩ := qgd_e hf
  refine X_l_35 F hw g3 dX6_awardDays_13 ?_
  obtain ⟨rfl, rfl⟩ := q_s2 hf
  exact k_xiret F hr hlk hw rfl (Nat.le_of_ble_eq_true rfl) (Nat.le_of_ble_eq_true rfl) dX6_awardDays_14
def f_X6_concerns (n : Nat) (x : SX) (a1 : Int32) (a2 : Int32) : Option (Nat × Int32) := (qxb (f_X6_checkAward n x a1) ((0 : Int32)) ((qxb (f_X6_checkTerm n x a2) ((0 : Int32)) ((qgd (qin a1 8) ((qbd (if ((x.1 36 a1.toNatClampNeg) &&& ((1 : Int32) <<< (a2 &&& 31))) = 0 then some (0 : Int32) else some (1 : Int32)) fun v6 => (qgd (qz v6) (some (0, v6))))))))))
set_option maxHeartbeats 4000000 in
set_option maxRecDepth 100000 in
theorem t_X6_concerns {G : gG} {l : Launch} (hlt : l.stackTraces = false) {ad : Nat → Nat} {n : Nat} {x : SX} {a1 : Int32} {a2 : Int32} {k0 : Nat} {rv : Int32} (hf : f_X6_concerns n x a1 a2 = some (k0, rv)) : MetXI G l yX6_concerns cX6_concerns 3 (some .boolean) 7 2 12 121 [.ref (ad 0), .int a1, .int a2] (wX G ad x) (wX G ad x) k0 rv := by
  refine k_ofXI (by decide) (Nat.le_of_ble_eq_true rfl) ?_
  intro p e s m args below meth c ls A F hr hlk hout hl hw hZ
  have hx := F.1
  have hb := F.2.1
  have hl : lv_has ls 3 [(0, .ref (ad 0)), (1, .int a1), (2, .int a2)] := hl
  unfold f_X6_concerns at hf
  refine lv_aload_n hx hb dX6_concerns_0 rfl (lv_at hl 0 rfl) ?_
  refine lv_iload_n hx hb dX6_concerns_1 rfl (lv_at hl 1 rfl) ?_
  obtain ⟨k1, h2, hk2, hn2⟩ := qxb_e hf
  refine k_xcallVv' (rest := []) (As := [.int a1]) F ws_in (t_X6_checkAward hlt h2) cv_X6_checkAward ml_X6_180 hZ hw 0 rfl rfl rfl hl.1 rfl (Nat.le_of_ble_eq_true rfl) ⟨Nat.le_of_ble_eq_true rfl, Nat.le_of_ble_eq_true rfl⟩ ⟨Nat.le_of_ble_eq_true rfl, Nat.le_of_ble_eq_true rfl⟩ dX6_concerns_2 (fun hk9 E ce q9 H locs hE hw g1 g2 g3 => ?_) (fun hk9 H locs hw => ?_)
  · cases hn2 hk9
    exact k_xoutI hlk hout hw hk9 hE g1 g2 g3 (Nat.le_of_ble_eq_true rfl) (Nat.le_of_ble_eq_true rfl)
  have hf := hk2 hk9
  refine lv_aload_n hx hb dX6_concerns_5 rfl (lv_at hl 0 rfl) ?_
  refine lv_iload_n hx hb dX6_concerns_6 rfl (lv_at hl 2 rfl) ?_
  obtain ⟨k3, h4, hk4, hn4⟩ := qxb_e hf
  refine k_xcallVv' (rest := []) (As := [.int a2]) F ws_in (t_X6_checkTerm hlt h4) cv_X6_checkTerm ml_X6_129 hZ hw 0 rfl rfl rfl hl.1 rfl (Nat.le_of_ble_eq_true rfl) ⟨Nat.le_of_ble_eq_true rfl, Nat.le_of_ble_eq_true rfl⟩ ⟨Nat.le_of_ble_eq_true rfl, Nat.le_of_ble_eq_true rfl⟩ dX6_concerns_7 (fun hk9 E ce q9 H locs hE hw g1 g2 g3 => ?_) (fun hk9 H locs hw => ?_)
  · cases hn4 hk9
    exact k_xoutI hlk hout hw hk9 hE g1 g2 g3 (Nat.le_of_ble_eq_true rfl) (Nat.le_of_ble_eq_true rfl)
  have hf := hk4 hk9
  refine lv_aload_n hx hb dX6_concerns_10 rfl (lv_at hl 0 rfl) ?_
  refine X_g_0_2 F ws_in hw fl_X6_26 dX6_concerns_11 ?_
  refine X_g_3_1 F ws_in hw fl_X6_257 dX6_concerns_14 ?_
  refine lv_iload_n hx hb dX6_concerns_17 rfl (lv_at hl 1 rfl) ?_
  obtain ⟨g5, hf⟩ := qgd_e hf
  refine X_l_36 F hw g5 dX6_concerns_18 ?_
  refine lv_iconst (v := 1) hx hb dX6_concerns_19 (by decide) ?_
  refine lv_iload_n hx hb dX6_concerns_20 rfl (lv_at hl 2 rfl) ?_
  refine lv_ishl hx hb dX6_concerns_21 ?_
  refine lv_iand hx hb dX6_concerns_22 ?_
  obtain ⟨v6, hq10, hf⟩ := qbd_e hf
  have J7 : ∀ (H : Heap) (locs : List Loc) (ls : Array Slot), Wd G (wX G ad x) A s H locs → lv_has ls 3 [] → W p l e (rmk 7 2 12 121) s m args below meth c H locs 2 12 (KQXI G below args s A (wX G ad x) k0 rv 2 12) (F0 m 31 ls [.int v6]) := by
    intro H locs ls hw hl
    obtain ⟨g8, hf⟩ := qgd_e hf
    obtain ⟨rfl, rfl⟩ := q_s2 hf
    exact k_xiret F hr hlk hw (qz_n g8) (Nat.le_of_ble_eq_true rfl) (Nat.le_of_ble_eq_true rfl) dX6_concerns_31
  have hf := hq10
  refine lv_if_eq (tgt := 30) hx hb dX6_concerns_23 rfl (fun c9 => ?_) (fun c9 => ?_)
  · have hf := q_t c9 hf
    refine lv_iconst (v := 0) hx hb dX6_concerns_30 (by decide) ?_
    obtain rfl := q_s hf
    exact J7 _ _ _ hw (lv_sub hl [] rfl)
  · have hf := q_f c9 hf
    refine lv_iconst (v := 1) hx hb dX6_concerns_26 (by decide) ?_
    refine lv_goto (tgt := 31) hx hb dX6_concerns_27 rfl ?_
    obtain rfl := q_s hf
    exact J7 _ _ _ hw (lv_sub hl [] rfl)
def f_X6_lastReleaseWithAward (n : Nat) (x : SX) (a1 : Int32) : Option (Nat × Int32) := (qxb (f_X6_checkAwardDays n a1) ((0 : Int32)) ((qbd (f_X6_custodyEnd n x) fun r3 => (if (x.1 0 8) < r3 then (qbd (f_X6_termsUnreleased n x) fun r6 => (qbd (f_X6_greatestRelease n x r6 a1) fun r8 => some (0, r8))) else some (2, (0 : Int32))))))
set_option maxHeartbeats 4000000 in
set_option maxRecDepth 100000 in
theorem t_X6_lastReleaseWithAward {G : gG} {l : Launch} (hlt : l.stackTraces = false) {ad : Nat → Nat} {n : Nat} {x : SX} {a1 : Int32} {k0 : Nat} {rv : Int32} (hf : f_X6_lastReleaseWithAward n x a1 = some (k0, rv)) : MetXI G l yX6_lastReleaseWithAward cX6_lastReleaseWithAward 2 (some .int) 7 2 12 120 [.ref (ad 0), .int a1] (wX G ad x) (wX G ad x) k0 rv := by
  refine k_ofXI (by decide) (Nat.le_of_ble_eq_true rfl) ?_
  intro p e s m args below meth c ls A F hr hlk hout hl hw hZ
  have hx := F.1
  have hb := F.2.1
  have hl : lv_has ls 2 [(0, .ref (ad 0)), (1, .int a1)] := hl
  unfold f_X6_lastReleaseWithAward at hf
  refine lv_iload_n hx hb dX6_lastReleaseWithAward_0 rfl (lv_at hl 1 rfl) ?_
  obtain ⟨k1, h2, hk2, hn2⟩ := qxb_e hf
  refine k_xcallPv (rest := []) (As := [.int a1]) F ws_in (t_X6_checkAwardDays hlt h2) cs_X6_checkAwardDays ml_X6_164 hZ hw rfl hl.1 rfl (Nat.le_of_ble_eq_true rfl) ⟨Nat.le_of_ble_eq_true rfl, Nat.le_of_ble_eq_true rfl⟩ ⟨Nat.le_of_ble_eq_true rfl, Nat.le_of_ble_eq_true rfl⟩ dX6_lastReleaseWithAward_1 (fun hk9 E ce q9 H locs hE hw g1 g2 g3 => ?_) (fun hk9 H locs hw => ?_)
  · cases hn2 hk9
    exact k_xoutI hlk hout hw hk9 hE g1 g2 g3 (Nat.le_of_ble_eq_true rfl) (Nat.le_of_ble_eq_true rfl)
  have hf := hk2 hk9
  refine lv_aload_n hx hb dX6_lastReleaseWithAward_4 rfl (lv_at hl 0 rfl) ?_
  obtain ⟨r3, h4, hf⟩ := qbd_e hf
  refine k_callVi' (rest := []) (As := []) F ws_in (t_X6_custodyEnd h4) cv_X6_custodyEnd ml_X6_99 hw 0 rfl rfl rfl hl.1 rfl (Nat.le_of_ble_eq_true rfl) ⟨Nat.le_of_ble_eq_true rfl, Nat.le_of_ble_eq_true rfl⟩ ⟨Nat.le_of_ble_eq_true rfl, Nat.le_of_ble_eq_true rfl⟩ dX6_lastReleaseWithAward_5 (fun H locs hw => ?_)
  refine lv_aload_n hx hb dX6_lastReleaseWithAward_8 rfl (lv_at hl 0 rfl) ?_
  refine X_g_0_8 F ws_in hw fl_X6_92 dX6_lastReleaseWithAward_9 ?_
  refine lv_icmp_gt (tgt := 23) hx hb dX6_lastReleaseWithAward_12 rfl (fun c5 => ?_) (fun c5 => ?_)
  · have hf := q_t c5 hf
    refine lv_aload_n hx hb dX6_lastReleaseWithAward_23 rfl (lv_at hl 0 rfl) ?_
    refine lv_aload_n hx hb dX6_lastReleaseWithAward_24 rfl (lv_at hl 0 rfl) ?_
    obtain ⟨r6, h7, hf⟩ := qbd_e hf
    refine k_callVi' (rest := [.ref (ad 0)]) (As := []) F ws_in (t_X6_termsUnreleased h7) cv_X6_termsUnreleased ml_X6_175 hw 0 rfl rfl rfl hl.1 rfl (Nat.le_of_ble_eq_true rfl) ⟨Nat.le_of_ble_eq_true rfl, Nat.le_of_ble_eq_true rfl⟩ ⟨Nat.le_of_ble_eq_true rfl, Nat.le_of_ble_eq_true rfl⟩ dX6_lastReleaseWithAward_25 (fun H locs hw => ?_)
    refine lv_iload_n hx hb dX6_lastReleaseWithAward_28 rfl (lv_at hl 1 rfl) ?_
    obtain ⟨r8, h9, hf⟩ := qbd_e hf
    refine k_callVi' (rest := []) (As := [.int r6, .int a1]) F ws_in (t_X6_greatestRelease h9) cv_X6_greatestRelease ml_X6_243 hw 0 rfl rfl rfl hl.1 rfl (Nat.le_of_ble_eq_true rfl) ⟨Nat.le_of_ble_eq_true rfl, Nat.le_of_ble_eq_true rfl⟩ ⟨Nat.le_of_ble_eq_true rfl, Nat.le_of_ble_eq_true rfl⟩ dX6_lastReleaseWithAward_29 (fun H locs hw => ?_)
    obtain ⟨rfl, rfl⟩ := q_s2 hf
    exact k_xiret F hr hlk hw rfl (Nat.le_of_ble_eq_true rfl) (Nat.le_of_ble_eq_true rfl) dX6_lastReleaseWithAward_32
  · have hf := q_f c5 hf
    obtain ⟨rfl, rfl⟩ := q_s2 hf
    exact k_throwI F hlt hlk hout ws_in hZ hw hl.1 (by decide) (by decide) thc_2 thi_2 tha_2 ⟨Nat.le_of_ble_eq_true rfl, Nat.le_of_ble_eq_true rfl, Nat.le_of_ble_eq_true rfl, Nat.le_of_ble_eq_true rfl⟩ (Nat.le_of_ble_eq_true rfl) (Nat.le_of_ble_eq_true rfl) dX6_lastReleaseWithAward_15 dX6_lastReleaseWithAward_18 dX6_lastReleaseWithAward_19 dX6_lastReleaseWithAward_22
def f_X6_lastReleaseWithout (n : Nat) (x : SX) (a1 : Int32) : Option (Nat × Int32 × SX) := (qxb (f_X6_checkStandingTerm n x a1) ((0 : Int32), x) ((qbd (f_X5_standing n x) fun r3 => (if (2 : Int32) ≤ r3 then (qbd (f_X5_remember n x) fun x6 => (qbd2 (f_X5_remove n x6 a1) fun r8 x9 => (qbd (f_X6_settle n x9) fun x11 => (qbd (f_X6_greatestRelease n x11 (0 : Int32) (0 : Int32)) fun r13 => (qbd (f_X5_bringBack n x11 a1) fun x15 => (qbd (f_X6_settle n x15) fun x17 => some (0, r13, x17))))))) else some (4, (0 : Int32), x)))))
set_option maxHeartbeats 4000000 in
set_option maxRecDepth 100000 in
theorem t_X6_lastReleaseWithout {G : gG} {l : Launch} (hlt : l.stackTraces = false) {ad : Nat → Nat} {n : Nat} {x : SX} {a1 : Int32} {k0 : Nat} {rv : Int32} {xr : SX} (hf : f_X6_lastReleaseWithout n x a1 = some (k0, rv, xr)) : MetXI G l yX6_lastReleaseWithout cX6_lastReleaseWithout 3 (some .int) 8 3 18 142 [.ref (ad 0), .int a1] (wX G ad x) (wX G ad xr) k0 rv := by
  refine k_ofXI (by decide) (Nat.le_of_ble_eq_true rfl) ?_
  intro p e s m args below meth c ls A F hr hlk hout hl hw hZ
  have hx := F.1
  have hb := F.2.1
  have hl : lv_has ls 3 [(0, .ref (ad 0)), (1, .int a1)] := hl
  unfold f_X6_lastReleaseWithout at hf
  refine lv_aload_n hx hb dX6_lastReleaseWithout_0 rfl (lv_at hl 0 rfl) ?_
  refine lv_iload_n hx hb dX6_lastReleaseWithout_1 rfl (lv_at hl 1 rfl) ?_
  obtain ⟨k1, h2, hk2, hn2⟩ := qxb_e hf
  refine k_xcallVv' (rest := []) (As := [.int a1]) F ws_in (t_X6_checkStandingTerm hlt h2) cv_X6_checkStandingTerm ml_X6_158 hZ hw 0 rfl rfl rfl hl.1 rfl (Nat.le_of_ble_eq_true rfl) ⟨Nat.le_of_ble_eq_true rfl, Nat.le_of_ble_eq_true rfl⟩ ⟨Nat.le_of_ble_eq_true rfl, Nat.le_of_ble_eq_true rfl⟩ dX6_lastReleaseWithout_2 (fun hk9 E ce q9 H locs hE hw g1 g2 g3 => ?_) (fun hk9 H locs hw => ?_)
  · cases hn2 hk9
    exact k_xoutI hlk hout hw hk9 hE g1 g2 g3 (Nat.le_of_ble_eq_true rfl) (Nat.le_of_ble_eq_true rfl)
  have hf := hk2 hk9
  refine lv_aload_n hx hb dX6_lastReleaseWithout_5 rfl (lv_at hl 0 rfl) ?_
  refine X_g_0_0 F ws_in hw fl_X6_10 dX6_lastReleaseWithout_6 ?_
  obtain ⟨r3, h4, hf⟩ := qbd_e hf
  refine k_callVi' (rest := []) (As := []) F ws_in (t_X5_standing h4) cv_X5_standing ml_X6_260 hw 1 rfl rfl rfl hl.1 rfl (Nat.le_of_ble_eq_true rfl) ⟨Nat.le_of_ble_eq_true rfl, Nat.le_of_ble_eq_true rfl⟩ ⟨Nat.le_of_ble_eq_true rfl, Nat.le_of_ble_eq_true rfl⟩ dX6_lastReleaseWithout_9 (fun H locs hw => ?_)
  refine lv_iconst (v := 2) hx hb dX6_lastReleaseWithout_12 (by decide) ?_
  refine lv_icmp_ge (tgt := 24) hx hb dX6_lastReleaseWithout_13 rfl (fun c5 => ?_) (fun c5 => ?_)
  · have hf := q_t c5 hf
    refine lv_aload_n hx hb dX6_lastReleaseWithout_24 rfl (lv_at hl 0 rfl) ?_
    refine X_g_0_0 F ws_in hw fl_X6_10 dX6_lastReleaseWithout_25 ?_
    obtain ⟨x6, h7, hf⟩ := qbd_e hf
    refine k_callVv' (rest := []) (As := []) F ws_in (t_X5_remember h7) cv_X5_remember ml_X6_263 hw 1 rfl rfl rfl hl.1 rfl (Nat.le_of_ble_eq_true rfl) ⟨Nat.le_of_ble_eq_true rfl, Nat.le_of_ble_eq_true rfl⟩ ⟨Nat.le_of_ble_eq_true rfl, Nat.le_of_ble_eq_true rfl⟩ dX6_lastReleaseWithout_28 (fun H locs hw => ?_)
    refine lv_aload_n hx hb dX6_lastReleaseWithout_31 rfl (lv_at hl 0 rfl) ?_
    refine X_g_0_0 F ws_in hw fl_X6_10 dX6_lastReleaseWithout_32 ?_
    refine lv_iload_n hx hb dX6_lastReleaseWithout_35 rfl (lv_at hl 1 rfl) ?_
    obtain ⟨r8, x9, h10, hf⟩ := qbd2_e hf
    refine k_callVi' (rest := []) (As := [.int a1]) F ws_in (t_X5_remove h10) cv_X5_remove ml_X6_161 hw 1 rfl rfl rfl hl.1 rfl (Nat.le_of_ble_eq_true rfl) ⟨Nat.le_of_ble_eq_true rfl, Nat.le_of_ble_eq_true rfl⟩ ⟨Nat.le_of_ble_eq_true rfl, Nat.le_of_ble_eq_true rfl⟩ dX6_lastReleaseWithout_36 (fun H locs hw => ?_)
    refine lv_pop hx hb dX6_lastReleaseWithout_39 rfl ?_
    refine lv_aload_n hx hb dX6_lastReleaseWithout_40 rfl (lv_at hl 0 rfl) ?_
    obtain ⟨x11, h12, hf⟩ := qbd_e hf
    refine k_callVv' (rest := []) (As := []) F ws_in (t_X6_settle h12) cv_X6_settle ml_X6_149 hw 0 rfl rfl rfl hl.1 rfl (Nat.le_of_ble_eq_true rfl) ⟨Nat.le_of_ble_eq_true rfl, Nat.le_of_ble_eq_true rfl⟩ ⟨Nat.le_of_ble_eq_true rfl, Nat.le_of_ble_eq_true rfl⟩ dX6_lastReleaseWithout_41 (fun H locs hw => ?_)
    refine lv_aload_n hx hb dX6_lastReleaseWithout_44 rfl (lv_at hl 0 rfl) ?_
    refine lv_iconst (v := 0) hx hb dX6_lastReleaseWithout_45 (by decide) ?_
    refine lv_iconst (v := 0) hx hb dX6_lastReleaseWithout_46 (by decide) ?_
    obtain ⟨r13, h14, hf⟩ := qbd_e hf
    refine k_callVi' (rest := []) (As := [.int (0 : Int32), .int (0 : Int32)]) F ws_in (t_X6_greatestRelease h14) cv_X6_greatestRelease ml_X6_243 hw 0 rfl rfl rfl hl.1 rfl (Nat.le_of_ble_eq_true rfl) ⟨Nat.le_of_ble_eq_true rfl, Nat.le_of_ble_eq_true rfl⟩ ⟨Nat.le_of_ble_eq_true rfl, Nat.le_of_ble_eq_true rfl⟩ dX6_lastReleaseWithout_47 (fun H locs hw => ?_)
    refine lv_istore_n (lv' := [(2, .int r13), (0, .ref (ad 0)), (1, .int a1)]) hx hb dX6_lastReleaseWithout_50 rfl hl (Nat.le_of_ble_eq_true rfl) rfl (fun ls hl => ?_)
    refine lv_aload_n hx hb dX6_lastReleaseWithout_51 rfl (lv_at hl 1 rfl) ?_
    refine X_g_0_0 F ws_in hw fl_X6_10 dX6_lastReleaseWithout_52 ?_
    refine lv_iload_n hx hb dX6_lastReleaseWithout_55 rfl (lv_at hl 2 rfl) ?_
    obtain ⟨x15, h16, hf⟩ := qbd_e hf
    refine k_callVv' (rest := []) (As := [.int a1]) F ws_in (t_X5_bringBack h16) cv_X5_bringBack ml_X6_266 hw 1 rfl rfl rfl hl.1 rfl (Nat.le_of_ble_eq_true rfl) ⟨Nat.le_of_ble_eq_true rfl, Nat.le_of_ble_eq_true rfl⟩ ⟨Nat.le_of_ble_eq_true rfl, Nat.le_of_ble_eq_true rfl⟩ dX6_lastReleaseWithout_56 (fun H locs hw => ?_)
    refine lv_aload_n hx hb dX6_lastReleaseWithout_59 rfl (lv_at hl 1 rfl) ?_
    obtain ⟨x17, h18, hf⟩ := qbd_e hf
    refine k_callVv' (rest := []) (As := []) F ws_in (t_X6_settle h18) cv_X6_settle ml_X6_149 hw 0 rfl rfl rfl hl.1 rfl (Nat.le_of_ble_eq_true rfl) ⟨Nat.le_of_ble_eq_true rfl, Nat.le_of_ble_eq_true rfl⟩ ⟨Nat.le_of_ble_eq_true rfl, Nat.le_of_ble_eq_true rfl⟩ dX6_lastReleaseWithout_60 (fun H locs hw => ?_)
    refine lv_iload_n hx hb dX6_lastReleaseWithout_63 rfl (lv_at hl 0 rfl) ?_
    obtain ⟨rfl, rfl, rfl⟩ := q_s3 hf
    exact k_xiret F hr hlk hw rfl (Nat.le_of_ble_eq_true rfl) (Nat.le_of_ble_eq_true rfl) dX6_lastReleaseWithout_64
  · have hf := q_f c5 hf
    obtain ⟨rfl, rfl, rfl⟩ := q_s3 hf
    exact k_throwI F hlt hlk hout ws_in hZ hw hl.1 (by decide) (by decide) thc_4 thi_4 tha_4 ⟨Nat.le_of_ble_eq_true rfl, Nat.le_of_ble_eq_true rfl, Nat.le_of_ble_eq_true rfl, Nat.le_of_ble_eq_true rfl⟩ (Nat.le_of_ble_eq_true rfl) (Nat.le_of_ble_eq_true rfl) dX6_lastReleaseWithout_16 dX6_lastReleaseWithout_19 dX6_lastReleaseWithout_20 dX6_lastReleaseWithout_23
def f_X6_servedDays (n : Nat) (x : SX) : Option (Int32) := some (x.1 0 9)
set_option maxHeartbeats 4000000 in
set_option maxRecDepth 100000 in
theorem t_X6_servedDays {G : gG} {l : Launch} {ad : Nat → Nat} {n : Nat} {x : SX} {rv : Int32} (hf : f_X6_servedDays n x = some rv) : MetI G l yX6_servedDays cX6_servedDays 1 (some .int) 0 0 0 0 [.ref (ad 0)] (wX G ad x) (wX G ad x) rv := by
  refine k_ofI (by decide) (Nat.le_of_ble_eq_true rfl) ?_
  intro p e s m args below meth c ls A F hr hlk hl hw
  have hx := F.1
  have hb := F.2.1
  have hl : lv_has ls 1 [(0, .ref (ad 0))] := hl
  unfold f_X6_servedDays at hf
  refine lv_aload_n hx hb dX6_servedDays_0 rfl (lv_at hl 0 rfl) ?_
  refine X_g_0_9 F ws_in hw fl_X6_113 dX6_servedDays_1 ?_
  obtain rfl := q_s hf
  exact k_iret F hr hlk hw (Nat.le_of_ble_eq_true rfl) (Nat.le_of_ble_eq_true rfl) dX6_servedDays_4
def f_X6_licenceDays (n : Nat) (x : SX) : Option (Int32) := some (x.1 0 10)
set_option maxHeartbeats 4000000 in
set_option maxRecDepth 100000 in
theorem t_X6_licenceDays {G : gG} {l : Launch} {ad : Nat → Nat} {n : Nat} {x : SX} {rv : Int32} (hf : f_X6_licenceDays n x = some rv) : MetI G l yX6_licenceDays cX6_licenceDays 1 (some .int) 0 0 0 0 [.ref (ad 0)] (wX G ad x) (wX G ad x) rv := by
  refine k_ofI (by decide) (Nat.le_of_ble_eq_true rfl) ?_
  intro p e s m args below meth c ls A F hr hlk hl hw
  have hx := F.1
  have hb := F.2.1
  have hl : lv_has ls 1 [(0, .ref (ad 0))] := hl
  unfold f_X6_licenceDays at hf
  refine lv_aload_n hx hb dX6_licenceDays_0 rfl (lv_at hl 0 rfl) ?_
  refine X_g_0_10 F ws_in hw fl_X6_116 dX6_licenceDays_1 ?_
  obtain rfl := q_s hf
  exact k_iret F hr hlk hw (Nat.le_of_ble_eq_true rfl) (Nat.le_of_ble_eq_true rfl) dX6_licenceDays_4
def f_X2_has_6 (n : Nat) (x : SX) (a1 : Int32) : Option (Int32) := (qnm (a1 >>> ((6 : Int32) &&& 31)) fun v1 => (qbd (if v1 < 0 then some (0 : Int32) else (if (229 : Int32) ≤ v1 then some (0 : Int32) else (qgd (qin v1 229) ((if (lg_cmp ((((x.2 41 v1.toNatClampNeg).toUInt64 >>> ((a1 &&& (63 : Int32)).toInt64.toUInt64 &&& Int64.toUInt64 63)).toInt64) &&& (1 : Int64)) (0 : Int64)) = 0 then some (0 : Int32) else some (1 : Int32)))))) fun v2 => (qgd (qz v2) (some v2))))
set_option maxHeartbeats 4000000 in
set_option maxRecDepth 100000 in
theorem t_X2_has_6 {G : gG} {l : Launch} {ad : Nat → Nat} {n : Nat} {x : SX} {a1 : Int32} {rv : Int32} (hf : f_X2_has_6 n x a1 = some rv) : MetI G l yX2_has cX2_has 3 (some .boolean) 0 0 0 0 [.ref (ad 6), .int a1] (wX G ad x) (wX G ad x) rv := by
  refine k_ofI (by decide) (Nat.le_of_ble_eq_true rfl) ?_
  intro p e s m args below meth c ls A F hr hlk hl hw
  have hx := F.1
  have hb := F.2.1
  have hl : lv_has ls 3 [(0, .ref (ad 6)), (1, .int a1)] := hl
  unfold f_X2_has_6 at hf
  refine lv_iload_n hx hb dX2_has_0 rfl (lv_at hl 1 rfl) ?_
  refine lv_bipush (v := 6) hx hb dX2_has_1 (by decide) ?_
  refine lv_ishr hx hb dX2_has_3 ?_
  refine lv_topi (fun v1 ev1 => ?_)
  have hf := qnm_k ev1 hf
  refine lv_istore_n (lv' := [(2, .int v1), (0, .ref (ad 6)), (1, .int a1)]) hx hb dX2_has_4 rfl hl (Nat.le_of_ble_eq_true rfl) rfl (fun ls hl => ?_)
  refine lv_iload_n hx hb dX2_has_5 rfl (lv_at hl 0 rfl) ?_
  obtain ⟨v2, hq9, hf⟩ := qbd_e hf
  have J3 : ∀ (H : Heap) (locs : List Loc) (ls : Array Slot), Wd G (wX G ad x) A s H locs → lv_has ls 3 [] → W p l e (rmk 0 0 0 0) s m args below meth c H locs 0 0 (KQI G below args s A (wX G ad x) rv 0 0) (F0 m 39 ls [.int v2]) := by
    intro H locs ls hw hl
    obtain ⟨g4, hf⟩ := qgd_e hf
    obtain rfl := q_s hf
    exact k_zret F hr hlk hw (qz_n g4) (Nat.le_of_ble_eq_true rfl) (Nat.le_of_ble_eq_true rfl) dX2_has_39
  have hf := hq9
  refine lv_if_lt (tgt := 38) hx hb dX2_has_6 rfl (fun c5 => ?_) (fun c5 => ?_)
  · have hf := q_t c5 hf
    refine lv_iconst (v := 0) hx hb dX2_has_38 (by decide) ?_
    obtain rfl := q_s hf
    exact J3 _ _ _ hw (lv_sub hl [] rfl)
  · have hf := q_f c5 hf
    refine lv_iload_n hx hb dX2_has_9 rfl (lv_at hl 0 rfl) ?_
    refine lv_sipush (v := 229) hx hb dX2_has_10 (by decide) ?_
    refine lv_icmp_ge (tgt := 38) hx hb dX2_has_13 rfl (fun c6 => ?_) (fun c6 => ?_)
    · have hf := q_t c6 hf
      refine lv_iconst (v := 0) hx hb dX2_has_38 (by decide) ?_
      obtain rfl := q_s hf
      exact J3 _ _ _ hw (lv_sub hl [] rfl)
    · have hf := q_f c6 hf
      refine lv_aload_n hx hb dX2_has_16 rfl (lv_at hl 1 rfl) ?_
      refine X_g_6_0 F ws_in hw fl_X2_11 dX2_has_17 ?_
      refine lv_iload_n hx hb dX2_has_20 rfl (lv_at hl 0 rfl) ?_
      obtain ⟨g7, hf⟩ := qgd_e hf
      refine X_l_41 F hw g7 dX2_has_21 ?_
      refine lv_iload_n hx hb dX2_has_22 rfl (lv_at hl 2 rfl) ?_
      refine lv_bipush (v := 63) hx hb dX2_has_23 (by decide) ?_
      refine lv_iand hx hb dX2_has_25 ?_
      refine lv_lushr hx hb dX2_has_26 rfl ?_
      refine lv_lconst (v := 1) hx hb dX2_has_27 (by decide) ?_
      refine lv_land hx hb dX2_has_28 ?_
      refine lv_lconst (v := 0) hx hb dX2_has_29 (by decide) ?_
      refine W.lcmp hx hb dX2_has_30 ?_
      refine lv_if_eq (tgt := 38) hx hb dX2_has_31 rfl (fun c8 => ?_) (fun c8 => ?_)
      · have hf := q_t c8 hf
        refine lv_iconst (v := 0) hx hb dX2_has_38 (by decide) ?_
        obtain rfl := q_s hf
        exact J3 _ _ _ hw (lv_sub hl [] rfl)
      · have hf := q_f c8 hf
        refine lv_iconst (v := 1) hx hb dX2_has_34 (by decide) ?_
        refine lv_goto (tgt := 39) hx hb dX2_has_35 rfl ?_
        obtain rfl := q_s hf
        exact J3 _ _ _ hw (lv_sub hl [] rfl)
def f_X2_has_5 (n : Nat) (x : SX) (a1 : Int32) : Option (Int32) := (qnm (a1 >>> ((6 : Int32) &&& 31)) fun v1 => (qbd (if v1 < 0 then some (0 : Int32) else (if (229 : Int32) ≤ v1 then some (0 : Int32) else (qgd (qin v1 229) ((if (lg_cmp ((((x.2 40 v1.toNatClampNeg).toUInt64 >>> ((a1 &&& (63 : Int32)).toInt64.toUInt64 &&& Int64.toUInt64 63)).toInt64) &&& (1 : Int64)) (0 : Int64)) = 0 then some (0 : Int32) else some (1 : Int32)))))) fun v2 => (qgd (qz v2) (some v2))))
set_option maxHeartbeats 4000000 in
set_option maxRecDepth 100000 in
theorem t_X2_has_5 {G : gG} {l : Launch} {ad : Nat → Nat} {n : Nat} {x : SX} {a1 : Int32} {rv : Int32} (hf : f_X2_has_5 n x a1 = some rv) : MetI G l yX2_has cX2_has 3 (some .boolean) 0 0 0 0 [.ref (ad 5), .int a1] (wX G ad x) (wX G ad x) rv := by
  refine k_ofI (by decide) (Nat.le_of_ble_eq_true rfl) ?_
  intro p e s m args below meth c ls A F hr hlk hl hw
  have hx := F.1
  have hb := F.2.1
  have hl : lv_has ls 3 [(0, .ref (ad 5)), (1, .int a1)] := hl
  unfold f_X2_has_5 at hf
  refine lv_iload_n hx hb dX2_has_0 rfl (lv_at hl 1 rfl) ?_
  refine lv_bipush (v := 6) hx hb dX2_has_1 (by decide) ?_
  refine lv_ishr hx hb dX2_has_3 ?_
  refine lv_topi (fun v1 ev1 => ?_)
  have hf := qnm_k ev1 hf
  refine lv_istore_n (lv' := [(2, .int v1), (0, .ref (ad 5)), (1, .int a1)]) hx hb dX2_has_4 rfl hl (Nat.le_of_ble_eq_true rfl) rfl (fun ls hl => ?_)
  refine lv_iload_n hx hb dX2_has_5 rfl (lv_at hl 0 rfl) ?_
  obtain ⟨v2, hq9, hf⟩ := qbd_e hf
  have J3 : ∀ (H : Heap) (locs : List Loc) (ls : Array Slot), Wd G (wX G ad x) A s H locs → lv_has ls 3 [] → W p l e (rmk 0 0 0 0) s m args below meth c H locs 0 0 (KQI G below args s A (wX G ad x) rv 0 0) (F0 m 39 ls [.int v2]) := by
    intro H locs ls hw hl
    obtain ⟨g4, hf⟩ := qgd_e hf
    obtain rfl := q_s hf
    exact k_zret F hr hlk hw (qz_n g4) (Nat.le_of_ble_eq_true rfl) (Nat.le_of_ble_eq_true rfl) dX2_has_39
  have hf := hq9
  refine lv_if_lt (tgt := 38) hx hb dX2_has_6 rfl (fun c5 => ?_) (fun c5 => ?_)
  · have hf := q_t c5 hf
    refine lv_iconst (v := 0) hx hb dX2_has_38 (by decide) ?_
    obtain rfl := q_s hf
    exact J3 _ _ _ hw (lv_sub hl [] rfl)
  · have hf := q_f c5 hf
    refine lv_iload_n hx hb dX2_has_9 rfl (lv_at hl 0 rfl) ?_
    refine lv_sipush (v := 229) hx hb dX2_has_10 (by decide) ?_
    refine lv_icmp_ge (tgt := 38) hx hb dX2_has_13 rfl (fun c6 => ?_) (fun c6 => ?_)
    · have hf := q_t c6 hf
      refine lv_iconst (v := 0) hx hb dX2_has_38 (by decide) ?_
      obtain rfl := q_s hf
      exact J3 _ _ _ hw (lv_sub hl [] rfl)
    · have hf := q_f c6 hf
      refine lv_aload_n hx hb dX2_has_16 rfl (lv_at hl 1 rfl) ?_
      refine X_g_5_0 F ws_in hw fl_X2_11 dX2_has_17 ?_
      refine lv_iload_n hx hb dX2_has_20 rfl (lv_at hl 0 rfl) ?_
      obtain ⟨g7, hf⟩ := qgd_e hf
      refine X_l_40 F hw g7 dX2_has_21 ?_
      refine lv_iload_n hx hb dX2_has_22 rfl (lv_at hl 2 rfl) ?_
      refine lv_bipush (v := 63) hx hb dX2_has_23 (by decide) ?_
      refine lv_iand hx hb dX2_has_25 ?_
      refine lv_lushr hx hb dX2_has_26 rfl ?_
      refine lv_lconst (v := 1) hx hb dX2_has_27 (by decide) ?_
      refine lv_land hx hb dX2_has_28 ?_
      refine lv_lconst (v := 0) hx hb dX2_has_29 (by decide) ?_
      refine W.lcmp hx hb dX2_has_30 ?_
      refine lv_if_eq (tgt := 38) hx hb dX2_has_31 rfl (fun c8 => ?_) (fun c8 => ?_)
      · have hf := q_t c8 hf
        refine lv_iconst (v := 0) hx hb dX2_has_38 (by decide) ?_
        obtain rfl := q_s hf
        exact J3 _ _ _ hw (lv_sub hl [] rfl)
      · have hf := q_f c8 hf
        refine lv_iconst (v := 1) hx hb dX2_has_34 (by decide) ?_
        refine lv_goto (tgt := 39) hx hb dX2_has_35 rfl ?_
        obtain rfl := q_s hf
        exact J3 _ _ _ hw (lv_sub hl [] rfl)
def f_X6_pastStatus (n : Nat) (x : SX) (a1 : Int32) : Option (Int32) := (qbd (f_X2_has_5 n x a1) fun r1 => (if r1 = 0 then (qbd (f_X2_has_6 n x a1) fun r4 => (qbd (if r4 = 0 then some (0 : Int32) else some (1 : Int32)) fun v6 => some v6)) else some (2 : Int32)))
set_option maxHeartbeats 4000000 in
set_option maxRecDepth 100000 in
theorem t_X6_pastStatus {G : gG} {l : Launch} {ad : Nat → Nat} {n : Nat} {x : SX} {a1 : Int32} {rv : Int32} (hf : f_X6_pastStatus n x a1 = some rv) : MetI G l yX6_pastStatus cX6_pastStatus 2 (some .int) 1 0 0 22 [.ref (ad 0), .int a1] (wX G ad x) (wX G ad x) rv := by
  refine k_ofI (by decide) (Nat.le_of_ble_eq_true rfl) ?_
  intro p e s m args below meth c ls A F hr hlk hl hw
  have hx := F.1
  have hb := F.2.1
  have hl : lv_has ls 2 [(0, .ref (ad 0)), (1, .int a1)] := hl
  unfold f_X6_pastStatus at hf
  refine lv_aload_n hx hb dX6_pastStatus_0 rfl (lv_at hl 0 rfl) ?_
  refine X_g_0_4 F ws_in hw fl_X6_40 dX6_pastStatus_1 ?_
  refine lv_iload_n hx hb dX6_pastStatus_4 rfl (lv_at hl 1 rfl) ?_
  obtain ⟨r1, h2, hf⟩ := qbd_e hf
  refine k_callVi' (rest := []) (As := [.int a1]) F ws_in (t_X2_has_5 h2) cv_X2_has ml_X6_355 hw 5 rfl rfl rfl hl.1 rfl (Nat.le_of_ble_eq_true rfl) ⟨Nat.le_of_ble_eq_true rfl, Nat.le_of_ble_eq_true rfl⟩ ⟨Nat.le_of_ble_eq_true rfl, Nat.le_of_ble_eq_true rfl⟩ dX6_pastStatus_5 (fun H locs hw => ?_)
  refine lv_if_eq (tgt := 13) hx hb dX6_pastStatus_8 rfl (fun c3 => ?_) (fun c3 => ?_)
  · have hf := q_t c3 hf
    refine lv_aload_n hx hb dX6_pastStatus_13 rfl (lv_at hl 0 rfl) ?_
    refine X_g_0_5 F ws_in hw fl_X6_44 dX6_pastStatus_14 ?_
    refine lv_iload_n hx hb dX6_pastStatus_17 rfl (lv_at hl 1 rfl) ?_
    obtain ⟨r4, h5, hf⟩ := qbd_e hf
    refine k_callVi' (rest := []) (As := [.int a1]) F ws_in (t_X2_has_6 h5) cv_X2_has ml_X6_355 hw 6 rfl rfl rfl hl.1 rfl (Nat.le_of_ble_eq_true rfl) ⟨Nat.le_of_ble_eq_true rfl, Nat.le_of_ble_eq_true rfl⟩ ⟨Nat.le_of_ble_eq_true rfl, Nat.le_of_ble_eq_true rfl⟩ dX6_pastStatus_18 (fun H locs hw => ?_)
    obtain ⟨v6, hq9, hf⟩ := qbd_e hf
    have J7 : ∀ (H : Heap) (locs : List Loc) (ls : Array Slot), Wd G (wX G ad x) A s H locs → lv_has ls 2 [] → W p l e (rmk 1 0 0 22) s m args below meth c H locs 0 0 (KQI G below args s A (wX G ad x) rv 0 0) (F0 m 29 ls [.int v6]) := by
      intro H locs ls hw hl
      obtain rfl := q_s hf
      exact k_iret F hr hlk hw (Nat.le_of_ble_eq_true rfl) (Nat.le_of_ble_eq_true rfl) dX6_pastStatus_29
    have hf := hq9
    refine lv_if_eq (tgt := 28) hx hb dX6_pastStatus_21 rfl (fun c8 => ?_) (fun c8 => ?_)
    · have hf := q_t c8 hf
      refine lv_iconst (v := 0) hx hb dX6_pastStatus_28 (by decide) ?_
      obtain rfl := q_s hf
      exact J7 _ _ _ hw (lv_sub hl [] rfl)
    · have hf := q_f c8 hf
      refine lv_iconst (v := 1) hx hb dX6_pastStatus_24 (by decide) ?_
      refine lv_goto (tgt := 29) hx hb dX6_pastStatus_25 rfl ?_
      obtain rfl := q_s hf
      exact J7 _ _ _ hw (lv_sub hl [] rfl)
  · have hf := q_f c3 hf
    refine lv_iconst (v := 2) hx hb dX6_pastStatus_11 (by decide) ?_
    obtain rfl := q_s hf
    exact k_iret F hr hlk hw (Nat.le_of_ble_eq_true rfl) (Nat.le_of_ble_eq_true rfl) dX6_pastStatus_12
def f_X6_statusOn (n : Nat) (x : SX) (a1 : Int32) : Option (Nat × Int32) := (if a1 < 0 then some (1, (0 : Int32)) else (if a1 < (x.1 0 8) then (qbd (f_X6_pastStatus n x a1) fun r3 => some (0, r3)) else some (1, (0 : Int32))))
set_option maxHeartbeats 4000000 in
set_option maxRecDepth 100000 in
theorem t_X6_statusOn {G : gG} {l : Launch} (hlt : l.stackTraces = false) {ad : Nat → Nat} {n : Nat} {x : SX} {a1 : Int32} {k0 : Nat} {rv : Int32} (hf : f_X6_statusOn n x a1 = some (k0, rv)) : MetXI G l yX6_statusOn cX6_statusOn 2 (some .int) 6 1 6 100 [.ref (ad 0), .int a1] (wX G ad x) (wX G ad x) k0 rv := by
  refine k_ofXI (by decide) (Nat.le_of_ble_eq_true rfl) ?_
  intro p e s m args below meth c ls A F hr hlk hout hl hw hZ
  have hx := F.1
  have hb := F.2.1
  have hl : lv_has ls 2 [(0, .ref (ad 0)), (1, .int a1)] := hl
  unfold f_X6_statusOn at hf
  refine lv_iload_n hx hb dX6_statusOn_0 rfl (lv_at hl 1 rfl) ?_
  refine lv_if_lt (tgt := 12) hx hb dX6_statusOn_1 rfl (fun c1 => ?_) (fun c1 => ?_)
  · have hf := q_t c1 hf
    obtain ⟨rfl, rfl⟩ := q_s2 hf
    exact k_throwI F hlt hlk hout ws_in hZ hw hl.1 (by decide) (by decide) thc_1 thi_1 tha_1 ⟨Nat.le_of_ble_eq_true rfl, Nat.le_of_ble_eq_true rfl, Nat.le_of_ble_eq_true rfl, Nat.le_of_ble_eq_true rfl⟩ (Nat.le_of_ble_eq_true rfl) (Nat.le_of_ble_eq_true rfl) dX6_statusOn_12 dX6_statusOn_15 dX6_statusOn_16 dX6_statusOn_19
  · have hf := q_f c1 hf
    refine lv_iload_n hx hb dX6_statusOn_4 rfl (lv_at hl 1 rfl) ?_
    refine lv_aload_n hx hb dX6_statusOn_5 rfl (lv_at hl 0 rfl) ?_
    refine X_g_0_8 F ws_in hw fl_X6_92 dX6_statusOn_6 ?_
    refine lv_icmp_lt (tgt := 20) hx hb dX6_statusOn_9 rfl (fun c2 => ?_) (fun c2 => ?_)
    · have hf := q_t c2 hf
      refine lv_aload_n hx hb dX6_statusOn_20 rfl (lv_at hl 0 rfl) ?_
      refine lv_iload_n hx hb dX6_statusOn_21 rfl (lv_at hl 1 rfl) ?_
      obtain ⟨r3, h4, hf⟩ := qbd_e hf
      refine k_callVi' (rest := []) (As := [.int a1]) F ws_in (t_X6_pastStatus h4) cv_X6_pastStatus ml_X6_269 hw 0 rfl rfl rfl hl.1 rfl (Nat.le_of_ble_eq_true rfl) ⟨Nat.le_of_ble_eq_true rfl, Nat.le_of_ble_eq_true rfl⟩ ⟨Nat.le_of_ble_eq_true rfl, Nat.le_of_ble_eq_true rfl⟩ dX6_statusOn_22 (fun H locs hw => ?_)
      obtain ⟨rfl, rfl⟩ := q_s2 hf
      exact k_xiret F hr hlk hw rfl (Nat.le_of_ble_eq_true rfl) (Nat.le_of_ble_eq_true rfl) dX6_statusOn_25
    · have hf := q_f c2 hf
      obtain ⟨rfl, rfl⟩ := q_s2 hf
      exact k_throwI F hlt hlk hout ws_in hZ hw hl.1 (by decide) (by decide) thc_1 thi_1 tha_1 ⟨Nat.le_of_ble_eq_true rfl, Nat.le_of_ble_eq_true rfl, Nat.le_of_ble_eq_true rfl, Nat.le_of_ble_eq_true rfl⟩ (Nat.le_of_ble_eq_true rfl) (Nat.le_of_ble_eq_true rfl) dX6_statusOn_12 dX6_statusOn_15 dX6_statusOn_16 dX6_statusOn_19
def f_X6_termIsConsistent (n : Nat) (x : SX) (a1 : Int32) : Option (Int32 × SX) := (qbd (f_X6_releaseIn n x a1) fun r1 => (qgd (qin a1 10) ((qbd2 (f_X6_mergedCredit n x a1) fun r4 x5 => (qbd (if (x.1 24 a1.toNatClampNeg) = r4 then (qbd (f_X6_servedRelease n x5 a1) fun r11 => (if r1 = r11 then (qbd (f_X5_endOf n x5 a1) fun r14 => (if r14 < r1 then some (0 : Int32) else some (1 : Int32))) else some (0 : Int32))) else some (0 : Int32)) fun v7 => (qgd (qz v7) (some (v7, x5))))))))
set_option maxHeartbeats 4000000 in
set_option maxRecDepth 100000 in
theorem t_X6_termIsConsistent {G : gG} {l : Launch} {ad : Nat → Nat} {n : Nat} {x : SX} {a1 : Int32} {rv : Int32} {xr : SX} (hf : f_X6_termIsConsistent n x a1 = some (rv, xr)) : MetI G l yX6_termIsConsistent cX6_termIsConsistent 3 (some .boolean) 5 0 0 126 [.ref (ad 0), .int a1] (wX G ad x) (wX G ad xr) rv := by
  refine k_ofI (by decide) (Nat.le_of_ble_eq_true rfl) ?_
  intro p e s m args below meth c ls A F hr hlk hl hw
  have hx := F.1
  have hb := F.2.1
  have hl : lv_has ls 3 [(0, .ref (ad 0)), (1, .int a1)] := hl
  unfold f_X6_termIsConsistent at hf
  refine lv_aload_n hx hb dX6_termIsConsistent_0 rfl (lv_at hl 0 rfl) ?_
  refine lv_iload_n hx hb dX6_termIsConsistent_1 rfl (lv_at hl 1 rfl) ?_
  obtain ⟨r1, h2, hf⟩ := qbd_e hf
  refine k_callVi' (rest := []) (As := [.int a1]) F ws_in (t_X6_releaseIn h2) cv_X6_releaseIn ml_X6_136 hw 0 rfl rfl rfl hl.1 rfl (Nat.le_of_ble_eq_true rfl) ⟨Nat.le_of_ble_eq_true rfl, Nat.le_of_ble_eq_true rfl⟩ ⟨Nat.le_of_ble_eq_true rfl, Nat.le_of_ble_eq_true rfl⟩ dX6_termIsConsistent_2 (fun H locs hw => ?_)
  refine lv_istore_n (lv' := [(2, .int r1), (0, .ref (ad 0)), (1, .int a1)]) hx hb dX6_termIsConsistent_5 rfl hl (Nat.le_of_ble_eq_true rfl) rfl (fun ls hl => ?_)
  refine lv_aload_n hx hb dX6_termIsConsistent_6 rfl (lv_at hl 1 rfl) ?_
  refine X_g_0_0 F ws_in hw fl_X6_10 dX6_termIsConsistent_7 ?_
  refine X_g_1_14 F ws_in hw fl_X6_155 dX6_termIsConsistent_10 ?_
  refine lv_iload_n hx hb dX6_termIsConsistent_13 rfl (lv_at hl 2 rfl) ?_
  obtain ⟨g3, hf⟩ := qgd_e hf
  refine X_l_24 F hw g3 dX6_termIsConsistent_14 ?_
  refine lv_aload_n hx hb dX6_termIsConsistent_15 rfl (lv_at hl 1 rfl) ?_
  refine lv_iload_n hx hb dX6_termIsConsistent_16 rfl (lv_at hl 2 rfl) ?_
  obtain ⟨r4, x5, h6, hf⟩ := qbd2_e hf
  refine k_callVi' (rest := [.int (x.1 24 a1.toNatClampNeg)]) (As := [.int a1]) F ws_in (t_X6_mergedCredit h6) cv_X6_mergedCredit ml_X6_228 hw 0 rfl rfl rfl hl.1 rfl (Nat.le_of_ble_eq_true rfl) ⟨Nat.le_of_ble_eq_true rfl, Nat.le_of_ble_eq_true rfl⟩ ⟨Nat.le_of_ble_eq_true rfl, Nat.le_of_ble_eq_true rfl⟩ dX6_termIsConsistent_17 (fun H locs hw => ?_)
  obtain ⟨v7, hq17, hf⟩ := qbd_e hf
  have J8 : ∀ (H : Heap) (locs : List Loc) (ls : Array Slot), Wd G (wX G ad x5) A s H locs → lv_has ls 3 [] → W p l e (rmk 5 0 0 126) s m args below meth c H locs 0 0 (KQI G below args s A (wX G ad xr) rv 0 0) (F0 m 49 ls [.int v7]) := by
    intro H locs ls hw hl
    obtain ⟨g9, hf⟩ := qgd_e hf
    obtain ⟨rfl, rfl⟩ := q_s2 hf
    exact k_zret F hr hlk hw (qz_n g9) (Nat.le_of_ble_eq_true rfl) (Nat.le_of_ble_eq_true rfl) dX6_termIsConsistent_49
  have hf := hq17
  refine lv_icmp_ne (tgt := 48) hx hb dX6_termIsConsistent_20 rfl (fun c10 => ?_) (fun c10 => ?_)
  · have hf := q_f c10 hf
    refine lv_iconst (v := 0) hx hb dX6_termIsConsistent_48 (by decide) ?_
    obtain rfl := q_s hf
    exact J8 _ _ _ hw (lv_sub hl [] rfl)
  · have hf := q_t c10 hf
    refine lv_iload_n hx hb dX6_termIsConsistent_23 rfl (lv_at hl 0 rfl) ?_
    refine lv_aload_n hx hb dX6_termIsConsistent_24 rfl (lv_at hl 1 rfl) ?_
    refine lv_iload_n hx hb dX6_termIsConsistent_25 rfl (lv_at hl 2 rfl) ?_
    obtain ⟨r11, h12, hf⟩ := qbd_e hf
    refine k_callVi' (rest := [.int r1]) (As := [.int a1]) F ws_in (t_X6_servedRelease h12) cv_X6_servedRelease ml_X6_234 hw 0 rfl rfl rfl hl.1 rfl (Nat.le_of_ble_eq_true rfl) ⟨Nat.le_of_ble_eq_true rfl, Nat.le_of_ble_eq_true rfl⟩ ⟨Nat.le_of_ble_eq_true rfl, Nat.le_of_ble_eq_true rfl⟩ dX6_termIsConsistent_26 (fun H locs hw => ?_)
    refine lv_icmp_ne (tgt := 48) hx hb dX6_termIsConsistent_29 rfl (fun c13 => ?_) (fun c13 => ?_)
    · have hf := q_f c13 hf
      refine lv_iconst (v := 0) hx hb dX6_termIsConsistent_48 (by decide) ?_
      obtain rfl := q_s hf
      exact J8 _ _ _ hw (lv_sub hl [] rfl)
    · have hf := q_t c13 hf
      refine lv_iload_n hx hb dX6_termIsConsistent_32 rfl (lv_at hl 0 rfl) ?_
      refine lv_aload_n hx hb dX6_termIsConsistent_33 rfl (lv_at hl 1 rfl) ?_
      refine X_g_0_0 F ws_in hw fl_X6_10 dX6_termIsConsistent_34 ?_
      refine lv_iload_n hx hb dX6_termIsConsistent_37 rfl (lv_at hl 2 rfl) ?_
      obtain ⟨r14, h15, hf⟩ := qbd_e hf
      refine k_callVi' (rest := [.int r1]) (As := [.int a1]) F ws_in (t_X5_endOf h15) cv_X5_endOf ml_X6_237 hw 1 rfl rfl rfl hl.1 rfl (Nat.le_of_ble_eq_true rfl) ⟨Nat.le_of_ble_eq_true rfl, Nat.le_of_ble_eq_true rfl⟩ ⟨Nat.le_of_ble_eq_true rfl, Nat.le_of_ble_eq_true rfl⟩ dX6_termIsConsistent_38 (fun H locs hw => ?_)
      refine lv_icmp_gt (tgt := 48) hx hb dX6_termIsConsistent_41 rfl (fun c16 => ?_) (fun c16 => ?_)
      · have hf := q_t c16 hf
        refine lv_iconst (v := 0) hx hb dX6_termIsConsistent_48 (by decide) ?_
        obtain rfl := q_s hf
        exact J8 _ _ _ hw (lv_sub hl [] rfl)
      · have hf := q_f c16 hf
        refine lv_iconst (v := 1) hx hb dX6_termIsConsistent_44 (by decide) ?_
        refine lv_goto (tgt := 49) hx hb dX6_termIsConsistent_45 rfl ?_
        obtain rfl := q_s hf
        exact J8 _ _ _ hw (lv_sub hl [] rfl)
def f_X6_isConsistent_e71 (x1 : SX) (v2 : Int32) : Option (Int32 × SX) := (qbd (if v2 = (x1.1 0 9) then some (1 : Int32) else some (0 : Int32)) fun v3 => (qgd (qz v3) (some (v3, x1))))
def f_X6_isConsistent_l45 (x1 : SX) (n : Nat) : Nat → Int32 → Int32 → Option (Int32 × SX)
  | 0, _, _ => none
  | m + 1, v9, v10 => (if (x1.1 0 8) ≤ v10 then f_X6_isConsistent_e71 x1 v9 else (qbd (f_X6_pastStatus n x1 v10) fun r13 => (qbd (if r13 = (2 : Int32) then (qnm (v9 + (1 : Int32)) fun v19 => some v19) else some v9) fun v15 => (qnm (v10 + (1 : Int32)) fun v17 => (f_X6_isConsistent_l45 x1 n m) v15 v17))))
def f_X6_isConsistent_e41 (n : Nat) (x1 : SX) : Option (Int32 × SX) := f_X6_isConsistent_l45 x1 n n (0 : Int32) (0 : Int32)
def f_X6_isConsistent_l2 (n : Nat) : Nat → Int32 → SX → Option (Int32 × SX)
  | 0, _, _ => none
  | m + 1, v22, x23 => (if (x23.1 1 7) ≤ v22 then f_X6_isConsistent_e41 n x23 else (qgd (qin v22 10) ((if (x23.1 16 v22.toNatClampNeg) = 0 then (qbd2 (f_X6_termIsConsistent n x23 v22) fun r29 x30 => (if r29 = 0 then some ((0 : Int32), x30) else (qnm (v22 + (1 : Int32)) fun v33 => (f_X6_isConsistent_l2 n m) v33 x30))) else (qnm (v22 + (1 : Int32)) fun v28 => (f_X6_isConsistent_l2 n m) v28 x23)))))
def f_X6_isConsistent (n : Nat) (x : SX) : Option (Int32 × SX) := f_X6_isConsistent_l2 n n (0 : Int32) x
set_option maxHeartbeats 4000000 in
set_option maxRecDepth 100000 in
theorem t_X6_isConsistent {G : gG} {l : Launch} {ad : Nat → Nat} {n : Nat} {x : SX} {rv : Int32} {xr : SX} (hf : f_X6_isConsistent n x = some (rv, xr)) : MetI G l yX6_isConsistent cX6_isConsistent 3 (some .boolean) 6 0 0 148 [.ref (ad 0)] (wX G ad x) (wX G ad xr) rv := by
  refine k_ofI (by decide) (Nat.le_of_ble_eq_true rfl) ?_
  intro p e s m args below meth c ls A F hr hlk hl hw
  have hx := F.1
  have hb := F.2.1
  have hl : lv_has ls 3 [(0, .ref (ad 0))] := hl
  unfold f_X6_isConsistent at hf
  refine lv_iconst (v := 0) hx hb dX6_isConsistent_0 (by decide) ?_
  refine lv_istore_n (lv' := [(1, .int (0 : Int32)), (0, .ref (ad 0))]) hx hb dX6_isConsistent_1 rfl hl (Nat.le_of_ble_eq_true rfl) rfl (fun ls hl => ?_)
  have E21 : ∀ (x1 : SX) (H : Heap) (locs : List Loc) (ls : Array Slot), Wd G (wX G ad x1) A s H locs → lv_has ls 3 [(0, .ref (ad 0))] → f_X6_isConsistent_e41 n x1 = some (rv, xr) → W p l e (rmk 6 0 0 148) s m args below meth c H locs 0 0 (KQI G below args s A (wX G ad xr) rv 0 0) (F0 m 41 ls []) := by
    intro x1 H locs ls hw hl hf
    unfold f_X6_isConsistent_e41 at hf
    refine lv_iconst (v := 0) hx hb dX6_isConsistent_41 (by decide) ?_
    refine lv_istore_n (lv' := [(1, .int (0 : Int32)), (0, .ref (ad 0))]) hx hb dX6_isConsistent_42 rfl hl (Nat.le_of_ble_eq_true rfl) rfl (fun ls hl => ?_)
    refine lv_iconst (v := 0) hx hb dX6_isConsistent_43 (by decide) ?_
    refine lv_istore_n (lv' := [(2, .int (0 : Int32)), (1, .int (0 : Int32)), (0, .ref (ad 0))]) hx hb dX6_isConsistent_44 rfl hl (Nat.le_of_ble_eq_true rfl) rfl (fun ls hl => ?_)
    have E8 : ∀ (v2 : Int32) (H : Heap) (locs : List Loc) (ls : Array Slot), Wd G (wX G ad x1) A s H locs → lv_has ls 3 [(0, .ref (ad 0)), (1, .int v2)] → f_X6_isConsistent_e71 x1 v2 = some (rv, xr) → W p l e (rmk 6 0 0 148) s m args below meth c H locs 0 0 (KQI G below args s A (wX G ad xr) rv 0 0) (F0 m 71 ls []) := by
      intro v2 H locs ls hw hl hf
      unfold f_X6_isConsistent_e71 at hf
      refine lv_iload_n hx hb dX6_isConsistent_71 rfl (lv_at hl 1 rfl) ?_
      refine lv_aload_n hx hb dX6_isConsistent_72 rfl (lv_at hl 0 rfl) ?_
      refine X_g_0_9 F ws_in hw fl_X6_113 dX6_isConsistent_73 ?_
      obtain ⟨v3, hq7, hf⟩ := qbd_e hf
      have J4 : ∀ (H : Heap) (locs : List Loc) (ls : Array Slot), Wd G (wX G ad x1) A s H locs → lv_has ls 3 [] → W p l e (rmk 6 0 0 148) s m args below meth c H locs 0 0 (KQI G below args s A (wX G ad xr) rv 0 0) (F0 m 84 ls [.int v3]) := by
        intro H locs ls hw hl
        obtain ⟨g5, hf⟩ := qgd_e hf
        obtain ⟨rfl, rfl⟩ := q_s2 hf
        exact k_zret F hr hlk hw (qz_n g5) (Nat.le_of_ble_eq_true rfl) (Nat.le_of_ble_eq_true rfl) dX6_isConsistent_84
      have hf := hq7
      refine lv_icmp_ne (tgt := 83) hx hb dX6_isConsistent_76 rfl (fun c6 => ?_) (fun c6 => ?_)
      · have hf := q_f c6 hf
        refine lv_iconst (v := 0) hx hb dX6_isConsistent_83 (by decide) ?_
        obtain rfl := q_s hf
        exact J4 _ _ _ hw (lv_sub hl [] rfl)
      · have hf := q_t c6 hf
        refine lv_iconst (v := 1) hx hb dX6_isConsistent_79 (by decide) ?_
        refine lv_goto (tgt := 84) hx hb dX6_isConsistent_80 rfl ?_
        obtain rfl := q_s hf
        exact J4 _ _ _ hw (lv_sub hl [] rfl)
    have L11 : ∀ (m0 : Nat) (v9 : Int32) (v10 : Int32) (H : Heap) (locs : List Loc) (ls : Array Slot), Wd G (wX G ad x1) A s H locs → lv_has ls 3 [(0, .ref (ad 0)), (1, .int v9), (2, .int v10)] → f_X6_isConsistent_l45 x1 n m0 v9 v10 = some (rv, xr) → W p l e (rmk 6 0 0 148) s m args below meth c H locs 0 0 (KQI G below args s A (wX G ad xr) rv 0 0) (F0 m 45 ls []) := by
      intro m0
      induction m0 with
      | zero => intro v9 v10 H locs ls hw hl hf; cases hf
      | succ mL11 ih11 =>
        intro v9 v10 H locs ls hw hl hf
        unfold f_X6_isConsistent_l45 at hf
        refine lv_iload_n hx hb dX6_isConsistent_45 rfl (lv_at hl 2 rfl) ?_
        refine lv_aload_n hx hb dX6_isConsistent_46 rfl (lv_at hl 0 rfl) ?_
        refine X_g_0_8 F ws_in hw fl_X6_92 dX6_isConsistent_47 ?_
        refine lv_icmp_ge (tgt := 71) hx hb dX6_isConsistent_50 rfl (fun c12 => ?_) (fun c12 => ?_)
        · have hf := q_t c12 hf
          exact E8 v9 _ _ _ hw (lv_sub hl [0, 1] rfl) hf
        · have hf := q_f c12 hf
          refine lv_aload_n hx hb dX6_isConsistent_53 rfl (lv_at hl 0 rfl) ?_
          refine lv_iload_n hx hb dX6_isConsistent_54 rfl (lv_at hl 2 rfl) ?_
          obtain ⟨r13, h14, hf⟩ := qbd_e hf
          refine k_callVi' (rest := []) (As := [.int v10]) F ws_in (t_X6_pastStatus h14) cv_X6_pastStatus ml_X6_269 hw 0 rfl rfl rfl hl.1 rfl (Nat.le_of_ble_eq_true rfl) ⟨Nat.le_of_ble_eq_true rfl, Nat.le_of_ble_eq_true rfl⟩ ⟨Nat.le_of_ble_eq_true rfl, Nat.le_of_ble_eq_true rfl⟩ dX6_isConsistent_55 (fun H locs hw => ?_)
          refine lv_iconst (v := 2) hx hb dX6_isConsistent_58 (by decide) ?_
          obtain ⟨v15, hq20, hf⟩ := qbd_e hf
          have J16 : ∀ (H : Heap) (locs : List Loc) (ls : Array Slot), Wd G (wX G ad x1) A s H locs → lv_has ls 3 [(0, .ref (ad 0)), (1, .int v15), (2, .int v10)] → W p l e (rmk 6 0 0 148) s m args below meth c H locs 0 0 (KQI G below args s A (wX G ad xr) rv 0 0) (F0 m 65 ls []) := by
            intro H locs ls hw hl
            obtain ⟨v17, ev17⟩ : ∃ y : Int32, y = v10 + (1 : Int32) := ⟨_, rfl⟩
            refine lv_iinc (v := v17) (lv' := [(2, .int v17), (0, .ref (ad 0)), (1, .int v15)]) hx hb dX6_isConsistent_65 hl (k := 2) rfl (by rw [ev17]; rfl) (Nat.le_of_ble_eq_true rfl) rfl (fun ls hl => ?_)
            have hf := qnm_k ev17 hf
            refine lv_goto (tgt := 45) hx hb dX6_isConsistent_68 rfl ?_
            exact ih11 v15 v17 _ _ _ hw (lv_sub hl [1, 2, 0] rfl) hf
          have hf := hq20
          refine lv_icmp_ne (tgt := 65) hx hb dX6_isConsistent_59 rfl (fun c18 => ?_) (fun c18 => ?_)
          · have hf := q_f c18 hf
            obtain rfl := q_s hf
            exact J16 _ _ _ hw (lv_sub hl [0, 1, 2] rfl)
          · have hf := q_t c18 hf
            obtain ⟨v19, ev19⟩ : ∃ y : Int32, y = v9 + (1 : Int32) := ⟨_, rfl⟩
            refine lv_iinc (v := v19) (lv' := [(1, .int v19), (0, .ref (ad 0)), (2, .int v10)]) hx hb dX6_isConsistent_62 hl (k := 1) rfl (by rw [ev19]; rfl) (Nat.le_of_ble_eq_true rfl) rfl (fun ls hl => ?_)
            have hf := qnm_k ev19 hf
            obtain rfl := q_s hf
            exact J16 _ _ _ hw (lv_sub hl [1, 0, 2] rfl)
    exact L11 n (0 : Int32) (0 : Int32) _ _ _ hw (lv_sub hl [2, 1, 0] rfl) hf
  have L24 : ∀ (m0 : Nat) (v22 : Int32) (x23 : SX) (H : Heap) (locs : List Loc) (ls : Array Slot), Wd G (wX G ad x23) A s H locs → lv_has ls 3 [(0, .ref (ad 0)), (1, .int v22)] → f_X6_isConsistent_l2 n m0 v22 x23 = some (rv, xr) → W p l e (rmk 6 0 0 148) s m args below meth c H locs 0 0 (KQI G below args s A (wX G ad xr) rv 0 0) (F0 m 2 ls []) := by
    intro m0
    induction m0 with
    | zero => intro v22 x23 H locs ls hw hl hf; cases hf
    | succ mL24 ih24 =>
      intro v22 x23 H locs ls hw hl hf
      unfold f_X6_isConsistent_l2 at hf
      refine lv_iload_n hx hb dX6_isConsistent_2 rfl (lv_at hl 1 rfl) ?_
      refine lv_aload_n hx hb dX6_isConsistent_3 rfl (lv_at hl 0 rfl) ?_
      refine X_g_0_0 F ws_in hw fl_X6_10 dX6_isConsistent_4 ?_
      refine X_g_1_7 F ws_in hw fl_X6_198 dX6_isConsistent_7 ?_
      refine lv_icmp_ge (tgt := 41) hx hb dX6_isConsistent_10 rfl (fun c25 => ?_) (fun c25 => ?_)
      · have hf := q_t c25 hf
        exact E21 x23 _ _ _ hw (lv_sub hl [0] rfl) hf
      · have hf := q_f c25 hf
        refine lv_aload_n hx hb dX6_isConsistent_13 rfl (lv_at hl 0 rfl) ?_
        refine X_g_0_0 F ws_in hw fl_X6_10 dX6_isConsistent_14 ?_
        refine X_g_1_6 F ws_in hw fl_X6_132 dX6_isConsistent_17 ?_
        refine lv_iload_n hx hb dX6_isConsistent_20 rfl (lv_at hl 1 rfl) ?_
        obtain ⟨g26, hf⟩ := qgd_e hf
        refine X_l_16 F hw g26 dX6_isConsistent_21 ?_
        refine lv_if_ne (tgt := 35) hx hb dX6_isConsistent_22 rfl (fun c27 => ?_) (fun c27 => ?_)
        · have hf := q_f c27 hf
          obtain ⟨v28, ev28⟩ : ∃ y : Int32, y = v22 + (1 : Int32) := ⟨_, rfl⟩
          refine lv_iinc (v := v28) (lv' := [(1, .int v28), (0, .ref (ad 0))]) hx hb dX6_isConsistent_35 hl (k := 1) rfl (by rw [ev28]; rfl) (Nat.le_of_ble_eq_true rfl) rfl (fun ls hl => ?_)
          have hf := qnm_k ev28 hf
          refine lv_goto (tgt := 2) hx hb dX6_isConsistent_38 rfl ?_
          exact ih24 v28 x23 _ _ _ hw (lv_sub hl [1, 0] rfl) hf
        · have hf := q_t c27 hf
          refine lv_aload_n hx hb dX6_isConsistent_25 rfl (lv_at hl 0 rfl) ?_
          refine lv_iload_n hx hb dX6_isConsistent_26 rfl (lv_at hl 1 rfl) ?_
          obtain ⟨r29, x30, h31, hf⟩ := qbd2_e hf
          refine k_callVi' (rest := []) (As := [.int v22]) F ws_in (t_X6_termIsConsistent h31) cv_X6_termIsConsistent ml_X6_285 hw 0 rfl rfl rfl hl.1 rfl (Nat.le_of_ble_eq_true rfl) ⟨Nat.le_of_ble_eq_true rfl, Nat.le_of_ble_eq_true rfl⟩ ⟨Nat.le_of_ble_eq_true rfl, Nat.le_of_ble_eq_true rfl⟩ dX6_isConsistent_27 (fun H locs hw => ?_)
          refine lv_if_ne (tgt := 35) hx hb dX6_isConsistent_30 rfl (fun c32 => ?_) (fun c32 => ?_)
          · have hf := q_f c32 hf
            obtain ⟨v33, ev33⟩ : ∃ y : Int32, y = v22 + (1 : Int32) := ⟨_, rfl⟩
            refine lv_iinc (v := v33) (lv' := [(1, .int v33), (0, .ref (ad 0))]) hx hb dX6_isConsistent_35 hl (k := 1) rfl (by rw [ev33]; rfl) (Nat.le_of_ble_eq_true rfl) rfl (fun ls hl => ?_)
            have hf := qnm_k ev33 hf
            refine lv_goto (tgt := 2) hx hb dX6_isConsistent_38 rfl ?_
            exact ih24 v33 x30 _ _ _ hw (lv_sub hl [1, 0] rfl) hf
          · have hf := q_t c32 hf
            refine lv_iconst (v := 0) hx hb dX6_isConsistent_33 (by decide) ?_
            obtain ⟨rfl, rfl⟩ := q_s2 hf
            exact k_zret F hr hlk hw rfl (Nat.le_of_ble_eq_true rfl) (Nat.le_of_ble_eq_true rfl) dX6_isConsistent_34
  exact L24 n (0 : Int32) x _ _ _ hw (lv_sub hl [1, 0] rfl) hf
def f_X7_thrown (n : Nat) (x : SX) : Option (Int32) := some (x.1 0 0)
set_option maxHeartbeats 4000000 in
set_option maxRecDepth 100000 in
theorem t_X7_thrown {G : gG} {l : Launch} {ad : Nat → Nat} {n : Nat} {x : SX} {rv : Int32} (hf : f_X7_thrown n x = some rv) : MetI G l yX7_thrown cX7_thrown 1 (some .int) 0 0 0 0 [.ref (ad 0)] (wM G ad x) (wM G ad x) rv := by
  refine k_ofI (by decide) (Nat.le_of_ble_eq_true rfl) ?_
  intro p e s m args below meth c ls A F hr hlk hl hw
  have hx := F.1
  have hb := F.2.1
  have hl : lv_has ls 1 [(0, .ref (ad 0))] := hl
  unfold f_X7_thrown at hf
  refine lv_aload_n hx hb dX7_thrown_0 rfl (lv_at hl 0 rfl) ?_
  refine M_g_0_0 F ws_in hw fl_X7_93 dX7_thrown_1 ?_
  obtain rfl := q_s hf
  exact k_iret F hr hlk hw (Nat.le_of_ble_eq_true rfl) (Nat.le_of_ble_eq_true rfl) dX7_thrown_4
def f_X7_in (n : Nat) (a1 : Int32) (a2 : Int32) (a3 : Int32) : Option (Int32) := (qbd (if a1 < a2 then some (0 : Int32) else (if a3 < a1 then some (0 : Int32) else some (1 : Int32))) fun v1 => (qgd (qz v1) (some v1)))
set_option maxHeartbeats 4000000 in
set_option maxRecDepth 100000 in
theorem t_X7_in {G : gG} {l : Launch} {n : Nat} {a1 : Int32} {a2 : Int32} {a3 : Int32} {rv : Int32} (hf : f_X7_in n a1 a2 a3 = some rv) : MetI G l yX7_in cX7_in 3 (some .boolean) 0 0 0 0 [.int a1, .int a2, .int a3] (([] : va_W)) (([] : va_W)) rv := by
  refine k_ofI (by decide) (Nat.le_of_ble_eq_true rfl) ?_
  intro p e s m args below meth c ls A F hr hlk hl hw
  have hx := F.1
  have hb := F.2.1
  have hl : lv_has ls 3 [(0, .int a1), (1, .int a2), (2, .int a3)] := hl
  unfold f_X7_in at hf
  refine lv_iload_n hx hb dX7_in_0 rfl (lv_at hl 0 rfl) ?_
  refine lv_iload_n hx hb dX7_in_1 rfl (lv_at hl 1 rfl) ?_
  obtain ⟨v1, hq6, hf⟩ := qbd_e hf
  have J2 : ∀ (H : Heap) (locs : List Loc) (ls : Array Slot), Wd G (([] : va_W)) A s H locs → lv_has ls 3 [] → W p l e (rmk 0 0 0 0) s m args below meth c H locs 0 0 (KQI G below args s A (([] : va_W)) rv 0 0) (F0 m 15 ls [.int v1]) := by
    intro H locs ls hw hl
    obtain ⟨g3, hf⟩ := qgd_e hf
    obtain rfl := q_s hf
    exact k_zret F hr hlk hw (qz_n g3) (Nat.le_of_ble_eq_true rfl) (Nat.le_of_ble_eq_true rfl) dX7_in_15
  have hf := hq6
  refine lv_icmp_lt (tgt := 14) hx hb dX7_in_2 rfl (fun c4 => ?_) (fun c4 => ?_)
  · have hf := q_t c4 hf
    refine lv_iconst (v := 0) hx hb dX7_in_14 (by decide) ?_
    obtain rfl := q_s hf
    exact J2 _ _ _ hw (lv_sub hl [] rfl)
  · have hf := q_f c4 hf
    refine lv_iload_n hx hb dX7_in_5 rfl (lv_at hl 0 rfl) ?_
    refine lv_iload_n hx hb dX7_in_6 rfl (lv_at hl 2 rfl) ?_
    refine lv_icmp_gt (tgt := 14) hx hb dX7_in_7 rfl (fun c5 => ?_) (fun c5 => ?_)
    · have hf := q_t c5 hf
      refine lv_iconst (v := 0) hx hb dX7_in_14 (by decide) ?_
      obtain rfl := q_s hf
      exact J2 _ _ _ hw (lv_sub hl [] rfl)
    · have hf := q_f c5 hf
      refine lv_iconst (v := 1) hx hb dX7_in_10 (by decide) ?_
      refine lv_goto (tgt := 15) hx hb dX7_in_11 rfl ?_
      obtain rfl := q_s hf
      exact J2 _ _ _ hw (lv_sub hl [] rfl)
def f_X7_fails (n : Nat) (x : SX) (a1 : Int32) : Option (Int32 × SX) := (qnm (si x 0 0 a1) fun x1 => (qbd (if a1 ≤ 0 then some (0 : Int32) else some (1 : Int32)) fun v2 => (qgd (qz v2) (some (v2, x1)))))
set_option maxHeartbeats 4000000 in
set_option maxRecDepth 100000 in
theorem t_X7_fails {G : gG} {l : Launch} {ad : Nat → Nat} {n : Nat} {x : SX} {a1 : Int32} {rv : Int32} {xr : SX} (hf : f_X7_fails n x a1 = some (rv, xr)) : MetI G l yX7_fails cX7_fails 2 (some .boolean) 0 0 0 0 [.ref (ad 0), .int a1] (wM G ad x) (wM G ad xr) rv := by
  refine k_ofI (by decide) (Nat.le_of_ble_eq_true rfl) ?_
  intro p e s m args below meth c ls A F hr hlk hl hw
  have hx := F.1
  have hb := F.2.1
  have hl : lv_has ls 2 [(0, .ref (ad 0)), (1, .int a1)] := hl
  unfold f_X7_fails at hf
  refine lv_aload_n hx hb dX7_fails_0 rfl (lv_at hl 0 rfl) ?_
  refine lv_iload_n hx hb dX7_fails_1 rfl (lv_at hl 1 rfl) ?_
  refine M_p_0_0 F ws_in hw fl_X7_93 dX7_fails_2 (fun x1 ex1 H locs hw => ?_)
  have hf := qnm_k ex1 hf
  refine lv_iload_n hx hb dX7_fails_5 rfl (lv_at hl 1 rfl) ?_
  obtain ⟨v2, hq6, hf⟩ := qbd_e hf
  have J3 : ∀ (H : Heap) (locs : List Loc) (ls : Array Slot), Wd G (wM G ad x1) A s H locs → lv_has ls 2 [] → W p l e (rmk 0 0 0 0) s m args below meth c H locs 0 0 (KQI G below args s A (wM G ad xr) rv 0 0) (F0 m 14 ls [.int v2]) := by
    intro H locs ls hw hl
    obtain ⟨g4, hf⟩ := qgd_e hf
    obtain ⟨rfl, rfl⟩ := q_s2 hf
    exact k_zret F hr hlk hw (qz_n g4) (Nat.le_of_ble_eq_true rfl) (Nat.le_of_ble_eq_true rfl) dX7_fails_14
  have hf := hq6
  refine lv_if_le (tgt := 13) hx hb dX7_fails_6 rfl (fun c5 => ?_) (fun c5 => ?_)
  · have hf := q_t c5 hf
    refine lv_iconst (v := 0) hx hb dX7_fails_13 (by decide) ?_
    obtain rfl := q_s hf
    exact J3 _ _ _ hw (lv_sub hl [] rfl)
  · have hf := q_f c5 hf
    refine lv_iconst (v := 1) hx hb dX7_fails_9 (by decide) ?_
    refine lv_goto (tgt := 14) hx hb dX7_fails_10 rfl ?_
    obtain rfl := q_s hf
    exact J3 _ _ _ hw (lv_sub hl [] rfl)
def f_X7_daysOfYear (n : Nat) (a1 : Int32) : Option (Int32) := (qbd (if (a1 - a1 / (4 : Int32) * (4 : Int32)) = 0 then some (366 : Int32) else some (365 : Int32)) fun v1 => some v1)
set_option maxHeartbeats 4000000 in
set_option maxRecDepth 100000 in
theorem t_X7_daysOfYear {G : gG} {l : Launch} {n : Nat} {a1 : Int32} {rv : Int32} (hf : f_X7_daysOfYear n a1 = some rv) : MetI G l yX7_daysOfYear cX7_daysOfYear 1 (some .int) 0 0 0 0 [.int a1] (([] : va_W)) (([] : va_W)) rv := by
  refine k_ofI (by decide) (Nat.le_of_ble_eq_true rfl) ?_
  intro p e s m args below meth c ls A F hr hlk hl hw
  have hx := F.1
  have hb := F.2.1
  have hl : lv_has ls 1 [(0, .int a1)] := hl
  unfold f_X7_daysOfYear at hf
  refine lv_iload_n hx hb dX7_daysOfYear_0 rfl (lv_at hl 0 rfl) ?_
  refine lv_iconst (v := 4) hx hb dX7_daysOfYear_1 (by decide) ?_
  refine lv_irem hx hb dX7_daysOfYear_2 (by decide) ?_
  obtain ⟨v1, hq4, hf⟩ := qbd_e hf
  have J2 : ∀ (H : Heap) (locs : List Loc) (ls : Array Slot), Wd G (([] : va_W)) A s H locs → lv_has ls 1 [] → W p l e (rmk 0 0 0 0) s m args below meth c H locs 0 0 (KQI G below args s A (([] : va_W)) rv 0 0) (F0 m 15 ls [.int v1]) := by
    intro H locs ls hw hl
    obtain rfl := q_s hf
    exact k_iret F hr hlk hw (Nat.le_of_ble_eq_true rfl) (Nat.le_of_ble_eq_true rfl) dX7_daysOfYear_15
  have hf := hq4
  refine lv_if_ne (tgt := 12) hx hb dX7_daysOfYear_3 rfl (fun c3 => ?_) (fun c3 => ?_)
  · have hf := q_f c3 hf
    refine lv_sipush (v := 365) hx hb dX7_daysOfYear_12 (by decide) ?_
    obtain rfl := q_s hf
    exact J2 _ _ _ hw (lv_sub hl [] rfl)
  · have hf := q_t c3 hf
    refine lv_sipush (v := 366) hx hb dX7_daysOfYear_6 (by decide) ?_
    refine lv_goto (tgt := 15) hx hb dX7_daysOfYear_9 rfl ?_
    obtain rfl := q_s hf
    exact J2 _ _ _ hw (lv_sub hl [] rfl)
def f_X7_daysOfMonth (n : Nat) (a1 : Int32) (a2 : Int32) : Option (Int32) := (qbd (if a2 = (2 : Int32) then (qbd (f_X7_daysOfYear n a1) fun r8 => some (r8 - (337 : Int32))) else (if a2 = (4 : Int32) then some (30 : Int32) else (if a2 = (6 : Int32) then some (30 : Int32) else (if a2 = (9 : Int32) then some (30 : Int32) else (if a2 = (11 : Int32) then some (30 : Int32) else some (31 : Int32)))))) fun v1 => some v1)
set_option maxHeartbeats 4000000 in
set_option maxRecDepth 100000 in
theorem t_X7_daysOfMonth {G : gG} {l : Launch} {n : Nat} {a1 : Int32} {a2 : Int32} {rv : Int32} (hf : f_X7_daysOfMonth n a1 a2 = some rv) : MetI G l yX7_daysOfMonth cX7_daysOfMonth 2 (some .int) 1 0 0 20 [.int a1, .int a2] (([] : va_W)) (([] : va_W)) rv := by
  refine k_ofI (by decide) (Nat.le_of_ble_eq_true rfl) ?_
  intro p e s m args below meth c ls A F hr hlk hl hw
  have hx := F.1
  have hb := F.2.1
  have hl : lv_has ls 2 [(0, .int a1), (1, .int a2)] := hl
  unfold f_X7_daysOfMonth at hf
  refine lv_iload_n hx hb dX7_daysOfMonth_0 rfl (lv_at hl 1 rfl) ?_
  refine lv_iconst (v := 2) hx hb dX7_daysOfMonth_1 (by decide) ?_
  obtain ⟨v1, hq10, hf⟩ := qbd_e hf
  have J2 : ∀ (H : Heap) (locs : List Loc) (ls : Array Slot), Wd G (([] : va_W)) A s H locs → lv_has ls 2 [] → W p l e (rmk 1 0 0 20) s m args below meth c H locs 0 0 (KQI G below args s A (([] : va_W)) rv 0 0) (F0 m 46 ls [.int v1]) := by
    intro H locs ls hw hl
    obtain rfl := q_s hf
    exact k_iret F hr hlk hw (Nat.le_of_ble_eq_true rfl) (Nat.le_of_ble_eq_true rfl) dX7_daysOfMonth_46
  have hf := hq10
  refine lv_icmp_ne (tgt := 16) hx hb dX7_daysOfMonth_2 rfl (fun c3 => ?_) (fun c3 => ?_)
  · have hf := q_f c3 hf
    refine lv_iload_n hx hb dX7_daysOfMonth_16 rfl (lv_at hl 1 rfl) ?_
    refine lv_iconst (v := 4) hx hb dX7_daysOfMonth_17 (by decide) ?_
    refine lv_icmp_eq (tgt := 39) hx hb dX7_daysOfMonth_18 rfl (fun c4 => ?_) (fun c4 => ?_)
    · have hf := q_t c4 hf
      refine lv_bipush (v := 30) hx hb dX7_daysOfMonth_39 (by decide) ?_
      refine lv_goto (tgt := 46) hx hb dX7_daysOfMonth_41 rfl ?_
      obtain rfl := q_s hf
      exact J2 _ _ _ hw (lv_sub hl [] rfl)
    · have hf := q_f c4 hf
      refine lv_iload_n hx hb dX7_daysOfMonth_21 rfl (lv_at hl 1 rfl) ?_
      refine lv_bipush (v := 6) hx hb dX7_daysOfMonth_22 (by decide) ?_
      refine lv_icmp_eq (tgt := 39) hx hb dX7_daysOfMonth_24 rfl (fun c5 => ?_) (fun c5 => ?_)
      · have hf := q_t c5 hf
        refine lv_bipush (v := 30) hx hb dX7_daysOfMonth_39 (by decide) ?_
        refine lv_goto (tgt := 46) hx hb dX7_daysOfMonth_41 rfl ?_
        obtain rfl := q_s hf
        exact J2 _ _ _ hw (lv_sub hl [] rfl)
      · have hf := q_f c5 hf
        refine lv_iload_n hx hb dX7_daysOfMonth_27 rfl (lv_at hl 1 rfl) ?_
        refine lv_bipush (v := 9) hx hb dX7_daysOfMonth_28 (by decide) ?_
        refine lv_icmp_eq (tgt := 39) hx hb dX7_daysOfMonth_30 rfl (fun c6 => ?_) (fun c6 => ?_)
        · have hf := q_t c6 hf
          refine lv_bipush (v := 30) hx hb dX7_daysOfMonth_39 (by decide) ?_
          refine lv_goto (tgt := 46) hx hb dX7_daysOfMonth_41 rfl ?_
          obtain rfl := q_s hf
          exact J2 _ _ _ hw (lv_sub hl [] rfl)
        · have hf := q_f c6 hf
          refine lv_iload_n hx hb dX7_daysOfMonth_33 rfl (lv_at hl 1 rfl) ?_
          refine lv_bipush (v := 11) hx hb dX7_daysOfMonth_34 (by decide) ?_
          refine lv_icmp_ne (tgt := 44) hx hb dX7_daysOfMonth_36 rfl (fun c7 => ?_) (fun c7 => ?_)
          · have hf := q_f c7 hf
            refine lv_bipush (v := 31) hx hb dX7_daysOfMonth_44 (by decide) ?_
            obtain rfl := q_s hf
            exact J2 _ _ _ hw (lv_sub hl [] rfl)
          · have hf := q_t c7 hf
            refine lv_bipush (v := 30) hx hb dX7_daysOfMonth_39 (by decide) ?_
            refine lv_goto (tgt := 46) hx hb dX7_daysOfMonth_41 rfl ?_
            obtain rfl := q_s hf
            exact J2 _ _ _ hw (lv_sub hl [] rfl)
  · have hf := q_t c3 hf
    refine lv_iload_n hx hb dX7_daysOfMonth_5 rfl (lv_at hl 0 rfl) ?_
    obtain ⟨r8, h9, hf⟩ := qbd_e hf
    refine k_callPi (rest := []) (As := [.int a1]) F ws_in (t_X7_daysOfYear h9) cs_X7_daysOfYear ml_X7_97 hw rfl hl.1 rfl (Nat.le_of_ble_eq_true rfl) ⟨Nat.le_of_ble_eq_true rfl, Nat.le_of_ble_eq_true rfl⟩ ⟨Nat.le_of_ble_eq_true rfl, Nat.le_of_ble_eq_true rfl⟩ dX7_daysOfMonth_6 (fun H locs hw => ?_)
    refine lv_sipush (v := 337) hx hb dX7_daysOfMonth_9 (by decide) ?_
    refine lv_isub hx hb dX7_daysOfMonth_12 ?_
    refine lv_goto (tgt := 46) hx hb dX7_daysOfMonth_13 rfl ?_
    obtain rfl := q_s hf
    exact J2 _ _ _ hw (lv_sub hl [] rfl)
def f_X7_number_l30 (a2 : Int32) (a3 : Int32) (n : Nat) (a1 : Int32) : Nat → Int32 → Int32 → Option (Int32)
  | 0, _, _ => none
  | m + 1, v2, v3 => (if a2 ≤ v3 then some ((v2 + a3) - (1 : Int32)) else (qbd (f_X7_daysOfMonth n a1 v3) fun r6 => (qnm (v2 + r6) fun v8 => (qnm (v3 + (1 : Int32)) fun v9 => (f_X7_number_l30 a2 a3 n a1 m) v8 v9))))
def f_X7_number_e27 (a2 : Int32) (a3 : Int32) (n : Nat) (a1 : Int32) (v1 : Int32) : Option (Int32) := f_X7_number_l30 a2 a3 n a1 n v1 (1 : Int32)
def f_X7_number_l7 (a1 : Int32) (a2 : Int32) (a3 : Int32) (n : Nat) : Nat → Int32 → Int32 → Option (Int32)
  | 0, _, _ => none
  | m + 1, v11, v12 => (if a1 ≤ v12 then f_X7_number_e27 a2 a3 n a1 v11 else (qbd (f_X7_daysOfYear n v12) fun r15 => (qnm (v11 + r15) fun v17 => (qnm (v12 + (1 : Int32)) fun v18 => (f_X7_number_l7 a1 a2 a3 n m) v17 v18))))
def f_X7_number (n : Nat) (a1 : Int32) (a2 : Int32) (a3 : Int32) : Option (Int32) := f_X7_number_l7 a1 a2 a3 n n (0 : Int32) (2000 : Int32)
set_option maxHeartbeats 4000000 in
set_option maxRecDepth 100000 in
theorem t_X7_number {G : gG} {l : Launch} {n : Nat} {a1 : Int32} {a2 : Int32} {a3 : Int32} {rv : Int32} (hf : f_X7_number n a1 a2 a3 = some rv) : MetI G l yX7_number cX7_number 5 (some .int) 2 0 0 41 [.int a1, .int a2, .int a3] (([] : va_W)) (([] : va_W)) rv := by
  refine k_ofI (by decide) (Nat.le_of_ble_eq_true rfl) ?_
  intro p e s m args below meth c ls A F hr hlk hl hw
  have hx := F.1
  have hb := F.2.1
  have hl : lv_has ls 5 [(0, .int a1), (1, .int a2), (2, .int a3)] := hl
  unfold f_X7_number at hf
  refine lv_iconst (v := 0) hx hb dX7_number_0 (by decide) ?_
  refine lv_istore_n (lv' := [(3, .int (0 : Int32)), (0, .int a1), (1, .int a2), (2, .int a3)]) hx hb dX7_number_1 rfl hl (Nat.le_of_ble_eq_true rfl) rfl (fun ls hl => ?_)
  refine lv_sipush (v := 2000) hx hb dX7_number_2 (by decide) ?_
  refine lv_istore (lv' := [(4, .int (2000 : Int32)), (3, .int (0 : Int32)), (0, .int a1), (1, .int a2), (2, .int a3)]) hx hb dX7_number_5 hl (Nat.le_of_ble_eq_true rfl) rfl (fun ls hl => ?_)
  have E10 : ∀ (v1 : Int32) (H : Heap) (locs : List Loc) (ls : Array Slot), Wd G (([] : va_W)) A s H locs → lv_has ls 5 [(0, .int a1), (1, .int a2), (2, .int a3), (3, .int v1)] → f_X7_number_e27 a2 a3 n a1 v1 = some rv → W p l e (rmk 2 0 0 41) s m args below meth c H locs 0 0 (KQI G below args s A (([] : va_W)) rv 0 0) (F0 m 27 ls []) := by
    intro v1 H locs ls hw hl hf
    unfold f_X7_number_e27 at hf
    refine lv_iconst (v := 1) hx hb dX7_number_27 (by decide) ?_
    refine lv_istore (lv' := [(4, .int (1 : Int32)), (0, .int a1), (1, .int a2), (2, .int a3), (3, .int v1)]) hx hb dX7_number_28 hl (Nat.le_of_ble_eq_true rfl) rfl (fun ls hl => ?_)
    have L4 : ∀ (m0 : Nat) (v2 : Int32) (v3 : Int32) (H : Heap) (locs : List Loc) (ls : Array Slot), Wd G (([] : va_W)) A s H locs → lv_has ls 5 [(0, .int a1), (1, .int a2), (2, .int a3), (3, .int v2), (4, .int v3)] → f_X7_number_l30 a2 a3 n a1 m0 v2 v3 = some rv → W p l e (rmk 2 0 0 41) s m args below meth c H locs 0 0 (KQI G below args s A (([] : va_W)) rv 0 0) (F0 m 30 ls []) := by
      intro m0
      induction m0 with
      | zero => intro v2 v3 H locs ls hw hl hf; cases hf
      | succ mL4 ih4 =>
        intro v2 v3 H locs ls hw hl hf
        unfold f_X7_number_l30 at hf
        refine lv_iload hx hb dX7_number_30 (lv_at hl 4 rfl) ?_
        refine lv_iload_n hx hb dX7_number_32 rfl (lv_at hl 1 rfl) ?_
        refine lv_icmp_ge (tgt := 51) hx hb dX7_number_33 rfl (fun c5 => ?_) (fun c5 => ?_)
        · have hf := q_t c5 hf
          refine lv_iload_n hx hb dX7_number_51 rfl (lv_at hl 3 rfl) ?_
          refine lv_iload_n hx hb dX7_number_52 rfl (lv_at hl 2 rfl) ?_
          refine lv_iadd hx hb dX7_number_53 ?_
          refine lv_iconst (v := 1) hx hb dX7_number_54 (by decide) ?_
          refine lv_isub hx hb dX7_number_55 ?_
          obtain rfl := q_s hf
          exact k_iret F hr hlk hw (Nat.le_of_ble_eq_true rfl) (Nat.le_of_ble_eq_true rfl) dX7_number_56
        · have hf := q_f c5 hf
          refine lv_iload_n hx hb dX7_number_36 rfl (lv_at hl 3 rfl) ?_
          refine lv_iload_n hx hb dX7_number_37 rfl (lv_at hl 0 rfl) ?_
          refine lv_iload hx hb dX7_number_38 (lv_at hl 4 rfl) ?_
          obtain ⟨r6, h7, hf⟩ := qbd_e hf
          refine k_callPi (rest := [.int v2]) (As := [.int a1, .int v3]) F ws_in (t_X7_daysOfMonth h7) cs_X7_daysOfMonth ml_X7_101 hw rfl hl.1 rfl (Nat.le_of_ble_eq_true rfl) ⟨Nat.le_of_ble_eq_true rfl, Nat.le_of_ble_eq_true rfl⟩ ⟨Nat.le_of_ble_eq_true rfl, Nat.le_of_ble_eq_true rfl⟩ dX7_number_40 (fun H locs hw => ?_)
          refine lv_iadd hx hb dX7_number_43 ?_
          refine lv_topi (fun v8 ev8 => ?_)
          have hf := qnm_k ev8 hf
          refine lv_istore_n (lv' := [(3, .int v8), (0, .int a1), (1, .int a2), (2, .int a3), (4, .int v3)]) hx hb dX7_number_44 rfl hl (Nat.le_of_ble_eq_true rfl) rfl (fun ls hl => ?_)
          obtain ⟨v9, ev9⟩ : ∃ y : Int32, y = v3 + (1 : Int32) := ⟨_, rfl⟩
          refine lv_iinc (v := v9) (lv' := [(4, .int v9), (3, .int v8), (0, .int a1), (1, .int a2), (2, .int a3)]) hx hb dX7_number_45 hl (k := 4) rfl (by rw [ev9]; rfl) (Nat.le_of_ble_eq_true rfl) rfl (fun ls hl => ?_)
          have hf := qnm_k ev9 hf
          refine lv_goto (tgt := 30) hx hb dX7_number_48 rfl ?_
          exact ih4 v8 v9 _ _ _ hw (lv_sub hl [2, 3, 4, 1, 0] rfl) hf
    exact L4 n v1 (1 : Int32) _ _ _ hw (lv_sub hl [1, 2, 3, 4, 0] rfl) hf
  have L13 : ∀ (m0 : Nat) (v11 : Int32) (v12 : Int32) (H : Heap) (locs : List Loc) (ls : Array Slot), Wd G (([] : va_W)) A s H locs → lv_has ls 5 [(0, .int a1), (1, .int a2), (2, .int a3), (3, .int v11), (4, .int v12)] → f_X7_number_l7 a1 a2 a3 n m0 v11 v12 = some rv → W p l e (rmk 2 0 0 41) s m args below meth c H locs 0 0 (KQI G below args s A (([] : va_W)) rv 0 0) (F0 m 7 ls []) := by
    intro m0
    induction m0 with
    | zero => intro v11 v12 H locs ls hw hl hf; cases hf
    | succ mL13 ih13 =>
      intro v11 v12 H locs ls hw hl hf
      unfold f_X7_number_l7 at hf
      refine lv_iload hx hb dX7_number_7 (lv_at hl 4 rfl) ?_
      refine lv_iload_n hx hb dX7_number_9 rfl (lv_at hl 0 rfl) ?_
      refine lv_icmp_ge (tgt := 27) hx hb dX7_number_10 rfl (fun c14 => ?_) (fun c14 => ?_)
      · have hf := q_t c14 hf
        exact E10 v11 _ _ _ hw (lv_sub hl [0, 1, 2, 3] rfl) hf
      · have hf := q_f c14 hf
        refine lv_iload_n hx hb dX7_number_13 rfl (lv_at hl 3 rfl) ?_
        refine lv_iload hx hb dX7_number_14 (lv_at hl 4 rfl) ?_
        obtain ⟨r15, h16, hf⟩ := qbd_e hf
        refine k_callPi (rest := [.int v11]) (As := [.int v12]) F ws_in (t_X7_daysOfYear h16) cs_X7_daysOfYear ml_X7_97 hw rfl hl.1 rfl (Nat.le_of_ble_eq_true rfl) ⟨Nat.le_of_ble_eq_true rfl, Nat.le_of_ble_eq_true rfl⟩ ⟨Nat.le_of_ble_eq_true rfl, Nat.le_of_ble_eq_true rfl⟩ dX7_number_16 (fun H locs hw => ?_)
        refine lv_iadd hx hb dX7_number_19 ?_
        refine lv_topi (fun v17 ev17 => ?_)
        have hf := qnm_k ev17 hf
        refine lv_istore_n (lv' := [(3, .int v17), (0, .int a1), (1, .int a2), (2, .int a3), (4, .int v12)]) hx hb dX7_number_20 rfl hl (Nat.le_of_ble_eq_true rfl) rfl (fun ls hl => ?_)
        obtain ⟨v18, ev18⟩ : ∃ y : Int32, y = v12 + (1 : Int32) := ⟨_, rfl⟩
        refine lv_iinc (v := v18) (lv' := [(4, .int v18), (3, .int v17), (0, .int a1), (1, .int a2), (2, .int a3)]) hx hb dX7_number_21 hl (k := 4) rfl (by rw [ev18]; rfl) (Nat.le_of_ble_eq_true rfl) rfl (fun ls hl => ?_)
        have hf := qnm_k ev18 hf
        refine lv_goto (tgt := 7) hx hb dX7_number_24 rfl ?_
        exact ih13 v17 v18 _ _ _ hw (lv_sub hl [2, 3, 4, 1, 0] rfl) hf
  exact L13 n (0 : Int32) (2000 : Int32) _ _ _ hw (lv_sub hl [2, 3, 4, 1, 0] rfl) hf
def f_X7_splits_l48 (n : Nat) : Nat → Int32 → SX → Option (SX)
  | 0, _, _ => none
  | m + 1, v5, x6 => (qbd (f_X7_daysOfMonth n (x6.1 0 27) (x6.1 0 28)) fun r8 => (if v5 < r8 then (qnm (si x6 0 29 (v5 + (1 : Int32))) fun x11 => some x11) else (qbd (f_X7_daysOfMonth n (x6.1 0 27) (x6.1 0 28)) fun r12 => (qnm (v5 - r12) fun v14 => (qnm (si x6 0 28 ((x6.1 0 28) + (1 : Int32))) fun x15 => (f_X7_splits_l48 n m) v14 x15)))))
def f_X7_splits_e43 (n : Nat) (v2 : Int32) (x3 : SX) : Option (SX) := (qnm (si x3 0 28 (1 : Int32)) fun x4 => f_X7_splits_l48 n n v2 x4)
def f_X7_splits_l9 (n : Nat) : Nat → Int32 → SX → Option (SX)
  | 0, _, _ => none
  | m + 1, v17, x18 => (qbd (f_X7_daysOfYear n (x18.1 0 27)) fun r20 => (if v17 < r20 then f_X7_splits_e43 n v17 x18 else (qbd (f_X7_daysOfYear n (x18.1 0 27)) fun r23 => (qnm (v17 - r23) fun v25 => (qnm (si x18 0 27 ((x18.1 0 27) + (1 : Int32))) fun x26 => (f_X7_splits_l9 n m) v25 x26)))))
def f_X7_splits (n : Nat) (x : SX) (a1 : Int32) : Option (SX) := (qnm (si x 0 27 (2000 : Int32)) fun x1 => f_X7_splits_l9 n n a1 x1)
set_option maxHeartbeats 4000000 in
set_option maxRecDepth 100000 in
theorem t_X7_splits {G : gG} {l : Launch} {ad : Nat → Nat} {n : Nat} {x : SX} {a1 : Int32} {xr : SX} (hf : f_X7_splits n x a1 = some xr) : MetV G l yX7_splits cX7_splits 3 none 2 0 0 41 [.ref (ad 0), .int a1] (wM G ad x) (wM G ad xr) := by
  refine k_ofV (by decide) (Nat.le_of_ble_eq_true rfl) ?_
  intro p e s m args below meth c ls A F hr hlk hl hw
  have hx := F.1
  have hb := F.2.1
  have hl : lv_has ls 3 [(0, .ref (ad 0)), (1, .int a1)] := hl
  unfold f_X7_splits at hf
  refine lv_iload_n hx hb dX7_splits_0 rfl (lv_at hl 1 rfl) ?_
  refine lv_istore_n (lv' := [(2, .int a1), (0, .ref (ad 0)), (1, .int a1)]) hx hb dX7_splits_1 rfl hl (Nat.le_of_ble_eq_true rfl) rfl (fun ls hl => ?_)
  refine lv_aload_n hx hb dX7_splits_2 rfl (lv_at hl 1 rfl) ?_
  refine lv_sipush (v := 2000) hx hb dX7_splits_3 (by decide) ?_
  refine M_p_0_27 F ws_in hw fl_X7_105 dX7_splits_6 (fun x1 ex1 H locs hw => ?_)
  have hf := qnm_k ex1 hf
  have E16 : ∀ (v2 : Int32) (x3 : SX) (H : Heap) (locs : List Loc) (ls : Array Slot), Wd G (wM G ad x3) A s H locs → lv_has ls 3 [(0, .ref (ad 0)), (2, .int v2)] → f_X7_splits_e43 n v2 x3 = some xr → W p l e (rmk 2 0 0 41) s m args below meth c H locs 0 0 (KQV G below args s A (wM G ad xr) 0 0) (F0 m 43 ls []) := by
    intro v2 x3 H locs ls hw hl hf
    unfold f_X7_splits_e43 at hf
    refine lv_aload_n hx hb dX7_splits_43 rfl (lv_at hl 0 rfl) ?_
    refine lv_iconst (v := 1) hx hb dX7_splits_44 (by decide) ?_
    refine M_p_0_28 F ws_in hw fl_X7_108 dX7_splits_45 (fun x4 ex4 H locs hw => ?_)
    have hf := qnm_k ex4 hf
    have L7 : ∀ (m0 : Nat) (v5 : Int32) (x6 : SX) (H : Heap) (locs : List Loc) (ls : Array Slot), Wd G (wM G ad x6) A s H locs → lv_has ls 3 [(0, .ref (ad 0)), (2, .int v5)] → f_X7_splits_l48 n m0 v5 x6 = some xr → W p l e (rmk 2 0 0 41) s m args below meth c H locs 0 0 (KQV G below args s A (wM G ad xr) 0 0) (F0 m 48 ls []) := by
      intro m0
      induction m0 with
      | zero => intro v5 x6 H locs ls hw hl hf; cases hf
      | succ mL7 ih7 =>
        intro v5 x6 H locs ls hw hl hf
        unfold f_X7_splits_l48 at hf
        refine lv_iload_n hx hb dX7_splits_48 rfl (lv_at hl 1 rfl) ?_
        refine lv_aload_n hx hb dX7_splits_49 rfl (lv_at hl 0 rfl) ?_
        refine M_g_0_27 F ws_in hw fl_X7_105 dX7_splits_50 ?_
        refine lv_aload_n hx hb dX7_splits_53 rfl (lv_at hl 0 rfl) ?_
        refine M_g_0_28 F ws_in hw fl_X7_108 dX7_splits_54 ?_
        obtain ⟨r8, h9, hf⟩ := qbd_e hf
        refine k_callPi (rest := [.int v5]) (As := [.int (x6.1 0 27), .int (x6.1 0 28)]) F ws_in (t_X7_daysOfMonth h9) cs_X7_daysOfMonth ml_X7_101 hw rfl hl.1 rfl (Nat.le_of_ble_eq_true rfl) ⟨Nat.le_of_ble_eq_true rfl, Nat.le_of_ble_eq_true rfl⟩ ⟨Nat.le_of_ble_eq_true rfl, Nat.le_of_ble_eq_true rfl⟩ dX7_splits_57 (fun H locs hw => ?_)
        refine lv_icmp_lt (tgt := 90) hx hb dX7_splits_60 rfl (fun c10 => ?_) (fun c10 => ?_)
        · have hf := q_t c10 hf
          refine lv_aload_n hx hb dX7_splits_90 rfl (lv_at hl 0 rfl) ?_
          refine lv_iload_n hx hb dX7_splits_91 rfl (lv_at hl 1 rfl) ?_
          refine lv_iconst (v := 1) hx hb dX7_splits_92 (by decide) ?_
          refine lv_iadd hx hb dX7_splits_93 ?_
          refine M_p_0_29 F ws_in hw fl_X7_111 dX7_splits_94 (fun x11 ex11 H locs hw => ?_)
          have hf := qnm_k ex11 hf
          obtain rfl := q_s hf
          exact k_vret F hr hlk hw (Nat.le_of_ble_eq_true rfl) (Nat.le_of_ble_eq_true rfl) dX7_splits_97
        · have hf := q_f c10 hf
          refine lv_iload_n hx hb dX7_splits_63 rfl (lv_at hl 1 rfl) ?_
          refine lv_aload_n hx hb dX7_splits_64 rfl (lv_at hl 0 rfl) ?_
          refine M_g_0_27 F ws_in hw fl_X7_105 dX7_splits_65 ?_
          refine lv_aload_n hx hb dX7_splits_68 rfl (lv_at hl 0 rfl) ?_
          refine M_g_0_28 F ws_in hw fl_X7_108 dX7_splits_69 ?_
          obtain ⟨r12, h13, hf⟩ := qbd_e hf
          refine k_callPi (rest := [.int v5]) (As := [.int (x6.1 0 27), .int (x6.1 0 28)]) F ws_in (t_X7_daysOfMonth h13) cs_X7_daysOfMonth ml_X7_101 hw rfl hl.1 rfl (Nat.le_of_ble_eq_true rfl) ⟨Nat.le_of_ble_eq_true rfl, Nat.le_of_ble_eq_true rfl⟩ ⟨Nat.le_of_ble_eq_true rfl, Nat.le_of_ble_eq_true rfl⟩ dX7_splits_72 (fun H locs hw => ?_)
          refine lv_isub hx hb dX7_splits_75 ?_
          refine lv_topi (fun v14 ev14 => ?_)
          have hf := qnm_k ev14 hf
          refine lv_istore_n (lv' := [(2, .int v14), (0, .ref (ad 0))]) hx hb dX7_splits_76 rfl hl (Nat.le_of_ble_eq_true rfl) rfl (fun ls hl => ?_)
          refine lv_aload_n hx hb dX7_splits_77 rfl (lv_at hl 1 rfl) ?_
          refine lv_dup hx hb dX7_splits_78 rfl ?_
          refine M_g_0_28 F ws_in hw fl_X7_108 dX7_splits_79 ?_
          refine lv_iconst (v := 1) hx hb dX7_splits_82 (by decide) ?_
          refine lv_iadd hx hb dX7_splits_83 ?_
          refine M_p_0_28 F ws_in hw fl_X7_108 dX7_splits_84 (fun x15 ex15 H locs hw => ?_)
          have hf := qnm_k ex15 hf
          refine lv_goto (tgt := 48) hx hb dX7_splits_87 rfl ?_
          exact ih7 v14 x15 _ _ _ hw (lv_sub hl [1, 0] rfl) hf
    exact L7 n v2 x4 _ _ _ hw (lv_sub hl [0, 1] rfl) hf
  have L19 : ∀ (m0 : Nat) (v17 : Int32) (x18 : SX) (H : Heap) (locs : List Loc) (ls : Array Slot), Wd G (wM G ad x18) A s H locs → lv_has ls 3 [(0, .ref (ad 0)), (2, .int v17)] → f_X7_splits_l9 n m0 v17 x18 = some xr → W p l e (rmk 2 0 0 41) s m args below meth c H locs 0 0 (KQV G below args s A (wM G ad xr) 0 0) (F0 m 9 ls []) := by
    intro m0
    induction m0 with
    | zero => intro v17 x18 H locs ls hw hl hf; cases hf
    | succ mL19 ih19 =>
      intro v17 x18 H locs ls hw hl hf
      unfold f_X7_splits_l9 at hf
      refine lv_iload_n hx hb dX7_splits_9 rfl (lv_at hl 1 rfl) ?_
      refine lv_aload_n hx hb dX7_splits_10 rfl (lv_at hl 0 rfl) ?_
      refine M_g_0_27 F ws_in hw fl_X7_105 dX7_splits_11 ?_
      obtain ⟨r20, h21, hf⟩ := qbd_e hf
      refine k_callPi (rest := [.int v17]) (As := [.int (x18.1 0 27)]) F ws_in (t_X7_daysOfYear h21) cs_X7_daysOfYear ml_X7_97 hw rfl hl.1 rfl (Nat.le_of_ble_eq_true rfl) ⟨Nat.le_of_ble_eq_true rfl, Nat.le_of_ble_eq_true rfl⟩ ⟨Nat.le_of_ble_eq_true rfl, Nat.le_of_ble_eq_true rfl⟩ dX7_splits_14 (fun H locs hw => ?_)
      refine lv_icmp_lt (tgt := 43) hx hb dX7_splits_17 rfl (fun c22 => ?_) (fun c22 => ?_)
      · have hf := q_t c22 hf
        exact E16 v17 x18 _ _ _ hw (lv_sub hl [0, 1] rfl) hf
      · have hf := q_f c22 hf
        refine lv_iload_n hx hb dX7_splits_20 rfl (lv_at hl 1 rfl) ?_
        refine lv_aload_n hx hb dX7_splits_21 rfl (lv_at hl 0 rfl) ?_
        refine M_g_0_27 F ws_in hw fl_X7_105 dX7_splits_22 ?_
        obtain ⟨r23, h24, hf⟩ := qbd_e hf
        refine k_callPi (rest := [.int v17]) (As := [.int (x18.1 0 27)]) F ws_in (t_X7_daysOfYear h24) cs_X7_daysOfYear ml_X7_97 hw rfl hl.1 rfl (Nat.le_of_ble_eq_true rfl) ⟨Nat.le_of_ble_eq_true rfl, Nat.le_of_ble_eq_true rfl⟩ ⟨Nat.le_of_ble_eq_true rfl, Nat.le_of_ble_eq_true rfl⟩ dX7_splits_25 (fun H locs hw => ?_)
        refine lv_isub hx hb dX7_splits_28 ?_
        refine lv_topi (fun v25 ev25 => ?_)
        have hf := qnm_k ev25 hf
        refine lv_istore_n (lv' := [(2, .int v25), (0, .ref (ad 0))]) hx hb dX7_splits_29 rfl hl (Nat.le_of_ble_eq_true rfl) rfl (fun ls hl => ?_)
        refine lv_aload_n hx hb dX7_splits_30 rfl (lv_at hl 1 rfl) ?_
        refine lv_dup hx hb dX7_splits_31 rfl ?_
        refine M_g_0_27 F ws_in hw fl_X7_105 dX7_splits_32 ?_
        refine lv_iconst (v := 1) hx hb dX7_splits_35 (by decide) ?_
        refine lv_iadd hx hb dX7_splits_36 ?_
        refine M_p_0_27 F ws_in hw fl_X7_105 dX7_splits_37 (fun x26 ex26 H locs hw => ?_)
        have hf := qnm_k ex26 hf
        refine lv_goto (tgt := 9) hx hb dX7_splits_40 rfl ?_
        exact ih19 v25 x26 _ _ _ hw (lv_sub hl [1, 0] rfl) hf
  exact L19 n a1 x1 _ _ _ hw (lv_sub hl [1, 0] rfl) hf
def f_X7_later (n : Nat) (x : SX) (a1 : Int32) (a2 : Int32) : Option (Int32 × SX) := (qbd (f_X7_splits n x a1) fun x1 => (qnm (((((12 : Int32) * (x1.1 0 27)) + (x1.1 0 28)) - (1 : Int32)) + a2) fun v3 => (qbd (f_X7_daysOfMonth n (v3 / (12 : Int32)) ((v3 - v3 / (12 : Int32) * (12 : Int32)) + (1 : Int32))) fun r4 => (qbd (if r4 ≤ (x1.1 0 29) then some r4 else some (x1.1 0 29)) fun v6 => (qbd (f_X7_number n (v3 / (12 : Int32)) ((v3 - v3 / (12 : Int32) * (12 : Int32)) + (1 : Int32)) v6) fun r8 => some (r8, x1))))))
set_option maxHeartbeats 4000000 in
set_option maxRecDepth 100000 in
theorem t_X7_later {G : gG} {l : Launch} {ad : Nat → Nat} {n : Nat} {x : SX} {a1 : Int32} {a2 : Int32} {rv : Int32} {xr : SX} (hf : f_X7_later n x a1 a2 = some (rv, xr)) : MetI G l yX7_later cX7_later 5 (some .int) 3 0 0 65 [.ref (ad 0), .int a1, .int a2] (wM G ad x) (wM G ad xr) rv := by
  refine k_ofI (by decide) (Nat.le_of_ble_eq_true rfl) ?_
  intro p e s m args below meth c ls A F hr hlk hl hw
  have hx := F.1
  have hb := F.2.1
  have hl : lv_has ls 5 [(0, .ref (ad 0)), (1, .int a1), (2, .int a2)] := hl
  unfold f_X7_later at hf
  refine lv_aload_n hx hb dX7_later_0 rfl (lv_at hl 0 rfl) ?_
  refine lv_iload_n hx hb dX7_later_1 rfl (lv_at hl 1 rfl) ?_
  obtain ⟨x1, h2, hf⟩ := qbd_e hf
  refine k_callVv' (rest := []) (As := [.int a1]) F ws_in (t_X7_splits h2) cv_X7_splits ml_X7_114 hw 0 rfl rfl rfl hl.1 rfl (Nat.le_of_ble_eq_true rfl) ⟨Nat.le_of_ble_eq_true rfl, Nat.le_of_ble_eq_true rfl⟩ ⟨Nat.le_of_ble_eq_true rfl, Nat.le_of_ble_eq_true rfl⟩ dX7_later_2 (fun H locs hw => ?_)
  refine lv_bipush (v := 12) hx hb dX7_later_5 (by decide) ?_
  refine lv_aload_n hx hb dX7_later_7 rfl (lv_at hl 0 rfl) ?_
  refine M_g_0_27 F ws_in hw fl_X7_105 dX7_later_8 ?_
  refine lv_imul hx hb dX7_later_11 ?_
  refine lv_aload_n hx hb dX7_later_12 rfl (lv_at hl 0 rfl) ?_
  refine M_g_0_28 F ws_in hw fl_X7_108 dX7_later_13 ?_
  refine lv_iadd hx hb dX7_later_16 ?_
  refine lv_iconst (v := 1) hx hb dX7_later_17 (by decide) ?_
  refine lv_isub hx hb dX7_later_18 ?_
  refine lv_iload_n hx hb dX7_later_19 rfl (lv_at hl 2 rfl) ?_
  refine lv_iadd hx hb dX7_later_20 ?_
  refine lv_topi (fun v3 ev3 => ?_)
  have hf := qnm_k ev3 hf
  refine lv_istore_n (lv' := [(3, .int v3), (0, .ref (ad 0)), (1, .int a1), (2, .int a2)]) hx hb dX7_later_21 rfl hl (Nat.le_of_ble_eq_true rfl) rfl (fun ls hl => ?_)
  refine lv_iload_n hx hb dX7_later_22 rfl (lv_at hl 0 rfl) ?_
  refine lv_bipush (v := 12) hx hb dX7_later_23 (by decide) ?_
  refine lv_idiv hx hb dX7_later_25 (by decide) ?_
  refine lv_iload_n hx hb dX7_later_26 rfl (lv_at hl 0 rfl) ?_
  refine lv_bipush (v := 12) hx hb dX7_later_27 (by decide) ?_
  refine lv_irem hx hb dX7_later_29 (by decide) ?_
  refine lv_iconst (v := 1) hx hb dX7_later_30 (by decide) ?_
  refine lv_iadd hx hb dX7_later_31 ?_
  obtain ⟨r4, h5, hf⟩ := qbd_e hf
  refine k_callPi (rest := []) (As := [.int (v3 / (12 : Int32)), .int ((v3 - v3 / (12 : Int32) * (12 : Int32)) + (1 : Int32))]) F ws_in (t_X7_daysOfMonth h5) cs_X7_daysOfMonth ml_X7_101 hw rfl hl.1 rfl (Nat.le_of_ble_eq_true rfl) ⟨Nat.le_of_ble_eq_true rfl, Nat.le_of_ble_eq_true rfl⟩ ⟨Nat.le_of_ble_eq_true rfl, Nat.le_of_ble_eq_true rfl⟩ dX7_later_32 (fun H locs hw => ?_)
  refine lv_istore (lv' := [(4, .int r4), (3, .int v3), (0, .ref (ad 0)), (1, .int a1), (2, .int a2)]) hx hb dX7_later_35 hl (Nat.le_of_ble_eq_true rfl) rfl (fun ls hl => ?_)
  refine lv_iload_n hx hb dX7_later_37 rfl (lv_at hl 1 rfl) ?_
  refine lv_bipush (v := 12) hx hb dX7_later_38 (by decide) ?_
  refine lv_idiv hx hb dX7_later_40 (by decide) ?_
  refine lv_iload_n hx hb dX7_later_41 rfl (lv_at hl 1 rfl) ?_
  refine lv_bipush (v := 12) hx hb dX7_later_42 (by decide) ?_
  refine lv_irem hx hb dX7_later_44 (by decide) ?_
  refine lv_iconst (v := 1) hx hb dX7_later_45 (by decide) ?_
  refine lv_iadd hx hb dX7_later_46 ?_
  refine lv_aload_n hx hb dX7_later_47 rfl (lv_at hl 2 rfl) ?_
  refine M_g_0_29 F ws_in hw fl_X7_111 dX7_later_48 ?_
  refine lv_iload hx hb dX7_later_51 (lv_at hl 0 rfl) ?_
  obtain ⟨v6, hq11, hf⟩ := qbd_e hf
  have J7 : ∀ (H : Heap) (locs : List Loc) (ls : Array Slot), Wd G (wM G ad x1) A s H locs → lv_has ls 5 [] → W p l e (rmk 3 0 0 65) s m args below meth c H locs 0 0 (KQI G below args s A (wM G ad xr) rv 0 0) (F0 m 65 ls [.int v6, .int ((v3 - v3 / (12 : Int32) * (12 : Int32)) + (1 : Int32)), .int (v3 / (12 : Int32))]) := by
    intro H locs ls hw hl
    obtain ⟨r8, h9, hf⟩ := qbd_e hf
    refine k_callPi (rest := []) (As := [.int (v3 / (12 : Int32)), .int ((v3 - v3 / (12 : Int32) * (12 : Int32)) + (1 : Int32)), .int v6]) F ws_in (t_X7_number h9) cs_X7_number ml_X7_118 hw rfl hl.1 rfl (Nat.le_of_ble_eq_true rfl) ⟨Nat.le_of_ble_eq_true rfl, Nat.le_of_ble_eq_true rfl⟩ ⟨Nat.le_of_ble_eq_true rfl, Nat.le_of_ble_eq_true rfl⟩ dX7_later_65 (fun H locs hw => ?_)
    obtain ⟨rfl, rfl⟩ := q_s2 hf
    exact k_iret F hr hlk hw (Nat.le_of_ble_eq_true rfl) (Nat.le_of_ble_eq_true rfl) dX7_later_68
  have hf := hq11
  refine lv_icmp_ge (tgt := 63) hx hb dX7_later_53 rfl (fun c10 => ?_) (fun c10 => ?_)
  · have hf := q_t c10 hf
    refine lv_iload hx hb dX7_later_63 (lv_at hl 0 rfl) ?_
    obtain rfl := q_s hf
    exact J7 _ _ _ hw (lv_sub hl [] rfl)
  · have hf := q_f c10 hf
    refine lv_aload_n hx hb dX7_later_56 rfl (lv_at hl 2 rfl) ?_
    refine M_g_0_29 F ws_in hw fl_X7_111 dX7_later_57 ?_
    refine lv_goto (tgt := 65) hx hb dX7_later_60 rfl ?_
    obtain rfl := q_s hf
    exact J7 _ _ _ hw (lv_sub hl [] rfl)
def f_X7_dayNumber (n : Nat) (x : SX) (a1 : Int32) (a2 : Int32) (a3 : Int32) : Option (Int32 × SX) := (qbd (f_X7_in n a1 (2000 : Int32) (2099 : Int32)) fun r1 => (qbd (if r1 = 0 then some (0 : Int32) else (qbd (f_X7_in n a2 (1 : Int32) (12 : Int32)) fun r19 => (if r19 = 0 then some (0 : Int32) else (qbd (f_X7_daysOfMonth n a1 a2) fun r22 => (qbd (f_X7_in n a3 (1 : Int32) r22) fun r24 => (if r24 = 0 then some (0 : Int32) else some (1 : Int32))))))) fun v3 => (qbd (if v3 = 0 then some (1 : Int32) else some (0 : Int32)) fun v5 => (qbd2 (f_X7_fails n x v5) fun r7 x8 => (qbd (if r7 = 0 then (qbd (f_X7_number n a1 a2 a3) fun r13 => some r13) else some (0 : Int32)) fun v10 => some (v10, x8))))))
set_option maxHeartbeats 4000000 in
set_option maxRecDepth 100000 in
theorem t_X7_dayNumber {G : gG} {l : Launch} {ad : Nat → Nat} {n : Nat} {x : SX} {a1 : Int32} {a2 : Int32} {a3 : Int32} {rv : Int32} {xr : SX} (hf : f_X7_dayNumber n x a1 a2 a3 = some (rv, xr)) : MetI G l yX7_dayNumber cX7_dayNumber 5 (some .int) 3 0 0 65 [.ref (ad 0), .int a1, .int a2, .int a3] (wM G ad x) (wM G ad xr) rv := by
  refine k_ofI (by decide) (Nat.le_of_ble_eq_true rfl) ?_
  intro p e s m args below meth c ls A F hr hlk hl hw
  have hx := F.1
  have hb := F.2.1
  have hl : lv_has ls 5 [(0, .ref (ad 0)), (1, .int a1), (2, .int a2), (3, .int a3)] := hl
  unfold f_X7_dayNumber at hf
  refine lv_iload_n hx hb dX7_dayNumber_0 rfl (lv_at hl 1 rfl) ?_
  refine lv_sipush (v := 2000) hx hb dX7_dayNumber_1 (by decide) ?_
  refine lv_sipush (v := 2099) hx hb dX7_dayNumber_4 (by decide) ?_
  obtain ⟨r1, h2, hf⟩ := qbd_e hf
  refine k_callPi (rest := []) (As := [.int a1, .int (2000 : Int32), .int (2099 : Int32)]) F ws_in (t_X7_in h2) cs_X7_in ml_X7_122 hw rfl hl.1 rfl (Nat.le_of_ble_eq_true rfl) ⟨Nat.le_of_ble_eq_true rfl, Nat.le_of_ble_eq_true rfl⟩ ⟨Nat.le_of_ble_eq_true rfl, Nat.le_of_ble_eq_true rfl⟩ dX7_dayNumber_7 (fun H locs hw => ?_)
  obtain ⟨v3, hq27, hf⟩ := qbd_e hf
  have J4 : ∀ (H : Heap) (locs : List Loc) (ls : Array Slot), Wd G (wM G ad x) A s H locs → lv_has ls 5 [(0, .ref (ad 0)), (1, .int a1), (2, .int a2), (3, .int a3)] → W p l e (rmk 3 0 0 65) s m args below meth c H locs 0 0 (KQI G below args s A (wM G ad xr) rv 0 0) (F0 m 41 ls [.int v3]) := by
    intro H locs ls hw hl
    refine lv_istore (lv' := [(4, .int v3), (0, .ref (ad 0)), (1, .int a1), (2, .int a2), (3, .int a3)]) hx hb dX7_dayNumber_41 hl (Nat.le_of_ble_eq_true rfl) rfl (fun ls hl => ?_)
    refine lv_aload_n hx hb dX7_dayNumber_43 rfl (lv_at hl 1 rfl) ?_
    refine lv_iload hx hb dX7_dayNumber_44 (lv_at hl 0 rfl) ?_
    obtain ⟨v5, hq17, hf⟩ := qbd_e hf
    have J6 : ∀ (H : Heap) (locs : List Loc) (ls : Array Slot), Wd G (wM G ad x) A s H locs → lv_has ls 5 [(1, .int a1), (2, .int a2), (3, .int a3)] → W p l e (rmk 3 0 0 65) s m args below meth c H locs 0 0 (KQI G below args s A (wM G ad xr) rv 0 0) (F0 m 54 ls [.int v5, .ref (ad 0)]) := by
      intro H locs ls hw hl
      obtain ⟨r7, x8, h9, hf⟩ := qbd2_e hf
      refine k_callVi' (rest := []) (As := [.int v5]) F ws_in (t_X7_fails h9) cv_X7_fails ml_X7_126 hw 0 rfl rfl rfl hl.1 rfl (Nat.le_of_ble_eq_true rfl) ⟨Nat.le_of_ble_eq_true rfl, Nat.le_of_ble_eq_true rfl⟩ ⟨Nat.le_of_ble_eq_true rfl, Nat.le_of_ble_eq_true rfl⟩ dX7_dayNumber_54 (fun H locs hw => ?_)
      obtain ⟨v10, hq15, hf⟩ := qbd_e hf
      have J11 : ∀ (H : Heap) (locs : List Loc) (ls : Array Slot), Wd G (wM G ad x8) A s H locs → lv_has ls 5 [] → W p l e (rmk 3 0 0 65) s m args below meth c H locs 0 0 (KQI G below args s A (wM G ad xr) rv 0 0) (F0 m 70 ls [.int v10]) := by
        intro H locs ls hw hl
        obtain ⟨rfl, rfl⟩ := q_s2 hf
        exact k_iret F hr hlk hw (Nat.le_of_ble_eq_true rfl) (Nat.le_of_ble_eq_true rfl) dX7_dayNumber_70
      have hf := hq15
      refine lv_if_eq (tgt := 64) hx hb dX7_dayNumber_57 rfl (fun c12 => ?_) (fun c12 => ?_)
      · have hf := q_t c12 hf
        refine lv_iload_n hx hb dX7_dayNumber_64 rfl (lv_at hl 0 rfl) ?_
        refine lv_iload_n hx hb dX7_dayNumber_65 rfl (lv_at hl 1 rfl) ?_
        refine lv_iload_n hx hb dX7_dayNumber_66 rfl (lv_at hl 2 rfl) ?_
        obtain ⟨r13, h14, hf⟩ := qbd_e hf
        refine k_callPi (rest := []) (As := [.int a1, .int a2, .int a3]) F ws_in (t_X7_number h14) cs_X7_number ml_X7_118 hw rfl hl.1 rfl (Nat.le_of_ble_eq_true rfl) ⟨Nat.le_of_ble_eq_true rfl, Nat.le_of_ble_eq_true rfl⟩ ⟨Nat.le_of_ble_eq_true rfl, Nat.le_of_ble_eq_true rfl⟩ dX7_dayNumber_67 (fun H locs hw => ?_)
        obtain rfl := q_s hf
        exact J11 _ _ _ hw (lv_sub hl [] rfl)
      · have hf := q_f c12 hf
        refine lv_iconst (v := 0) hx hb dX7_dayNumber_60 (by decide) ?_
        refine lv_goto (tgt := 70) hx hb dX7_dayNumber_61 rfl ?_
        obtain rfl := q_s hf
        exact J11 _ _ _ hw (lv_sub hl [] rfl)
    have hf := hq17
    refine lv_if_eq (tgt := 53) hx hb dX7_dayNumber_46 rfl (fun c16 => ?_) (fun c16 => ?_)
    · have hf := q_t c16 hf
      refine lv_iconst (v := 1) hx hb dX7_dayNumber_53 (by decide) ?_
      obtain rfl := q_s hf
      exact J6 _ _ _ hw (lv_sub hl [2, 3, 4] rfl)
    · have hf := q_f c16 hf
      refine lv_iconst (v := 0) hx hb dX7_dayNumber_49 (by decide) ?_
      refine lv_goto (tgt := 54) hx hb dX7_dayNumber_50 rfl ?_
      obtain rfl := q_s hf
      exact J6 _ _ _ hw (lv_sub hl [2, 3, 4] rfl)
  have hf := hq27
  refine lv_if_eq (tgt := 40) hx hb dX7_dayNumber_10 rfl (fun c18 => ?_) (fun c18 => ?_)
  · have hf := q_t c18 hf
    refine lv_iconst (v := 0) hx hb dX7_dayNumber_40 (by decide) ?_
    obtain rfl := q_s hf
    exact J4 _ _ _ hw (lv_sub hl [0, 1, 2, 3] rfl)
  · have hf := q_f c18 hf
    refine lv_iload_n hx hb dX7_dayNumber_13 rfl (lv_at hl 2 rfl) ?_
    refine lv_iconst (v := 1) hx hb dX7_dayNumber_14 (by decide) ?_
    refine lv_bipush (v := 12) hx hb dX7_dayNumber_15 (by decide) ?_
    obtain ⟨r19, h20, hf⟩ := qbd_e hf
    refine k_callPi (rest := []) (As := [.int a2, .int (1 : Int32), .int (12 : Int32)]) F ws_in (t_X7_in h20) cs_X7_in ml_X7_122 hw rfl hl.1 rfl (Nat.le_of_ble_eq_true rfl) ⟨Nat.le_of_ble_eq_true rfl, Nat.le_of_ble_eq_true rfl⟩ ⟨Nat.le_of_ble_eq_true rfl, Nat.le_of_ble_eq_true rfl⟩ dX7_dayNumber_17 (fun H locs hw => ?_)
    refine lv_if_eq (tgt := 40) hx hb dX7_dayNumber_20 rfl (fun c21 => ?_) (fun c21 => ?_)
    · have hf := q_t c21 hf
      refine lv_iconst (v := 0) hx hb dX7_dayNumber_40 (by decide) ?_
      obtain rfl := q_s hf
      exact J4 _ _ _ hw (lv_sub hl [0, 1, 2, 3] rfl)
    · have hf := q_f c21 hf
      refine lv_iload_n hx hb dX7_dayNumber_23 rfl (lv_at hl 3 rfl) ?_
      refine lv_iconst (v := 1) hx hb dX7_dayNumber_24 (by decide) ?_
      refine lv_iload_n hx hb dX7_dayNumber_25 rfl (lv_at hl 1 rfl) ?_
      refine lv_iload_n hx hb dX7_dayNumber_26 rfl (lv_at hl 2 rfl) ?_
      obtain ⟨r22, h23, hf⟩ := qbd_e hf
      refine k_callPi (rest := [.int (1 : Int32), .int a3]) (As := [.int a1, .int a2]) F ws_in (t_X7_daysOfMonth h23) cs_X7_daysOfMonth ml_X7_101 hw rfl hl.1 rfl (Nat.le_of_ble_eq_true rfl) ⟨Nat.le_of_ble_eq_true rfl, Nat.le_of_ble_eq_true rfl⟩ ⟨Nat.le_of_ble_eq_true rfl, Nat.le_of_ble_eq_true rfl⟩ dX7_dayNumber_27 (fun H locs hw => ?_)
      obtain ⟨r24, h25, hf⟩ := qbd_e hf
      refine k_callPi (rest := []) (As := [.int a3, .int (1 : Int32), .int r22]) F ws_in (t_X7_in h25) cs_X7_in ml_X7_122 hw rfl hl.1 rfl (Nat.le_of_ble_eq_true rfl) ⟨Nat.le_of_ble_eq_true rfl, Nat.le_of_ble_eq_true rfl⟩ ⟨Nat.le_of_ble_eq_true rfl, Nat.le_of_ble_eq_true rfl⟩ dX7_dayNumber_30 (fun H locs hw => ?_)
      refine lv_if_eq (tgt := 40) hx hb dX7_dayNumber_33 rfl (fun c26 => ?_) (fun c26 => ?_)
      · have hf := q_t c26 hf
        refine lv_iconst (v := 0) hx hb dX7_dayNumber_40 (by decide) ?_
        obtain rfl := q_s hf
        exact J4 _ _ _ hw (lv_sub hl [0, 1, 2, 3] rfl)
      · have hf := q_f c26 hf
        refine lv_iconst (v := 1) hx hb dX7_dayNumber_36 (by decide) ?_
        refine lv_goto (tgt := 41) hx hb dX7_dayNumber_37 rfl ?_
        obtain rfl := q_s hf
        exact J4 _ _ _ hw (lv_sub hl [0, 1, 2, 3] rfl)
def f_X7_dayNumberByMonths (n : Nat) (x : SX) (a1 : Int32) (a2 : Int32) (a3 : Int32) : Option (Int32 × SX) := (qbd2 (f_X7_dayNumber n x a1 a2 a3) fun r1 x2 => some (r1, x2))
set_option maxHeartbeats 4000000 in
set_option maxRecDepth 100000 in
theorem t_X7_dayNumberByMonths {G : gG} {l : Launch} {ad : Nat → Nat} {n : Nat} {x : SX} {a1 : Int32} {a2 : Int32} {a3 : Int32} {rv : Int32} {xr : SX} (hf : f_X7_dayNumberByMonths n x a1 a2 a3 = some (rv, xr)) : MetI G l yX7_dayNumberByMonths cX7_dayNumberByMonths 4 (some .int) 4 0 0 89 [.ref (ad 0), .int a1, .int a2, .int a3] (wM G ad x) (wM G ad xr) rv := by
  refine k_ofI (by decide) (Nat.le_of_ble_eq_true rfl) ?_
  intro p e s m args below meth c ls A F hr hlk hl hw
  have hx := F.1
  have hb := F.2.1
  have hl : lv_has ls 4 [(0, .ref (ad 0)), (1, .int a1), (2, .int a2), (3, .int a3)] := hl
  unfold f_X7_dayNumberByMonths at hf
  refine lv_aload_n hx hb dX7_dayNumberByMonths_0 rfl (lv_at hl 0 rfl) ?_
  refine lv_iload_n hx hb dX7_dayNumberByMonths_1 rfl (lv_at hl 1 rfl) ?_
  refine lv_iload_n hx hb dX7_dayNumberByMonths_2 rfl (lv_at hl 2 rfl) ?_
  refine lv_iload_n hx hb dX7_dayNumberByMonths_3 rfl (lv_at hl 3 rfl) ?_
  obtain ⟨r1, x2, h3, hf⟩ := qbd2_e hf
  refine k_callVi' (rest := []) (As := [.int a1, .int a2, .int a3]) F ws_in (t_X7_dayNumber h3) cv_X7_dayNumber ml_X7_130 hw 0 rfl rfl rfl hl.1 rfl (Nat.le_of_ble_eq_true rfl) ⟨Nat.le_of_ble_eq_true rfl, Nat.le_of_ble_eq_true rfl⟩ ⟨Nat.le_of_ble_eq_true rfl, Nat.le_of_ble_eq_true rfl⟩ dX7_dayNumberByMonths_4 (fun H locs hw => ?_)
  obtain ⟨rfl, rfl⟩ := q_s2 hf
  exact k_iret F hr hlk hw (Nat.le_of_ble_eq_true rfl) (Nat.le_of_ble_eq_true rfl) dX7_dayNumberByMonths_7
def f_X7_isDay (n : Nat) (x : SX) (a1 : Int32) : Option (Int32) := (qbd (f_X7_in n a1 (0 : Int32) (36524 : Int32)) fun r1 => (qgd (qz r1) (some r1)))
set_option maxHeartbeats 4000000 in
set_option maxRecDepth 100000 in
theorem t_X7_isDay {G : gG} {l : Launch} {ad : Nat → Nat} {n : Nat} {x : SX} {a1 : Int32} {rv : Int32} (hf : f_X7_isDay n x a1 = some rv) : MetI G l yX7_isDay cX7_isDay 2 (some .boolean) 1 0 0 22 [.ref (ad 0), .int a1] (wM G ad x) (wM G ad x) rv := by
  refine k_ofI (by decide) (Nat.le_of_ble_eq_true rfl) ?_
  intro p e s m args below meth c ls A F hr hlk hl hw
  have hx := F.1
  have hb := F.2.1
  have hl : lv_has ls 2 [(0, .ref (ad 0)), (1, .int a1)] := hl
  unfold f_X7_isDay at hf
  refine lv_iload_n hx hb dX7_isDay_0 rfl (lv_at hl 1 rfl) ?_
  refine lv_iconst (v := 0) hx hb dX7_isDay_1 (by decide) ?_
  refine lv_ldc (v := (36524 : Int32)) hx hb F.2.2.2.1 (F.2.2.2.2 _ (ws_in _ ct_X7_133)) dX7_isDay_2 ?_
  obtain ⟨r1, h2, hf⟩ := qbd_e hf
  refine k_callPi (rest := []) (As := [.int a1, .int (0 : Int32), .int (36524 : Int32)]) F ws_in (t_X7_in h2) cs_X7_in ml_X7_122 hw rfl hl.1 rfl (Nat.le_of_ble_eq_true rfl) ⟨Nat.le_of_ble_eq_true rfl, Nat.le_of_ble_eq_true rfl⟩ ⟨Nat.le_of_ble_eq_true rfl, Nat.le_of_ble_eq_true rfl⟩ dX7_isDay_4 (fun H locs hw => ?_)
  obtain ⟨g3, hf⟩ := qgd_e hf
  obtain rfl := q_s hf
  exact k_zret F hr hlk hw (qz_n g3) (Nat.le_of_ble_eq_true rfl) (Nat.le_of_ble_eq_true rfl) dX7_isDay_7
def f_X7_yearOf (n : Nat) (x : SX) (a1 : Int32) : Option (Int32 × SX) := (qbd (f_X7_isDay n x a1) fun r1 => (qbd (if r1 = 0 then some (1 : Int32) else some (0 : Int32)) fun v3 => (qbd2 (f_X7_fails n x v3) fun r5 x6 => (if r5 = 0 then (qbd (f_X7_splits n x6 a1) fun x9 => some ((x9.1 0 27), x9)) else some ((0 : Int32), x6)))))
set_option maxHeartbeats 4000000 in
set_option maxRecDepth 100000 in
theorem t_X7_yearOf {G : gG} {l : Launch} {ad : Nat → Nat} {n : Nat} {x : SX} {a1 : Int32} {rv : Int32} {xr : SX} (hf : f_X7_yearOf n x a1 = some (rv, xr)) : MetI G l yX7_yearOf cX7_yearOf 2 (some .int) 3 0 0 63 [.ref (ad 0), .int a1] (wM G ad x) (wM G ad xr) rv := by
  refine k_ofI (by decide) (Nat.le_of_ble_eq_true rfl) ?_
  intro p e s m args below meth c ls A F hr hlk hl hw
  have hx := F.1
  have hb := F.2.1
  have hl : lv_has ls 2 [(0, .ref (ad 0)), (1, .int a1)] := hl
  unfold f_X7_yearOf at hf
  refine lv_aload_n hx hb dX7_yearOf_0 rfl (lv_at hl 0 rfl) ?_
  refine lv_aload_n hx hb dX7_yearOf_1 rfl (lv_at hl 0 rfl) ?_
  refine lv_iload_n hx hb dX7_yearOf_2 rfl (lv_at hl 1 rfl) ?_
  obtain ⟨r1, h2, hf⟩ := qbd_e hf
  refine k_callVi' (rest := [.ref (ad 0)]) (As := [.int a1]) F ws_in (t_X7_isDay h2) cv_X7_isDay ml_X7_134 hw 0 rfl rfl rfl hl.1 rfl (Nat.le_of_ble_eq_true rfl) ⟨Nat.le_of_ble_eq_true rfl, Nat.le_of_ble_eq_true rfl⟩ ⟨Nat.le_of_ble_eq_true rfl, Nat.le_of_ble_eq_true rfl⟩ dX7_yearOf_3 (fun H locs hw => ?_)
  obtain ⟨v3, hq12, hf⟩ := qbd_e hf
  have J4 : ∀ (H : Heap) (locs : List Loc) (ls : Array Slot), Wd G (wM G ad x) A s H locs → lv_has ls 2 [(0, .ref (ad 0)), (1, .int a1)] → W p l e (rmk 3 0 0 63) s m args below meth c H locs 0 0 (KQI G below args s A (wM G ad xr) rv 0 0) (F0 m 14 ls [.int v3, .ref (ad 0)]) := by
    intro H locs ls hw hl
    obtain ⟨r5, x6, h7, hf⟩ := qbd2_e hf
    refine k_callVi' (rest := []) (As := [.int v3]) F ws_in (t_X7_fails h7) cv_X7_fails ml_X7_126 hw 0 rfl rfl rfl hl.1 rfl (Nat.le_of_ble_eq_true rfl) ⟨Nat.le_of_ble_eq_true rfl, Nat.le_of_ble_eq_true rfl⟩ ⟨Nat.le_of_ble_eq_true rfl, Nat.le_of_ble_eq_true rfl⟩ dX7_yearOf_14 (fun H locs hw => ?_)
    refine lv_if_eq (tgt := 22) hx hb dX7_yearOf_17 rfl (fun c8 => ?_) (fun c8 => ?_)
    · have hf := q_t c8 hf
      refine lv_aload_n hx hb dX7_yearOf_22 rfl (lv_at hl 0 rfl) ?_
      refine lv_iload_n hx hb dX7_yearOf_23 rfl (lv_at hl 1 rfl) ?_
      obtain ⟨x9, h10, hf⟩ := qbd_e hf
      refine k_callVv' (rest := []) (As := [.int a1]) F ws_in (t_X7_splits h10) cv_X7_splits ml_X7_114 hw 0 rfl rfl rfl hl.1 rfl (Nat.le_of_ble_eq_true rfl) ⟨Nat.le_of_ble_eq_true rfl, Nat.le_of_ble_eq_true rfl⟩ ⟨Nat.le_of_ble_eq_true rfl, Nat.le_of_ble_eq_true rfl⟩ dX7_yearOf_24 (fun H locs hw => ?_)
      refine lv_aload_n hx hb dX7_yearOf_27 rfl (lv_at hl 0 rfl) ?_
      refine M_g_0_27 F ws_in hw fl_X7_105 dX7_yearOf_28 ?_
      obtain ⟨rfl, rfl⟩ := q_s2 hf
      exact k_iret F hr hlk hw (Nat.le_of_ble_eq_true rfl) (Nat.le_of_ble_eq_true rfl) dX7_yearOf_31
    · have hf := q_f c8 hf
      refine lv_iconst (v := 0) hx hb dX7_yearOf_20 (by decide) ?_
      obtain ⟨rfl, rfl⟩ := q_s2 hf
      exact k_iret F hr hlk hw (Nat.le_of_ble_eq_true rfl) (Nat.le_of_ble_eq_true rfl) dX7_yearOf_21
  have hf := hq12
  refine lv_if_eq (tgt := 13) hx hb dX7_yearOf_6 rfl (fun c11 => ?_) (fun c11 => ?_)
  · have hf := q_t c11 hf
    refine lv_iconst (v := 1) hx hb dX7_yearOf_13 (by decide) ?_
    obtain rfl := q_s hf
    exact J4 _ _ _ hw (lv_sub hl [0, 1] rfl)
  · have hf := q_f c11 hf
    refine lv_iconst (v := 0) hx hb dX7_yearOf_9 (by decide) ?_
    refine lv_goto (tgt := 14) hx hb dX7_yearOf_10 rfl ?_
    obtain rfl := q_s hf
    exact J4 _ _ _ hw (lv_sub hl [0, 1] rfl)
def f_X7_monthOf (n : Nat) (x : SX) (a1 : Int32) : Option (Int32 × SX) := (qbd (f_X7_isDay n x a1) fun r1 => (qbd (if r1 = 0 then some (1 : Int32) else some (0 : Int32)) fun v3 => (qbd2 (f_X7_fails n x v3) fun r5 x6 => (if r5 = 0 then (qbd (f_X7_splits n x6 a1) fun x9 => some ((x9.1 0 28), x9)) else some ((0 : Int32), x6)))))
set_option maxHeartbeats 4000000 in
set_option maxRecDepth 100000 in
theorem t_X7_monthOf {G : gG} {l : Launch} {ad : Nat → Nat} {n : Nat} {x : SX} {a1 : Int32} {rv : Int32} {xr : SX} (hf : f_X7_monthOf n x a1 = some (rv, xr)) : MetI G l yX7_monthOf cX7_monthOf 2 (some .int) 3 0 0 63 [.ref (ad 0), .int a1] (wM G ad x) (wM G ad xr) rv := by
  refine k_ofI (by decide) (Nat.le_of_ble_eq_true rfl) ?_
  intro p e s m args below meth c ls A F hr hlk hl hw
  have hx := F.1
  have hb := F.2.1
  have hl : lv_has ls 2 [(0, .ref (ad 0)), (1, .int a1)] := hl
  unfold f_X7_monthOf at hf
  refine lv_aload_n hx hb dX7_monthOf_0 rfl (lv_at hl 0 rfl) ?_
  refine lv_aload_n hx hb dX7_monthOf_1 rfl (lv_at hl 0 rfl) ?_
  refine lv_iload_n hx hb dX7_monthOf_2 rfl (lv_at hl 1 rfl) ?_
  obtain ⟨r1, h2, hf⟩ := qbd_e hf
  refine k_callVi' (rest := [.ref (ad 0)]) (As := [.int a1]) F ws_in (t_X7_isDay h2) cv_X7_isDay ml_X7_134 hw 0 rfl rfl rfl hl.1 rfl (Nat.le_of_ble_eq_true rfl) ⟨Nat.le_of_ble_eq_true rfl, Nat.le_of_ble_eq_true rfl⟩ ⟨Nat.le_of_ble_eq_true rfl, Nat.le_of_ble_eq_true rfl⟩ dX7_monthOf_3 (fun H locs hw => ?_)
  obtain ⟨v3, hq12, hf⟩ := qbd_e hf
  have J4 : ∀ (H : Heap) (locs : List Loc) (ls : Array Slot), Wd G (wM G ad x) A s H locs → lv_has ls 2 [(0, .ref (ad 0)), (1, .int a1)] → W p l e (rmk 3 0 0 63) s m args below meth c H locs 0 0 (KQI G below args s A (wM G ad xr) rv 0 0) (F0 m 14 ls [.int v3, .ref (ad 0)]) := by
    intro H locs ls hw hl
    obtain ⟨r5, x6, h7, hf⟩ := qbd2_e hf
    refine k_callVi' (rest := []) (As := [.int v3]) F ws_in (t_X7_fails h7) cv_X7_fails ml_X7_126 hw 0 rfl rfl rfl hl.1 rfl (Nat.le_of_ble_eq_true rfl) ⟨Nat.le_of_ble_eq_true rfl, Nat.le_of_ble_eq_true rfl⟩ ⟨Nat.le_of_ble_eq_true rfl, Nat.le_of_ble_eq_true rfl⟩ dX7_monthOf_14 (fun H locs hw => ?_)
    refine lv_if_eq (tgt := 22) hx hb dX7_monthOf_17 rfl (fun c8 => ?_) (fun c8 => ?_)
    · have hf := q_t c8 hf
      refine lv_aload_n hx hb dX7_monthOf_22 rfl (lv_at hl 0 rfl) ?_
      refine lv_iload_n hx hb dX7_monthOf_23 rfl (lv_at hl 1 rfl) ?_
      obtain ⟨x9, h10, hf⟩ := qbd_e hf
      refine k_callVv' (rest := []) (As := [.int a1]) F ws_in (t_X7_splits h10) cv_X7_splits ml_X7_114 hw 0 rfl rfl rfl hl.1 rfl (Nat.le_of_ble_eq_true rfl) ⟨Nat.le_of_ble_eq_true rfl, Nat.le_of_ble_eq_true rfl⟩ ⟨Nat.le_of_ble_eq_true rfl, Nat.le_of_ble_eq_true rfl⟩ dX7_monthOf_24 (fun H locs hw => ?_)
      refine lv_aload_n hx hb dX7_monthOf_27 rfl (lv_at hl 0 rfl) ?_
      refine M_g_0_28 F ws_in hw fl_X7_108 dX7_monthOf_28 ?_
      obtain ⟨rfl, rfl⟩ := q_s2 hf
      exact k_iret F hr hlk hw (Nat.le_of_ble_eq_true rfl) (Nat.le_of_ble_eq_true rfl) dX7_monthOf_31
    · have hf := q_f c8 hf
      refine lv_iconst (v := 0) hx hb dX7_monthOf_20 (by decide) ?_
      obtain ⟨rfl, rfl⟩ := q_s2 hf
      exact k_iret F hr hlk hw (Nat.le_of_ble_eq_true rfl) (Nat.le_of_ble_eq_true rfl) dX7_monthOf_21
  have hf := hq12
  refine lv_if_eq (tgt := 13) hx hb dX7_monthOf_6 rfl (fun c11 => ?_) (fun c11 => ?_)
  · have hf := q_t c11 hf
    refine lv_iconst (v := 1) hx hb dX7_monthOf_13 (by decide) ?_
    obtain rfl := q_s hf
    exact J4 _ _ _ hw (lv_sub hl [0, 1] rfl)
  · have hf := q_f c11 hf
    refine lv_iconst (v := 0) hx hb dX7_monthOf_9 (by decide) ?_
    refine lv_goto (tgt := 14) hx hb dX7_monthOf_10 rfl ?_
    obtain rfl := q_s hf
    exact J4 _ _ _ hw (lv_sub hl [0, 1] rfl)
def f_X7_dayOfMonth (n : Nat) (x : SX) (a1 : Int32) : Option (Int32 × SX) := (qbd (f_X7_isDay n x a1) fun r1 => (qbd (if r1 = 0 then some (1 : Int32) else some (0 : Int32)) fun v3 => (qbd2 (f_X7_fails n x v3) fun r5 x6 => (if r5 = 0 then (qbd (f_X7_splits n x6 a1) fun x9 => some ((x9.1 0 29), x9)) else some ((0 : Int32), x6)))))
set_option maxHeartbeats 4000000 in
set_option maxRecDepth 100000 in
theorem t_X7_dayOfMonth {G : gG} {l : Launch} {ad : Nat → Nat} {n : Nat} {x : SX} {a1 : Int32} {rv : Int32} {xr : SX} (hf : f_X7_dayOfMonth n x a1 = some (rv, xr)) : MetI G l yX7_dayOfMonth cX7_dayOfMonth 2 (some .int) 3 0 0 63 [.ref (ad 0), .int a1] (wM G ad x) (wM G ad xr) rv := by
  refine k_ofI (by decide) (Nat.le_of_ble_eq_true rfl) ?_
  intro p e s m args below meth c ls A F hr hlk hl hw
  have hx := F.1
  have hb := F.2.1
  have hl : lv_has ls 2 [(0, .ref (ad 0)), (1, .int a1)] := hl
  unfold f_X7_dayOfMonth at hf
  refine lv_aload_n hx hb dX7_dayOfMonth_0 rfl (lv_at hl 0 rfl) ?_
  refine lv_aload_n hx hb dX7_dayOfMonth_1 rfl (lv_at hl 0 rfl) ?_
  refine lv_iload_n hx hb dX7_dayOfMonth_2 rfl (lv_at hl 1 rfl) ?_
  obtain ⟨r1, h2, hf⟩ := qbd_e hf
  refine k_callVi' (rest := [.ref (ad 0)]) (As := [.int a1]) F ws_in (t_X7_isDay h2) cv_X7_isDay ml_X7_134 hw 0 rfl rfl rfl hl.1 rfl (Nat.le_of_ble_eq_true rfl) ⟨Nat.le_of_ble_eq_true rfl, Nat.le_of_ble_eq_true rfl⟩ ⟨Nat.le_of_ble_eq_true rfl, Nat.le_of_ble_eq_true rfl⟩ dX7_dayOfMonth_3 (fun H locs hw => ?_)
  obtain ⟨v3, hq12, hf⟩ := qbd_e hf
  have J4 : ∀ (H : Heap) (locs : List Loc) (ls : Array Slot), Wd G (wM G ad x) A s H locs → lv_has ls 2 [(0, .ref (ad 0)), (1, .int a1)] → W p l e (rmk 3 0 0 63) s m args below meth c H locs 0 0 (KQI G below args s A (wM G ad xr) rv 0 0) (F0 m 14 ls [.int v3, .ref (ad 0)]) := by
    intro H locs ls hw hl
    obtain ⟨r5, x6, h7, hf⟩ := qbd2_e hf
    refine k_callVi' (rest := []) (As := [.int v3]) F ws_in (t_X7_fails h7) cv_X7_fails ml_X7_126 hw 0 rfl rfl rfl hl.1 rfl (Nat.le_of_ble_eq_true rfl) ⟨Nat.le_of_ble_eq_true rfl, Nat.le_of_ble_eq_true rfl⟩ ⟨Nat.le_of_ble_eq_true rfl, Nat.le_of_ble_eq_true rfl⟩ dX7_dayOfMonth_14 (fun H locs hw => ?_)
    refine lv_if_eq (tgt := 22) hx hb dX7_dayOfMonth_17 rfl (fun c8 => ?_) (fun c8 => ?_)
    · have hf := q_t c8 hf
      refine lv_aload_n hx hb dX7_dayOfMonth_22 rfl (lv_at hl 0 rfl) ?_
      refine lv_iload_n hx hb dX7_dayOfMonth_23 rfl (lv_at hl 1 rfl) ?_
      obtain ⟨x9, h10, hf⟩ := qbd_e hf
      refine k_callVv' (rest := []) (As := [.int a1]) F ws_in (t_X7_splits h10) cv_X7_splits ml_X7_114 hw 0 rfl rfl rfl hl.1 rfl (Nat.le_of_ble_eq_true rfl) ⟨Nat.le_of_ble_eq_true rfl, Nat.le_of_ble_eq_true rfl⟩ ⟨Nat.le_of_ble_eq_true rfl, Nat.le_of_ble_eq_true rfl⟩ dX7_dayOfMonth_24 (fun H locs hw => ?_)
      refine lv_aload_n hx hb dX7_dayOfMonth_27 rfl (lv_at hl 0 rfl) ?_
      refine M_g_0_29 F ws_in hw fl_X7_111 dX7_dayOfMonth_28 ?_
      obtain ⟨rfl, rfl⟩ := q_s2 hf
      exact k_iret F hr hlk hw (Nat.le_of_ble_eq_true rfl) (Nat.le_of_ble_eq_true rfl) dX7_dayOfMonth_31
    · have hf := q_f c8 hf
      refine lv_iconst (v := 0) hx hb dX7_dayOfMonth_20 (by decide) ?_
      obtain ⟨rfl, rfl⟩ := q_s2 hf
      exact k_iret F hr hlk hw (Nat.le_of_ble_eq_true rfl) (Nat.le_of_ble_eq_true rfl) dX7_dayOfMonth_21
  have hf := hq12
  refine lv_if_eq (tgt := 13) hx hb dX7_dayOfMonth_6 rfl (fun c11 => ?_) (fun c11 => ?_)
  · have hf := q_t c11 hf
    refine lv_iconst (v := 1) hx hb dX7_dayOfMonth_13 (by decide) ?_
    obtain rfl := q_s hf
    exact J4 _ _ _ hw (lv_sub hl [0, 1] rfl)
  · have hf := q_f c11 hf
    refine lv_iconst (v := 0) hx hb dX7_dayOfMonth_9 (by decide) ?_
    refine lv_goto (tgt := 14) hx hb dX7_dayOfMonth_10 rfl ?_
    obtain rfl := q_s hf
    exact J4 _ _ _ hw (lv_sub hl [0, 1] rfl)
def f_X7_monthsAfter (n : Nat) (x : SX) (a1 : Int32) (a2 : Int32) : Option (Int32 × SX) := (qbd (f_X7_isDay n x a1) fun r1 => (qbd2 (if r1 = 0 then some ((0 : Int32), x) else (qbd (f_X7_in n a2 (0 : Int32) (60 : Int32)) fun r22 => (if r22 = 0 then some ((0 : Int32), x) else (qbd2 (f_X7_later n x a1 a2) fun r25 x26 => (if (36524 : Int32) < r25 then some ((0 : Int32), x26) else some ((1 : Int32), x26)))))) fun v3 x4 => (qbd (if v3 = 0 then some (1 : Int32) else some (0 : Int32)) fun v6 => (qbd2 (f_X7_fails n x4 v6) fun r8 x9 => (qbd2 (if r8 = 0 then (qbd2 (f_X7_later n x9 a1 a2) fun r15 x16 => some (r15, x16)) else some ((0 : Int32), x9)) fun v11 x12 => some (v11, x12))))))
set_option maxHeartbeats 4000000 in
set_option maxRecDepth 100000 in
theorem t_X7_monthsAfter {G : gG} {l : Launch} {ad : Nat → Nat} {n : Nat} {x : SX} {a1 : Int32} {a2 : Int32} {rv : Int32} {xr : SX} (hf : f_X7_monthsAfter n x a1 a2 = some (rv, xr)) : MetI G l yX7_monthsAfter cX7_monthsAfter 4 (some .int) 4 0 0 89 [.ref (ad 0), .int a1, .int a2] (wM G ad x) (wM G ad xr) rv := by
  refine k_ofI (by decide) (Nat.le_of_ble_eq_true rfl) ?_
  intro p e s m args below meth c ls A F hr hlk hl hw
  have hx := F.1
  have hb := F.2.1
  have hl : lv_has ls 4 [(0, .ref (ad 0)), (1, .int a1), (2, .int a2)] := hl
  unfold f_X7_monthsAfter at hf
  refine lv_aload_n hx hb dX7_monthsAfter_0 rfl (lv_at hl 0 rfl) ?_
  refine lv_iload_n hx hb dX7_monthsAfter_1 rfl (lv_at hl 1 rfl) ?_
  obtain ⟨r1, h2, hf⟩ := qbd_e hf
  refine k_callVi' (rest := []) (As := [.int a1]) F ws_in (t_X7_isDay h2) cv_X7_isDay ml_X7_134 hw 0 rfl rfl rfl hl.1 rfl (Nat.le_of_ble_eq_true rfl) ⟨Nat.le_of_ble_eq_true rfl, Nat.le_of_ble_eq_true rfl⟩ ⟨Nat.le_of_ble_eq_true rfl, Nat.le_of_ble_eq_true rfl⟩ dX7_monthsAfter_2 (fun H locs hw => ?_)
  obtain ⟨v3, x4, hq29, hf⟩ := qbd2_e hf
  have J5 : ∀ (H : Heap) (locs : List Loc) (ls : Array Slot), Wd G (wM G ad x4) A s H locs → lv_has ls 4 [(0, .ref (ad 0)), (1, .int a1), (2, .int a2)] → W p l e (rmk 4 0 0 89) s m args below meth c H locs 0 0 (KQI G below args s A (wM G ad xr) rv 0 0) (F0 m 34 ls [.int v3]) := by
    intro H locs ls hw hl
    refine lv_istore_n (lv' := [(3, .int v3), (0, .ref (ad 0)), (1, .int a1), (2, .int a2)]) hx hb dX7_monthsAfter_34 rfl hl (Nat.le_of_ble_eq_true rfl) rfl (fun ls hl => ?_)
    refine lv_aload_n hx hb dX7_monthsAfter_35 rfl (lv_at hl 1 rfl) ?_
    refine lv_iload_n hx hb dX7_monthsAfter_36 rfl (lv_at hl 0 rfl) ?_
    obtain ⟨v6, hq20, hf⟩ := qbd_e hf
    have J7 : ∀ (H : Heap) (locs : List Loc) (ls : Array Slot), Wd G (wM G ad x4) A s H locs → lv_has ls 4 [(0, .ref (ad 0)), (1, .int a1), (2, .int a2)] → W p l e (rmk 4 0 0 89) s m args below meth c H locs 0 0 (KQI G below args s A (wM G ad xr) rv 0 0) (F0 m 45 ls [.int v6, .ref (ad 0)]) := by
      intro H locs ls hw hl
      obtain ⟨r8, x9, h10, hf⟩ := qbd2_e hf
      refine k_callVi' (rest := []) (As := [.int v6]) F ws_in (t_X7_fails h10) cv_X7_fails ml_X7_126 hw 0 rfl rfl rfl hl.1 rfl (Nat.le_of_ble_eq_true rfl) ⟨Nat.le_of_ble_eq_true rfl, Nat.le_of_ble_eq_true rfl⟩ ⟨Nat.le_of_ble_eq_true rfl, Nat.le_of_ble_eq_true rfl⟩ dX7_monthsAfter_45 (fun H locs hw => ?_)
      obtain ⟨v11, x12, hq18, hf⟩ := qbd2_e hf
      have J13 : ∀ (H : Heap) (locs : List Loc) (ls : Array Slot), Wd G (wM G ad x12) A s H locs → lv_has ls 4 [] → W p l e (rmk 4 0 0 89) s m args below meth c H locs 0 0 (KQI G below args s A (wM G ad xr) rv 0 0) (F0 m 61 ls [.int v11]) := by
        intro H locs ls hw hl
        obtain ⟨rfl, rfl⟩ := q_s2 hf
        exact k_iret F hr hlk hw (Nat.le_of_ble_eq_true rfl) (Nat.le_of_ble_eq_true rfl) dX7_monthsAfter_61
      have hf := hq18
      refine lv_if_eq (tgt := 55) hx hb dX7_monthsAfter_48 rfl (fun c14 => ?_) (fun c14 => ?_)
      · have hf := q_t c14 hf
        refine lv_aload_n hx hb dX7_monthsAfter_55 rfl (lv_at hl 0 rfl) ?_
        refine lv_iload_n hx hb dX7_monthsAfter_56 rfl (lv_at hl 1 rfl) ?_
        refine lv_iload_n hx hb dX7_monthsAfter_57 rfl (lv_at hl 2 rfl) ?_
        obtain ⟨r15, x16, h17, hf⟩ := qbd2_e hf
        refine k_callVi' (rest := []) (As := [.int a1, .int a2]) F ws_in (t_X7_later h17) cv_X7_later ml_X7_137 hw 0 rfl rfl rfl hl.1 rfl (Nat.le_of_ble_eq_true rfl) ⟨Nat.le_of_ble_eq_true rfl, Nat.le_of_ble_eq_true rfl⟩ ⟨Nat.le_of_ble_eq_true rfl, Nat.le_of_ble_eq_true rfl⟩ dX7_monthsAfter_58 (fun H locs hw => ?_)
        obtain ⟨rfl, rfl⟩ := q_s2 hf
        exact J13 _ _ _ hw (lv_sub hl [] rfl)
      · have hf := q_f c14 hf
        refine lv_iconst (v := 0) hx hb dX7_monthsAfter_51 (by decide) ?_
        refine lv_goto (tgt := 61) hx hb dX7_monthsAfter_52 rfl ?_
        obtain ⟨rfl, rfl⟩ := q_s2 hf
        exact J13 _ _ _ hw (lv_sub hl [] rfl)
    have hf := hq20
    refine lv_if_eq (tgt := 44) hx hb dX7_monthsAfter_37 rfl (fun c19 => ?_) (fun c19 => ?_)
    · have hf := q_t c19 hf
      refine lv_iconst (v := 1) hx hb dX7_monthsAfter_44 (by decide) ?_
      obtain rfl := q_s hf
      exact J7 _ _ _ hw (lv_sub hl [1, 2, 3] rfl)
    · have hf := q_f c19 hf
      refine lv_iconst (v := 0) hx hb dX7_monthsAfter_40 (by decide) ?_
      refine lv_goto (tgt := 45) hx hb dX7_monthsAfter_41 rfl ?_
      obtain rfl := q_s hf
      exact J7 _ _ _ hw (lv_sub hl [1, 2, 3] rfl)
  have hf := hq29
  refine lv_if_eq (tgt := 33) hx hb dX7_monthsAfter_5 rfl (fun c21 => ?_) (fun c21 => ?_)
  · have hf := q_t c21 hf
    refine lv_iconst (v := 0) hx hb dX7_monthsAfter_33 (by decide) ?_
    obtain ⟨rfl, rfl⟩ := q_s2 hf
    exact J5 _ _ _ hw (lv_sub hl [0, 1, 2] rfl)
  · have hf := q_f c21 hf
    refine lv_iload_n hx hb dX7_monthsAfter_8 rfl (lv_at hl 2 rfl) ?_
    refine lv_iconst (v := 0) hx hb dX7_monthsAfter_9 (by decide) ?_
    refine lv_bipush (v := 60) hx hb dX7_monthsAfter_10 (by decide) ?_
    obtain ⟨r22, h23, hf⟩ := qbd_e hf
    refine k_callPi (rest := []) (As := [.int a2, .int (0 : Int32), .int (60 : Int32)]) F ws_in (t_X7_in h23) cs_X7_in ml_X7_122 hw rfl hl.1 rfl (Nat.le_of_ble_eq_true rfl) ⟨Nat.le_of_ble_eq_true rfl, Nat.le_of_ble_eq_true rfl⟩ ⟨Nat.le_of_ble_eq_true rfl, Nat.le_of_ble_eq_true rfl⟩ dX7_monthsAfter_12 (fun H locs hw => ?_)
    refine lv_if_eq (tgt := 33) hx hb dX7_monthsAfter_15 rfl (fun c24 => ?_) (fun c24 => ?_)
    · have hf := q_t c24 hf
      refine lv_iconst (v := 0) hx hb dX7_monthsAfter_33 (by decide) ?_
      obtain ⟨rfl, rfl⟩ := q_s2 hf
      exact J5 _ _ _ hw (lv_sub hl [0, 1, 2] rfl)
    · have hf := q_f c24 hf
      refine lv_aload_n hx hb dX7_monthsAfter_18 rfl (lv_at hl 0 rfl) ?_
      refine lv_iload_n hx hb dX7_monthsAfter_19 rfl (lv_at hl 1 rfl) ?_
      refine lv_iload_n hx hb dX7_monthsAfter_20 rfl (lv_at hl 2 rfl) ?_
      obtain ⟨r25, x26, h27, hf⟩ := qbd2_e hf
      refine k_callVi' (rest := []) (As := [.int a1, .int a2]) F ws_in (t_X7_later h27) cv_X7_later ml_X7_137 hw 0 rfl rfl rfl hl.1 rfl (Nat.le_of_ble_eq_true rfl) ⟨Nat.le_of_ble_eq_true rfl, Nat.le_of_ble_eq_true rfl⟩ ⟨Nat.le_of_ble_eq_true rfl, Nat.le_of_ble_eq_true rfl⟩ dX7_monthsAfter_21 (fun H locs hw => ?_)
      refine lv_ldc (v := (36524 : Int32)) hx hb F.2.2.2.1 (F.2.2.2.2 _ (ws_in _ ct_X7_133)) dX7_monthsAfter_24 ?_
      refine lv_icmp_gt (tgt := 33) hx hb dX7_monthsAfter_26 rfl (fun c28 => ?_) (fun c28 => ?_)
      · have hf := q_t c28 hf
        refine lv_iconst (v := 0) hx hb dX7_monthsAfter_33 (by decide) ?_
        obtain ⟨rfl, rfl⟩ := q_s2 hf
        exact J5 _ _ _ hw (lv_sub hl [0, 1, 2] rfl)
      · have hf := q_f c28 hf
        refine lv_iconst (v := 1) hx hb dX7_monthsAfter_29 (by decide) ?_
        refine lv_goto (tgt := 34) hx hb dX7_monthsAfter_30 rfl ?_
        obtain ⟨rfl, rfl⟩ := q_s2 hf
        exact J5 _ _ _ hw (lv_sub hl [0, 1, 2] rfl)
def f_X7_isTerm (n : Nat) (x : SX) (a1 : Int32) : Option (Int32) := (qbd (f_X7_in n a1 (0 : Int32) ((x.1 0 6) - (1 : Int32))) fun r1 => (qgd (qz r1) (some r1)))
set_option maxHeartbeats 4000000 in
set_option maxRecDepth 100000 in
theorem t_X7_isTerm {G : gG} {l : Launch} {ad : Nat → Nat} {n : Nat} {x : SX} {a1 : Int32} {rv : Int32} (hf : f_X7_isTerm n x a1 = some rv) : MetI G l yX7_isTerm cX7_isTerm 2 (some .boolean) 1 0 0 22 [.ref (ad 0), .int a1] (wM G ad x) (wM G ad x) rv := by
  refine k_ofI (by decide) (Nat.le_of_ble_eq_true rfl) ?_
  intro p e s m args below meth c ls A F hr hlk hl hw
  have hx := F.1
  have hb := F.2.1
  have hl : lv_has ls 2 [(0, .ref (ad 0)), (1, .int a1)] := hl
  unfold f_X7_isTerm at hf
  refine lv_iload_n hx hb dX7_isTerm_0 rfl (lv_at hl 1 rfl) ?_
  refine lv_iconst (v := 0) hx hb dX7_isTerm_1 (by decide) ?_
  refine lv_aload_n hx hb dX7_isTerm_2 rfl (lv_at hl 0 rfl) ?_
  refine M_g_0_6 F ws_in hw fl_X7_140 dX7_isTerm_3 ?_
  refine lv_iconst (v := 1) hx hb dX7_isTerm_6 (by decide) ?_
  refine lv_isub hx hb dX7_isTerm_7 ?_
  obtain ⟨r1, h2, hf⟩ := qbd_e hf
  refine k_callPi (rest := []) (As := [.int a1, .int (0 : Int32), .int ((x.1 0 6) - (1 : Int32))]) F ws_in (t_X7_in h2) cs_X7_in ml_X7_122 hw rfl hl.1 rfl (Nat.le_of_ble_eq_true rfl) ⟨Nat.le_of_ble_eq_true rfl, Nat.le_of_ble_eq_true rfl⟩ ⟨Nat.le_of_ble_eq_true rfl, Nat.le_of_ble_eq_true rfl⟩ dX7_isTerm_8 (fun H locs hw => ?_)
  obtain ⟨g3, hf⟩ := qgd_e hf
  obtain rfl := q_s hf
  exact k_zret F hr hlk hw (qz_n g3) (Nat.le_of_ble_eq_true rfl) (Nat.le_of_ble_eq_true rfl) dX7_isTerm_11
def f_X7_isIn (n : Nat) (x : SX) (a1 : Int32) : Option (Int32) := (qgd (qin a1 10) ((qbd (if (x.1 23 a1.toNatClampNeg) = 0 then some (1 : Int32) else some (0 : Int32)) fun v2 => (qgd (qz v2) (some v2)))))
set_option maxHeartbeats 4000000 in
set_option maxRecDepth 100000 in
theorem t_X7_isIn {G : gG} {l : Launch} {ad : Nat → Nat} {n : Nat} {x : SX} {a1 : Int32} {rv : Int32} (hf : f_X7_isIn n x a1 = some rv) : MetI G l yX7_isIn cX7_isIn 2 (some .boolean) 0 0 0 0 [.ref (ad 0), .int a1] (wM G ad x) (wM G ad x) rv := by
  refine k_ofI (by decide) (Nat.le_of_ble_eq_true rfl) ?_
  intro p e s m args below meth c ls A F hr hlk hl hw
  have hx := F.1
  have hb := F.2.1
  have hl : lv_has ls 2 [(0, .ref (ad 0)), (1, .int a1)] := hl
  unfold f_X7_isIn at hf
  refine lv_aload_n hx hb dX7_isIn_0 rfl (lv_at hl 0 rfl) ?_
  refine M_g_0_13 F ws_in hw fl_X7_35 dX7_isIn_1 ?_
  refine lv_iload_n hx hb dX7_isIn_4 rfl (lv_at hl 1 rfl) ?_
  obtain ⟨g1, hf⟩ := qgd_e hf
  refine M_l_23 F hw g1 dX7_isIn_5 ?_
  obtain ⟨v2, hq6, hf⟩ := qbd_e hf
  have J3 : ∀ (H : Heap) (locs : List Loc) (ls : Array Slot), Wd G (wM G ad x) A s H locs → lv_has ls 2 [] → W p l e (rmk 0 0 0 0) s m args below meth c H locs 0 0 (KQI G below args s A (wM G ad x) rv 0 0) (F0 m 14 ls [.int v2]) := by
    intro H locs ls hw hl
    obtain ⟨g4, hf⟩ := qgd_e hf
    obtain rfl := q_s hf
    exact k_zret F hr hlk hw (qz_n g4) (Nat.le_of_ble_eq_true rfl) (Nat.le_of_ble_eq_true rfl) dX7_isIn_14
  have hf := hq6
  refine lv_if_ne (tgt := 13) hx hb dX7_isIn_6 rfl (fun c5 => ?_) (fun c5 => ?_)
  · have hf := q_f c5 hf
    refine lv_iconst (v := 0) hx hb dX7_isIn_13 (by decide) ?_
    obtain rfl := q_s hf
    exact J3 _ _ _ hw (lv_sub hl [] rfl)
  · have hf := q_t c5 hf
    refine lv_iconst (v := 1) hx hb dX7_isIn_9 (by decide) ?_
    refine lv_goto (tgt := 14) hx hb dX7_isIn_10 rfl ?_
    obtain rfl := q_s hf
    exact J3 _ _ _ hw (lv_sub hl [] rfl)
def f_X7_partOf (n : Nat) (a1 : Int32) (a2 : Int32) : Option (Int32) := (qnm ((a2 + (1 : Int32)) / (2 : Int32)) fun v1 => (if a1 = 0 then some v1 else (if a1 = 1 then some ((((2 : Int32) * a2) + (2 : Int32)) / (3 : Int32)) else (if a1 = 2 then some a2 else (qbd (if v1 < (30 : Int32) then (if (30 : Int32) ≤ a2 then some (30 : Int32) else some a2) else some v1) fun v5 => some v5)))))
set_option maxHeartbeats 4000000 in
set_option maxRecDepth 100000 in
theorem t_X7_partOf {G : gG} {l : Launch} {n : Nat} {a1 : Int32} {a2 : Int32} {rv : Int32} (hf : f_X7_partOf n a1 a2 = some rv) : MetI G l yX7_partOf cX7_partOf 3 (some .int) 0 0 0 0 [.int a1, .int a2] (([] : va_W)) (([] : va_W)) rv := by
  refine k_ofI (by decide) (Nat.le_of_ble_eq_true rfl) ?_
  intro p e s m args below meth c ls A F hr hlk hl hw
  have hx := F.1
  have hb := F.2.1
  have hl : lv_has ls 3 [(0, .int a1), (1, .int a2)] := hl
  unfold f_X7_partOf at hf
  refine lv_iload_n hx hb dX7_partOf_0 rfl (lv_at hl 1 rfl) ?_
  refine lv_iconst (v := 1) hx hb dX7_partOf_1 (by decide) ?_
  refine lv_iadd hx hb dX7_partOf_2 ?_
  refine lv_iconst (v := 2) hx hb dX7_partOf_3 (by decide) ?_
  refine lv_idiv hx hb dX7_partOf_4 (by decide) ?_
  refine lv_topi (fun v1 ev1 => ?_)
  have hf := qnm_k ev1 hf
  refine lv_istore_n (lv' := [(2, .int v1), (0, .int a1), (1, .int a2)]) hx hb dX7_partOf_5 rfl hl (Nat.le_of_ble_eq_true rfl) rfl (fun ls hl => ?_)
  refine lv_iload_n hx hb dX7_partOf_6 rfl (lv_at hl 1 rfl) ?_
  by_cases c2 : a1 = 0
  · have hf := q_t c2 hf
    refine lv_tableIn (tgt := 32) (off := 25) hx hb dX7_partOf_7 (by rw [c2]; decide) (by rw [c2]; decide) (by rw [c2]; rfl) rfl ?_
    refine lv_iload_n hx hb dX7_partOf_32 rfl (lv_at hl 0 rfl) ?_
    obtain rfl := q_s hf
    exact k_iret F hr hlk hw (Nat.le_of_ble_eq_true rfl) (Nat.le_of_ble_eq_true rfl) dX7_partOf_33
  have hf := q_f c2 hf
  by_cases c3 : a1 = 1
  · have hf := q_t c3 hf
    refine lv_tableIn (tgt := 34) (off := 27) hx hb dX7_partOf_7 (by rw [c3]; decide) (by rw [c3]; decide) (by rw [c3]; rfl) rfl ?_
    refine lv_iconst (v := 2) hx hb dX7_partOf_34 (by decide) ?_
    refine lv_iload_n hx hb dX7_partOf_35 rfl (lv_at hl 2 rfl) ?_
    refine lv_imul hx hb dX7_partOf_36 ?_
    refine lv_iconst (v := 2) hx hb dX7_partOf_37 (by decide) ?_
    refine lv_iadd hx hb dX7_partOf_38 ?_
    refine lv_iconst (v := 3) hx hb dX7_partOf_39 (by decide) ?_
    refine lv_idiv hx hb dX7_partOf_40 (by decide) ?_
    obtain rfl := q_s hf
    exact k_iret F hr hlk hw (Nat.le_of_ble_eq_true rfl) (Nat.le_of_ble_eq_true rfl) dX7_partOf_41
  have hf := q_f c3 hf
  by_cases c4 : a1 = 2
  · have hf := q_t c4 hf
    refine lv_tableIn (tgt := 42) (off := 35) hx hb dX7_partOf_7 (by rw [c4]; decide) (by rw [c4]; decide) (by rw [c4]; rfl) rfl ?_
    refine lv_iload_n hx hb dX7_partOf_42 rfl (lv_at hl 2 rfl) ?_
    obtain rfl := q_s hf
    exact k_iret F hr hlk hw (Nat.le_of_ble_eq_true rfl) (Nat.le_of_ble_eq_true rfl) dX7_partOf_43
  have hf := q_f c4 hf
  refine lv_tableOut (tgt := 44) hx hb dX7_partOf_7 (by have z0 : ¬ a1.toInt = 0 := lv_neT c2 rfl; have z1 : ¬ a1.toInt = 1 := lv_neT c3 rfl; have z2 : ¬ a1.toInt = 2 := lv_neT c4 rfl; omega) rfl ?_
  refine lv_iload_n hx hb dX7_partOf_44 rfl (lv_at hl 0 rfl) ?_
  refine lv_bipush (v := 30) hx hb dX7_partOf_45 (by decide) ?_
  obtain ⟨v5, hq9, hf⟩ := qbd_e hf
  have J6 : ∀ (H : Heap) (locs : List Loc) (ls : Array Slot), Wd G (([] : va_W)) A s H locs → lv_has ls 3 [] → W p l e (rmk 0 0 0 0) s m args below meth c H locs 0 0 (KQI G below args s A (([] : va_W)) rv 0 0) (F0 m 66 ls [.int v5]) := by
    intro H locs ls hw hl
    obtain rfl := q_s hf
    exact k_iret F hr hlk hw (Nat.le_of_ble_eq_true rfl) (Nat.le_of_ble_eq_true rfl) dX7_partOf_66
  have hf := hq9
  refine lv_icmp_lt (tgt := 54) hx hb dX7_partOf_47 rfl (fun c7 => ?_) (fun c7 => ?_)
  · have hf := q_t c7 hf
    refine lv_iload_n hx hb dX7_partOf_54 rfl (lv_at hl 2 rfl) ?_
    refine lv_bipush (v := 30) hx hb dX7_partOf_55 (by decide) ?_
    refine lv_icmp_ge (tgt := 64) hx hb dX7_partOf_57 rfl (fun c8 => ?_) (fun c8 => ?_)
    · have hf := q_t c8 hf
      refine lv_bipush (v := 30) hx hb dX7_partOf_64 (by decide) ?_
      obtain rfl := q_s hf
      exact J6 _ _ _ hw (lv_sub hl [] rfl)
    · have hf := q_f c8 hf
      refine lv_iload_n hx hb dX7_partOf_60 rfl (lv_at hl 2 rfl) ?_
      refine lv_goto (tgt := 66) hx hb dX7_partOf_61 rfl ?_
      obtain rfl := q_s hf
      exact J6 _ _ _ hw (lv_sub hl [] rfl)
  · have hf := q_f c7 hf
    refine lv_iload_n hx hb dX7_partOf_50 rfl (lv_at hl 0 rfl) ?_
    refine lv_goto (tgt := 66) hx hb dX7_partOf_51 rfl ?_
    obtain rfl := q_s hf
    exact J6 _ _ _ hw (lv_sub hl [] rfl)
