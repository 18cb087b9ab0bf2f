def f_X7_isInChain_l5 (a1 : Int32) (x : SX) : Nat → Int32 → Int32 → Option (Int32)
  | 0, _, _ => none
  | m + 1, v1, v2 => (if v2 = (-1 : Int32) then (qgd (qz v1) (some v1)) else (qbd (if v1 = 0 then (if v2 = a1 then some (1 : Int32) else some (0 : Int32)) else some (1 : Int32)) fun v6 => (qgd (qin v2 10) ((qnm (x.1 22 v2.toNatClampNeg) fun v9 => (f_X7_isInChain_l5 a1 x m) v6 v9)))))
def f_X7_isInChain (n : Nat) (x : SX) (a1 : Int32) (a2 : Int32) : Option (Int32) := f_X7_isInChain_l5 a1 x n (0 : Int32) a2
set_option maxHeartbeats 4000000 in
set_option maxRecDepth 100000 in
theorem t_X7_isInChain {G : gG} {l : Launch} {ad : Nat → Nat} {n : Nat} {x : SX} {a1 : Int32} {a2 : Int32} {rv : Int32} (hf : f_X7_isInChain n x a1 a2 = some rv) : MetI G l yX7_isInChain cX7_isInChain 5 (some .boolean) 0 0 0 0 [.ref (ad 0), .int a1, .int a2] (wM G ad x) (wM G ad x) rv := by
  refine k_ofI (by decide) (Nat.le_of_ble_eq_true rfl) ?_
  intro p e s m args below meth c ls A F hr hlk hl hw
  have hx := F.1
  have hb := F.2.1
  have hl : lv_has ls 5 [(0, .ref (ad 0)), (1, .int a1), (2, .int a2)] := hl
  unfold f_X7_isInChain at hf
  refine lv_iconst (v := 0) hx hb dX7_isInChain_0 (by decide) ?_
  refine lv_istore_n (lv' := [(3, .int (0 : Int32)), (0, .ref (ad 0)), (1, .int a1), (2, .int a2)]) hx hb dX7_isInChain_1 rfl hl (Nat.le_of_ble_eq_true rfl) rfl (fun ls hl => ?_)
  refine lv_iload_n hx hb dX7_isInChain_2 rfl (lv_at hl 3 rfl) ?_
  refine lv_istore (lv' := [(4, .int a2), (3, .int (0 : Int32)), (0, .ref (ad 0)), (1, .int a1), (2, .int a2)]) hx hb dX7_isInChain_3 hl (Nat.le_of_ble_eq_true rfl) rfl (fun ls hl => ?_)
  have L3 : ∀ (m0 : Nat) (v1 : Int32) (v2 : Int32) (H : Heap) (locs : List Loc) (ls : Array Slot), Wd G (wM G ad x) A s H locs → lv_has ls 5 [(0, .ref (ad 0)), (1, .int a1), (3, .int v1), (4, .int v2)] → f_X7_isInChain_l5 a1 x m0 v1 v2 = some rv → W p l e (rmk 0 0 0 0) s m args below meth c H locs 0 0 (KQI G below args s A (wM G ad x) rv 0 0) (F0 m 5 ls []) := by
    intro m0
    induction m0 with
    | zero => intro v1 v2 H locs ls hw hl hf; cases hf
    | succ mL3 ih3 =>
      intro v1 v2 H locs ls hw hl hf
      unfold f_X7_isInChain_l5 at hf
      refine lv_iload hx hb dX7_isInChain_5 (lv_at hl 3 rfl) ?_
      refine lv_iconst (v := -1) hx hb dX7_isInChain_7 (by decide) ?_
      refine lv_icmp_eq (tgt := 39) hx hb dX7_isInChain_8 rfl (fun c4 => ?_) (fun c4 => ?_)
      · have hf := q_t c4 hf
        refine lv_iload_n hx hb dX7_isInChain_39 rfl (lv_at hl 2 rfl) ?_
        obtain ⟨g5, hf⟩ := qgd_e hf
        obtain rfl := q_s hf
        exact k_zret F hr hlk hw (qz_n g5) (Nat.le_of_ble_eq_true rfl) (Nat.le_of_ble_eq_true rfl) dX7_isInChain_40
      · have hf := q_f c4 hf
        refine lv_iload_n hx hb dX7_isInChain_11 rfl (lv_at hl 2 rfl) ?_
        obtain ⟨v6, hq12, hf⟩ := qbd_e hf
        have J7 : ∀ (H : Heap) (locs : List Loc) (ls : Array Slot), Wd G (wM G ad x) A s H locs → lv_has ls 5 [(0, .ref (ad 0)), (1, .int a1), (4, .int v2)] → W p l e (rmk 0 0 0 0) s m args below meth c H locs 0 0 (KQI G below args s A (wM G ad x) rv 0 0) (F0 m 26 ls [.int v6]) := by
          intro H locs ls hw hl
          refine lv_istore_n (lv' := [(3, .int v6), (0, .ref (ad 0)), (1, .int a1), (4, .int v2)]) hx hb dX7_isInChain_26 rfl hl (Nat.le_of_ble_eq_true rfl) rfl (fun ls hl => ?_)
          refine lv_aload_n hx hb dX7_isInChain_27 rfl (lv_at hl 1 rfl) ?_
          refine M_g_0_12 F ws_in hw fl_X7_32 dX7_isInChain_28 ?_
          refine lv_iload hx hb dX7_isInChain_31 (lv_at hl 3 rfl) ?_
          obtain ⟨g8, hf⟩ := qgd_e hf
          refine M_l_22 F hw g8 dX7_isInChain_33 ?_
          refine lv_topi (fun v9 ev9 => ?_)
          have hf := qnm_k ev9 hf
          refine lv_istore (lv' := [(4, .int v9), (3, .int v6), (0, .ref (ad 0)), (1, .int a1)]) hx hb dX7_isInChain_34 hl (Nat.le_of_ble_eq_true rfl) rfl (fun ls hl => ?_)
          refine lv_goto (tgt := 5) hx hb dX7_isInChain_36 rfl ?_
          exact ih3 v6 v9 _ _ _ hw (lv_sub hl [2, 3, 1, 0] rfl) hf
        have hf := hq12
        refine lv_if_ne (tgt := 21) hx hb dX7_isInChain_12 rfl (fun c10 => ?_) (fun c10 => ?_)
        · have hf := q_f c10 hf
          refine lv_iconst (v := 1) hx hb dX7_isInChain_21 (by decide) ?_
          refine lv_goto (tgt := 26) hx hb dX7_isInChain_22 rfl ?_
          obtain rfl := q_s hf
          exact J7 _ _ _ hw (lv_sub hl [0, 1, 3] rfl)
        · have hf := q_t c10 hf
          refine lv_iload hx hb dX7_isInChain_15 (lv_at hl 3 rfl) ?_
          refine lv_iload_n hx hb dX7_isInChain_17 rfl (lv_at hl 1 rfl) ?_
          refine lv_icmp_ne (tgt := 25) hx hb dX7_isInChain_18 rfl (fun c11 => ?_) (fun c11 => ?_)
          · have hf := q_f c11 hf
            refine lv_iconst (v := 0) hx hb dX7_isInChain_25 (by decide) ?_
            obtain rfl := q_s hf
            exact J7 _ _ _ hw (lv_sub hl [0, 1, 3] rfl)
          · have hf := q_t c11 hf
            refine lv_iconst (v := 1) hx hb dX7_isInChain_21 (by decide) ?_
            refine lv_goto (tgt := 26) hx hb dX7_isInChain_22 rfl ?_
            obtain rfl := q_s hf
            exact J7 _ _ _ hw (lv_sub hl [0, 1, 3] rfl)
  exact L3 n (0 : Int32) a2 _ _ _ hw (lv_sub hl [2, 3, 1, 0] rfl) hf
def f_X7_chainSize_l4 (x : SX) : Nat → Int32 → Int32 → Option (Int32)
  | 0, _, _ => none
  | m + 1, v1, v2 => (if v2 = (-1 : Int32) then some v1 else (qnm (v1 + (1 : Int32)) fun v5 => (qgd (qin v2 10) ((qnm (x.1 22 v2.toNatClampNeg) fun v7 => (f_X7_chainSize_l4 x m) v5 v7)))))
def f_X7_chainSize (n : Nat) (x : SX) (a1 : Int32) : Option (Int32) := f_X7_chainSize_l4 x n (0 : Int32) a1
set_option maxHeartbeats 4000000 in
set_option maxRecDepth 100000 in
theorem t_X7_chainSize {G : gG} {l : Launch} {ad : Nat → Nat} {n : Nat} {x : SX} {a1 : Int32} {rv : Int32} (hf : f_X7_chainSize n x a1 = some rv) : MetI G l yX7_chainSize cX7_chainSize 4 (some .int) 0 0 0 0 [.ref (ad 0), .int a1] (wM G ad x) (wM G ad x) rv := by
  refine k_ofI (by decide) (Nat.le_of_ble_eq_true rfl) ?_
  intro p e s m args below meth c ls A F hr hlk hl hw
  have hx := F.1
  have hb := F.2.1
  have hl : lv_has ls 4 [(0, .ref (ad 0)), (1, .int a1)] := hl
  unfold f_X7_chainSize at hf
  refine lv_iconst (v := 0) hx hb dX7_chainSize_0 (by decide) ?_
  refine lv_istore_n (lv' := [(2, .int (0 : Int32)), (0, .ref (ad 0)), (1, .int a1)]) hx hb dX7_chainSize_1 rfl hl (Nat.le_of_ble_eq_true rfl) rfl (fun ls hl => ?_)
  refine lv_iload_n hx hb dX7_chainSize_2 rfl (lv_at hl 2 rfl) ?_
  refine lv_istore_n (lv' := [(3, .int a1), (2, .int (0 : Int32)), (0, .ref (ad 0)), (1, .int a1)]) hx hb dX7_chainSize_3 rfl hl (Nat.le_of_ble_eq_true rfl) rfl (fun ls hl => ?_)
  have L3 : ∀ (m0 : Nat) (v1 : Int32) (v2 : Int32) (H : Heap) (locs : List Loc) (ls : Array Slot), Wd G (wM G ad x) A s H locs → lv_has ls 4 [(0, .ref (ad 0)), (2, .int v1), (3, .int v2)] → f_X7_chainSize_l4 x m0 v1 v2 = some rv → W p l e (rmk 0 0 0 0) s m args below meth c H locs 0 0 (KQI G below args s A (wM G ad x) rv 0 0) (F0 m 4 ls []) := by
    intro m0
    induction m0 with
    | zero => intro v1 v2 H locs ls hw hl hf; cases hf
    | succ mL3 ih3 =>
      intro v1 v2 H locs ls hw hl hf
      unfold f_X7_chainSize_l4 at hf
      refine lv_iload_n hx hb dX7_chainSize_4 rfl (lv_at hl 2 rfl) ?_
      refine lv_iconst (v := -1) hx hb dX7_chainSize_5 (by decide) ?_
      refine lv_icmp_eq (tgt := 22) hx hb dX7_chainSize_6 rfl (fun c4 => ?_) (fun c4 => ?_)
      · have hf := q_t c4 hf
        refine lv_iload_n hx hb dX7_chainSize_22 rfl (lv_at hl 1 rfl) ?_
        obtain rfl := q_s hf
        exact k_iret F hr hlk hw (Nat.le_of_ble_eq_true rfl) (Nat.le_of_ble_eq_true rfl) dX7_chainSize_23
      · have hf := q_f c4 hf
        obtain ⟨v5, ev5⟩ : ∃ y : Int32, y = v1 + (1 : Int32) := ⟨_, rfl⟩
        refine lv_iinc (v := v5) (lv' := [(2, .int v5), (0, .ref (ad 0)), (3, .int v2)]) hx hb dX7_chainSize_9 hl (k := 1) rfl (by rw [ev5]; rfl) (Nat.le_of_ble_eq_true rfl) rfl (fun ls hl => ?_)
        have hf := qnm_k ev5 hf
        refine lv_aload_n hx hb dX7_chainSize_12 rfl (lv_at hl 1 rfl) ?_
        refine M_g_0_12 F ws_in hw fl_X7_32 dX7_chainSize_13 ?_
        refine lv_iload_n hx hb dX7_chainSize_16 rfl (lv_at hl 2 rfl) ?_
        obtain ⟨g6, hf⟩ := qgd_e hf
        refine M_l_22 F hw g6 dX7_chainSize_17 ?_
        refine lv_topi (fun v7 ev7 => ?_)
        have hf := qnm_k ev7 hf
        refine lv_istore_n (lv' := [(3, .int v7), (2, .int v5), (0, .ref (ad 0))]) hx hb dX7_chainSize_18 rfl hl (Nat.le_of_ble_eq_true rfl) rfl (fun ls hl => ?_)
        refine lv_goto (tgt := 4) hx hb dX7_chainSize_19 rfl ?_
        exact ih3 v5 v7 _ _ _ hw (lv_sub hl [2, 1, 0] rfl) hf
  exact L3 n (0 : Int32) a1 _ _ _ hw (lv_sub hl [2, 1, 0] rfl) hf
def f_X7_nextPeriod_l5 (x : SX) (a2 : Int32) (n : Nat) (a1 : Int32) : Nat → Int32 → Int32 → Option (Int32)
  | 0, _, _ => none
  | m + 1, v1, v2 => (if (x.1 0 14) ≤ v2 then some v1 else (qbd (if ((a2 >>> (v2 &&& 31)) &&& (1 : Int32)) = 0 then (qgd (qin v2 8) ((qbd (f_X7_isInChain n x (x.1 25 v2.toNatClampNeg) a1) fun r18 => (if r18 = 0 then some (0 : Int32) else some (1 : Int32))))) else some (0 : Int32)) fun v5 => (qbd (if v5 = 0 then some v1 else (if v1 = (-1 : Int32) then some v2 else (qgd (qin v2 8) ((qgd (qin v1 8) ((if (x.1 26 v1.toNatClampNeg) ≤ (x.1 26 v2.toNatClampNeg) then some v1 else some v2))))))) fun v7 => (qnm (v2 + (1 : Int32)) fun v9 => (f_X7_nextPeriod_l5 x a2 n a1 m) v7 v9))))
def f_X7_nextPeriod (n : Nat) (x : SX) (a1 : Int32) (a2 : Int32) : Option (Int32) := f_X7_nextPeriod_l5 x a2 n a1 n (-1 : Int32) (0 : Int32)
set_option maxHeartbeats 4000000 in
set_option maxRecDepth 100000 in
theorem t_X7_nextPeriod {G : gG} {l : Launch} {ad : Nat → Nat} {n : Nat} {x : SX} {a1 : Int32} {a2 : Int32} {rv : Int32} (hf : f_X7_nextPeriod n x a1 a2 = some rv) : MetI G l yX7_nextPeriod cX7_nextPeriod 6 (some .int) 1 0 0 24 [.ref (ad 0), .int a1, .int a2] (wM G ad x) (wM G ad x) rv := by
  refine k_ofI (by decide) (Nat.le_of_ble_eq_true rfl) ?_
  intro p e s m args below meth c ls A F hr hlk hl hw
  have hx := F.1
  have hb := F.2.1
  have hl : lv_has ls 6 [(0, .ref (ad 0)), (1, .int a1), (2, .int a2)] := hl
  unfold f_X7_nextPeriod at hf
  refine lv_iconst (v := -1) hx hb dX7_nextPeriod_0 (by decide) ?_
  refine lv_istore_n (lv' := [(3, .int (-1 : Int32)), (0, .ref (ad 0)), (1, .int a1), (2, .int a2)]) hx hb dX7_nextPeriod_1 rfl hl (Nat.le_of_ble_eq_true rfl) rfl (fun ls hl => ?_)
  refine lv_iconst (v := 0) hx hb dX7_nextPeriod_2 (by decide) ?_
  refine lv_istore (lv' := [(4, .int (0 : Int32)), (3, .int (-1 : Int32)), (0, .ref (ad 0)), (1, .int a1), (2, .int a2)]) hx hb dX7_nextPeriod_3 hl (Nat.le_of_ble_eq_true rfl) rfl (fun ls hl => ?_)
  have L3 : ∀ (m0 : Nat) (v1 : Int32) (v2 : Int32) (H : Heap) (locs : List Loc) (ls : Array Slot), Wd G (wM G ad x) A s H locs → lv_has ls 6 [(0, .ref (ad 0)), (1, .int a1), (2, .int a2), (3, .int v1), (4, .int v2)] → f_X7_nextPeriod_l5 x a2 n a1 m0 v1 v2 = some rv → W p l e (rmk 1 0 0 24) s m args below meth c H locs 0 0 (KQI G below args s A (wM G ad x) rv 0 0) (F0 m 5 ls []) := by
    intro m0
    induction m0 with
    | zero => intro v1 v2 H locs ls hw hl hf; cases hf
    | succ mL3 ih3 =>
      intro v1 v2 H locs ls hw hl hf
      unfold f_X7_nextPeriod_l5 at hf
      refine lv_iload hx hb dX7_nextPeriod_5 (lv_at hl 4 rfl) ?_
      refine lv_aload_n hx hb dX7_nextPeriod_7 rfl (lv_at hl 0 rfl) ?_
      refine M_g_0_14 F ws_in hw fl_X7_143 dX7_nextPeriod_8 ?_
      refine lv_icmp_ge (tgt := 84) hx hb dX7_nextPeriod_11 rfl (fun c4 => ?_) (fun c4 => ?_)
      · have hf := q_t c4 hf
        refine lv_iload_n hx hb dX7_nextPeriod_84 rfl (lv_at hl 3 rfl) ?_
        obtain rfl := q_s hf
        exact k_iret F hr hlk hw (Nat.le_of_ble_eq_true rfl) (Nat.le_of_ble_eq_true rfl) dX7_nextPeriod_85
      · have hf := q_f c4 hf
        refine lv_iload_n hx hb dX7_nextPeriod_14 rfl (lv_at hl 2 rfl) ?_
        refine lv_iload hx hb dX7_nextPeriod_15 (lv_at hl 4 rfl) ?_
        refine lv_ishr hx hb dX7_nextPeriod_17 ?_
        refine lv_iconst (v := 1) hx hb dX7_nextPeriod_18 (by decide) ?_
        refine lv_iand hx hb dX7_nextPeriod_19 ?_
        obtain ⟨v5, hq21, hf⟩ := qbd_e hf
        have J6 : ∀ (H : Heap) (locs : List Loc) (ls : Array Slot), Wd G (wM G ad x) A s H locs → lv_has ls 6 [(0, .ref (ad 0)), (1, .int a1), (2, .int a2), (3, .int v1), (4, .int v2)] → W p l e (rmk 1 0 0 24) s m args below meth c H locs 0 0 (KQI G below args s A (wM G ad x) rv 0 0) (F0 m 43 ls [.int v5]) := by
          intro H locs ls hw hl
          refine lv_istore (lv' := [(5, .int v5), (0, .ref (ad 0)), (1, .int a1), (2, .int a2), (3, .int v1), (4, .int v2)]) hx hb dX7_nextPeriod_43 hl (Nat.le_of_ble_eq_true rfl) rfl (fun ls hl => ?_)
          refine lv_iload hx hb dX7_nextPeriod_45 (lv_at hl 0 rfl) ?_
          obtain ⟨v7, hq15, hf⟩ := qbd_e hf
          have J8 : ∀ (H : Heap) (locs : List Loc) (ls : Array Slot), Wd G (wM G ad x) A s H locs → lv_has ls 6 [(0, .ref (ad 0)), (1, .int a1), (2, .int a2), (4, .int v2)] → W p l e (rmk 1 0 0 24) s m args below meth c H locs 0 0 (KQI G below args s A (wM G ad x) rv 0 0) (F0 m 77 ls [.int v7]) := by
            intro H locs ls hw hl
            refine lv_istore_n (lv' := [(3, .int v7), (0, .ref (ad 0)), (1, .int a1), (2, .int a2), (4, .int v2)]) hx hb dX7_nextPeriod_77 rfl hl (Nat.le_of_ble_eq_true rfl) rfl (fun ls hl => ?_)
            obtain ⟨v9, ev9⟩ : ∃ y : Int32, y = v2 + (1 : Int32) := ⟨_, rfl⟩
            refine lv_iinc (v := v9) (lv' := [(4, .int v9), (3, .int v7), (0, .ref (ad 0)), (1, .int a1), (2, .int a2)]) hx hb dX7_nextPeriod_78 hl (k := 4) rfl (by rw [ev9]; rfl) (Nat.le_of_ble_eq_true rfl) rfl (fun ls hl => ?_)
            have hf := qnm_k ev9 hf
            refine lv_goto (tgt := 5) hx hb dX7_nextPeriod_81 rfl ?_
            exact ih3 v7 v9 _ _ _ hw (lv_sub hl [2, 3, 4, 1, 0] rfl) hf
          have hf := hq15
          refine lv_if_eq (tgt := 76) hx hb dX7_nextPeriod_47 rfl (fun c10 => ?_) (fun c10 => ?_)
          · have hf := q_t c10 hf
            refine lv_iload_n hx hb dX7_nextPeriod_76 rfl (lv_at hl 4 rfl) ?_
            obtain rfl := q_s hf
            exact J8 _ _ _ hw (lv_sub hl [1, 2, 3, 5] rfl)
          · have hf := q_f c10 hf
            refine lv_iload_n hx hb dX7_nextPeriod_50 rfl (lv_at hl 4 rfl) ?_
            refine lv_iconst (v := -1) hx hb dX7_nextPeriod_51 (by decide) ?_
            refine lv_icmp_eq (tgt := 71) hx hb dX7_nextPeriod_52 rfl (fun c11 => ?_) (fun c11 => ?_)
            · have hf := q_t c11 hf
              refine lv_iload hx hb dX7_nextPeriod_71 (lv_at hl 5 rfl) ?_
              refine lv_goto (tgt := 77) hx hb dX7_nextPeriod_73 rfl ?_
              obtain rfl := q_s hf
              exact J8 _ _ _ hw (lv_sub hl [1, 2, 3, 5] rfl)
            · have hf := q_f c11 hf
              refine lv_aload_n hx hb dX7_nextPeriod_55 rfl (lv_at hl 1 rfl) ?_
              refine M_g_0_16 F ws_in hw fl_X7_42 dX7_nextPeriod_56 ?_
              refine lv_iload hx hb dX7_nextPeriod_59 (lv_at hl 5 rfl) ?_
              obtain ⟨g12, hf⟩ := qgd_e hf
              refine M_l_26 F hw g12 dX7_nextPeriod_61 ?_
              refine lv_aload_n hx hb dX7_nextPeriod_62 rfl (lv_at hl 1 rfl) ?_
              refine M_g_0_16 F ws_in hw fl_X7_42 dX7_nextPeriod_63 ?_
              refine lv_iload_n hx hb dX7_nextPeriod_66 rfl (lv_at hl 4 rfl) ?_
              obtain ⟨g13, hf⟩ := qgd_e hf
              refine M_l_26 F hw g13 dX7_nextPeriod_67 ?_
              refine lv_icmp_ge (tgt := 76) hx hb dX7_nextPeriod_68 rfl (fun c14 => ?_) (fun c14 => ?_)
              · have hf := q_t c14 hf
                refine lv_iload_n hx hb dX7_nextPeriod_76 rfl (lv_at hl 4 rfl) ?_
                obtain rfl := q_s hf
                exact J8 _ _ _ hw (lv_sub hl [1, 2, 3, 5] rfl)
              · have hf := q_f c14 hf
                refine lv_iload hx hb dX7_nextPeriod_71 (lv_at hl 5 rfl) ?_
                refine lv_goto (tgt := 77) hx hb dX7_nextPeriod_73 rfl ?_
                obtain rfl := q_s hf
                exact J8 _ _ _ hw (lv_sub hl [1, 2, 3, 5] rfl)
        have hf := hq21
        refine lv_if_ne (tgt := 42) hx hb dX7_nextPeriod_20 rfl (fun c16 => ?_) (fun c16 => ?_)
        · have hf := q_f c16 hf
          refine lv_iconst (v := 0) hx hb dX7_nextPeriod_42 (by decide) ?_
          obtain rfl := q_s hf
          exact J6 _ _ _ hw (lv_sub hl [0, 1, 2, 3, 4] rfl)
        · have hf := q_t c16 hf
          refine lv_aload_n hx hb dX7_nextPeriod_23 rfl (lv_at hl 0 rfl) ?_
          refine lv_aload_n hx hb dX7_nextPeriod_24 rfl (lv_at hl 0 rfl) ?_
          refine M_g_0_15 F ws_in hw fl_X7_39 dX7_nextPeriod_25 ?_
          refine lv_iload hx hb dX7_nextPeriod_28 (lv_at hl 4 rfl) ?_
          obtain ⟨g17, hf⟩ := qgd_e hf
          refine M_l_25 F hw g17 dX7_nextPeriod_30 ?_
          refine lv_iload_n hx hb dX7_nextPeriod_31 rfl (lv_at hl 1 rfl) ?_
          obtain ⟨r18, h19, hf⟩ := qbd_e hf
          refine k_callVi' (rest := []) (As := [.int (x.1 25 v2.toNatClampNeg), .int a1]) F ws_in (t_X7_isInChain h19) cv_X7_isInChain ml_X7_146 hw 0 rfl rfl rfl hl.1 rfl (Nat.le_of_ble_eq_true rfl) ⟨Nat.le_of_ble_eq_true rfl, Nat.le_of_ble_eq_true rfl⟩ ⟨Nat.le_of_ble_eq_true rfl, Nat.le_of_ble_eq_true rfl⟩ dX7_nextPeriod_32 (fun H locs hw => ?_)
          refine lv_if_eq (tgt := 42) hx hb dX7_nextPeriod_35 rfl (fun c20 => ?_) (fun c20 => ?_)
          · have hf := q_t c20 hf
            refine lv_iconst (v := 0) hx hb dX7_nextPeriod_42 (by decide) ?_
            obtain rfl := q_s hf
            exact J6 _ _ _ hw (lv_sub hl [0, 1, 2, 3, 4] rfl)
          · have hf := q_f c20 hf
            refine lv_iconst (v := 1) hx hb dX7_nextPeriod_38 (by decide) ?_
            refine lv_goto (tgt := 43) hx hb dX7_nextPeriod_39 rfl ?_
            obtain rfl := q_s hf
            exact J6 _ _ _ hw (lv_sub hl [0, 1, 2, 3, 4] rfl)
  exact L3 n (-1 : Int32) (0 : Int32) _ _ _ hw (lv_sub hl [2, 3, 4, 1, 0] rfl) hf
def f_X7_remandOf_l15 (x : SX) (n : Nat) (a1 : Int32) : Nat → Int32 → Int32 → Int32 → Int32 → Option (Int32)
  | 0, _, _, _, _ => none
  | m + 1, v3, v4, v5, v6 => (if v6 = (-1 : Int32) then some v3 else (qgd (qin v6 8) ((qbd (if (x.1 26 v6.toNatClampNeg) ≤ v5 then some v5 else some (x.1 26 v6.toNatClampNeg)) fun v10 => (qnm ((x.1 27 v6.toNatClampNeg) + (1 : Int32)) fun v12 => (qbd (if v12 ≤ v10 then some (0 : Int32) else (qgd (qin v12 14611) ((qgd (qin v10 14611) (some ((x.1 13 v12.toNatClampNeg) - (x.1 13 v10.toNatClampNeg))))))) fun v13 => (qnm (v3 + v13) fun v15 => (qbd (if v12 ≤ v5 then some v5 else some v12) fun v16 => (qnm (v4 ||| ((1 : Int32) <<< (v6 &&& 31))) fun v18 => (qbd (f_X7_nextPeriod n x a1 v18) fun r19 => (f_X7_remandOf_l15 x n a1 m) v15 v18 v16 r19))))))))))
def f_X7_remandOf (n : Nat) (x : SX) (a1 : Int32) : Option (Int32) := (qbd (f_X7_nextPeriod n x a1 (0 : Int32)) fun r1 => f_X7_remandOf_l15 x n a1 n (0 : Int32) (0 : Int32) (0 : Int32) r1)
set_option maxHeartbeats 4000000 in
set_option maxRecDepth 100000 in
theorem t_X7_remandOf {G : gG} {l : Launch} {ad : Nat → Nat} {n : Nat} {x : SX} {a1 : Int32} {rv : Int32} (hf : f_X7_remandOf n x a1 = some rv) : MetI G l yX7_remandOf cX7_remandOf 8 (some .int) 2 0 0 49 [.ref (ad 0), .int a1] (wM G ad x) (wM G ad x) rv := by
  refine k_ofI (by decide) (Nat.le_of_ble_eq_true rfl) ?_
  intro p e s m args below meth c ls A F hr hlk hl hw
  have hx := F.1
  have hb := F.2.1
  have hl : lv_has ls 8 [(0, .ref (ad 0)), (1, .int a1)] := hl
  unfold f_X7_remandOf at hf
  refine lv_iconst (v := 0) hx hb dX7_remandOf_0 (by decide) ?_
  refine lv_istore_n (lv' := [(2, .int (0 : Int32)), (0, .ref (ad 0)), (1, .int a1)]) hx hb dX7_remandOf_1 rfl hl (Nat.le_of_ble_eq_true rfl) rfl (fun ls hl => ?_)
  refine lv_iconst (v := 0) hx hb dX7_remandOf_2 (by decide) ?_
  refine lv_istore_n (lv' := [(3, .int (0 : Int32)), (2, .int (0 : Int32)), (0, .ref (ad 0)), (1, .int a1)]) hx hb dX7_remandOf_3 rfl hl (Nat.le_of_ble_eq_true rfl) rfl (fun ls hl => ?_)
  refine lv_iconst (v := 0) hx hb dX7_remandOf_4 (by decide) ?_
  refine lv_istore (lv' := [(4, .int (0 : Int32)), (3, .int (0 : Int32)), (2, .int (0 : Int32)), (0, .ref (ad 0)), (1, .int a1)]) hx hb dX7_remandOf_5 hl (Nat.le_of_ble_eq_true rfl) rfl (fun ls hl => ?_)
  refine lv_aload_n hx hb dX7_remandOf_7 rfl (lv_at hl 3 rfl) ?_
  refine lv_iload_n hx hb dX7_remandOf_8 rfl (lv_at hl 4 rfl) ?_
  refine lv_iload_n hx hb dX7_remandOf_9 rfl (lv_at hl 1 rfl) ?_
  obtain ⟨r1, h2, hf⟩ := qbd_e hf
  refine k_callVi' (rest := []) (As := [.int a1, .int (0 : Int32)]) F ws_in (t_X7_nextPeriod h2) cv_X7_nextPeriod ml_X7_150 hw 0 rfl rfl rfl hl.1 rfl (Nat.le_of_ble_eq_true rfl) ⟨Nat.le_of_ble_eq_true rfl, Nat.le_of_ble_eq_true rfl⟩ ⟨Nat.le_of_ble_eq_true rfl, Nat.le_of_ble_eq_true rfl⟩ dX7_remandOf_10 (fun H locs hw => ?_)
  refine lv_istore (lv' := [(5, .int r1), (4, .int (0 : Int32)), (3, .int (0 : Int32)), (2, .int (0 : Int32)), (0, .ref (ad 0)), (1, .int a1)]) hx hb dX7_remandOf_13 hl (Nat.le_of_ble_eq_true rfl) rfl (fun ls hl => ?_)
  have L7 : ∀ (m0 : Nat) (v3 : Int32) (v4 : Int32) (v5 : Int32) (v6 : Int32) (H : Heap) (locs : List Loc) (ls : Array Slot), Wd G (wM G ad x) A s H locs → lv_has ls 8 [(0, .ref (ad 0)), (1, .int a1), (2, .int v3), (3, .int v4), (4, .int v5), (5, .int v6)] → f_X7_remandOf_l15 x n a1 m0 v3 v4 v5 v6 = some rv → W p l e (rmk 2 0 0 49) s m args below meth c H locs 0 0 (KQI G below args s A (wM G ad x) rv 0 0) (F0 m 15 ls []) := by
    intro m0
    induction m0 with
    | zero => intro v3 v4 v5 v6 H locs ls hw hl hf; cases hf
    | succ mL7 ih7 =>
      intro v3 v4 v5 v6 H locs ls hw hl hf
      unfold f_X7_remandOf_l15 at hf
      refine lv_iload hx hb dX7_remandOf_15 (lv_at hl 5 rfl) ?_
      refine lv_iconst (v := -1) hx hb dX7_remandOf_17 (by decide) ?_
      refine lv_icmp_eq (tgt := 121) hx hb dX7_remandOf_18 rfl (fun c8 => ?_) (fun c8 => ?_)
      · have hf := q_t c8 hf
        refine lv_iload_n hx hb dX7_remandOf_121 rfl (lv_at hl 2 rfl) ?_
        obtain rfl := q_s hf
        exact k_iret F hr hlk hw (Nat.le_of_ble_eq_true rfl) (Nat.le_of_ble_eq_true rfl) dX7_remandOf_122
      · have hf := q_f c8 hf
        refine lv_aload_n hx hb dX7_remandOf_21 rfl (lv_at hl 0 rfl) ?_
        refine M_g_0_16 F ws_in hw fl_X7_42 dX7_remandOf_22 ?_
        refine lv_iload hx hb dX7_remandOf_25 (lv_at hl 5 rfl) ?_
        obtain ⟨g9, hf⟩ := qgd_e hf
        refine M_l_26 F hw g9 dX7_remandOf_27 ?_
        refine lv_iload hx hb dX7_remandOf_28 (lv_at hl 4 rfl) ?_
        obtain ⟨v10, hq28, hf⟩ := qbd_e hf
        have J11 : ∀ (H : Heap) (locs : List Loc) (ls : Array Slot), Wd G (wM G ad x) A s H locs → lv_has ls 8 [(0, .ref (ad 0)), (1, .int a1), (2, .int v3), (3, .int v4), (4, .int v5), (5, .int v6)] → W p l e (rmk 2 0 0 49) s m args below meth c H locs 0 0 (KQI G below args s A (wM G ad x) rv 0 0) (F0 m 45 ls [.int v10]) := by
          intro H locs ls hw hl
          refine lv_istore (lv' := [(6, .int v10), (0, .ref (ad 0)), (1, .int a1), (2, .int v3), (3, .int v4), (4, .int v5), (5, .int v6)]) hx hb dX7_remandOf_45 hl (Nat.le_of_ble_eq_true rfl) rfl (fun ls hl => ?_)
          refine lv_aload_n hx hb dX7_remandOf_47 rfl (lv_at hl 1 rfl) ?_
          refine M_g_0_17 F ws_in hw fl_X7_45 dX7_remandOf_48 ?_
          refine lv_iload hx hb dX7_remandOf_51 (lv_at hl 6 rfl) ?_
          refine M_l_27 F hw g9 dX7_remandOf_53 ?_
          refine lv_iconst (v := 1) hx hb dX7_remandOf_54 (by decide) ?_
          refine lv_iadd hx hb dX7_remandOf_55 ?_
          refine lv_topi (fun v12 ev12 => ?_)
          have hf := qnm_k ev12 hf
          refine lv_istore (lv' := [(7, .int v12), (6, .int v10), (0, .ref (ad 0)), (1, .int a1), (2, .int v3), (3, .int v4), (4, .int v5), (5, .int v6)]) hx hb dX7_remandOf_56 hl (Nat.le_of_ble_eq_true rfl) rfl (fun ls hl => ?_)
          refine lv_iload_n hx hb dX7_remandOf_58 rfl (lv_at hl 4 rfl) ?_
          refine lv_iload hx hb dX7_remandOf_59 (lv_at hl 0 rfl) ?_
          refine lv_iload hx hb dX7_remandOf_61 (lv_at hl 1 rfl) ?_
          obtain ⟨v13, hq26, hf⟩ := qbd_e hf
          have J14 : ∀ (H : Heap) (locs : List Loc) (ls : Array Slot), Wd G (wM G ad x) A s H locs → lv_has ls 8 [(0, .ref (ad 0)), (1, .int a1), (3, .int v4), (4, .int v5), (5, .int v6), (7, .int v12)] → W p l e (rmk 2 0 0 49) s m args below meth c H locs 0 0 (KQI G below args s A (wM G ad x) rv 0 0) (F0 m 85 ls [.int v13, .int v3]) := by
            intro H locs ls hw hl
            refine lv_iadd hx hb dX7_remandOf_85 ?_
            refine lv_topi (fun v15 ev15 => ?_)
            have hf := qnm_k ev15 hf
            refine lv_istore_n (lv' := [(2, .int v15), (0, .ref (ad 0)), (1, .int a1), (3, .int v4), (4, .int v5), (5, .int v6), (7, .int v12)]) hx hb dX7_remandOf_86 rfl hl (Nat.le_of_ble_eq_true rfl) rfl (fun ls hl => ?_)
            refine lv_iload hx hb dX7_remandOf_87 (lv_at hl 6 rfl) ?_
            refine lv_iload hx hb dX7_remandOf_89 (lv_at hl 4 rfl) ?_
            obtain ⟨v16, hq22, hf⟩ := qbd_e hf
            have J17 : ∀ (H : Heap) (locs : List Loc) (ls : Array Slot), Wd G (wM G ad x) A s H locs → lv_has ls 8 [(0, .ref (ad 0)), (1, .int a1), (2, .int v15), (3, .int v4), (5, .int v6)] → W p l e (rmk 2 0 0 49) s m args below meth c H locs 0 0 (KQI G below args s A (wM G ad x) rv 0 0) (F0 m 101 ls [.int v16]) := by
              intro H locs ls hw hl
              refine lv_istore (lv' := [(4, .int v16), (0, .ref (ad 0)), (1, .int a1), (2, .int v15), (3, .int v4), (5, .int v6)]) hx hb dX7_remandOf_101 hl (Nat.le_of_ble_eq_true rfl) rfl (fun ls hl => ?_)
              refine lv_iload_n hx hb dX7_remandOf_103 rfl (lv_at hl 4 rfl) ?_
              refine lv_iconst (v := 1) hx hb dX7_remandOf_104 (by decide) ?_
              refine lv_iload hx hb dX7_remandOf_105 (lv_at hl 5 rfl) ?_
              refine lv_ishl hx hb dX7_remandOf_107 ?_
              refine lv_ior hx hb dX7_remandOf_108 ?_
              refine lv_topi (fun v18 ev18 => ?_)
              have hf := qnm_k ev18 hf
              refine lv_istore_n (lv' := [(3, .int v18), (4, .int v16), (0, .ref (ad 0)), (1, .int a1), (2, .int v15), (5, .int v6)]) hx hb dX7_remandOf_109 rfl hl (Nat.le_of_ble_eq_true rfl) rfl (fun ls hl => ?_)
              refine lv_aload_n hx hb dX7_remandOf_110 rfl (lv_at hl 2 rfl) ?_
              refine lv_iload_n hx hb dX7_remandOf_111 rfl (lv_at hl 3 rfl) ?_
              refine lv_iload_n hx hb dX7_remandOf_112 rfl (lv_at hl 0 rfl) ?_
              obtain ⟨r19, h20, hf⟩ := qbd_e hf
              refine k_callVi' (rest := []) (As := [.int a1, .int v18]) F ws_in (t_X7_nextPeriod h20) cv_X7_nextPeriod ml_X7_150 hw 0 rfl rfl rfl hl.1 rfl (Nat.le_of_ble_eq_true rfl) ⟨Nat.le_of_ble_eq_true rfl, Nat.le_of_ble_eq_true rfl⟩ ⟨Nat.le_of_ble_eq_true rfl, Nat.le_of_ble_eq_true rfl⟩ dX7_remandOf_113 (fun H locs hw => ?_)
              refine lv_istore (lv' := [(5, .int r19), (3, .int v18), (4, .int v16), (0, .ref (ad 0)), (1, .int a1), (2, .int v15)]) hx hb dX7_remandOf_116 hl (Nat.le_of_ble_eq_true rfl) rfl (fun ls hl => ?_)
              refine lv_goto (tgt := 15) hx hb dX7_remandOf_118 rfl ?_
              exact ih7 v15 v18 v16 r19 _ _ _ hw (lv_sub hl [3, 4, 5, 1, 2, 0] rfl) hf
            have hf := hq22
            refine lv_icmp_le (tgt := 99) hx hb dX7_remandOf_91 rfl (fun c21 => ?_) (fun c21 => ?_)
            · have hf := q_t c21 hf
              refine lv_iload hx hb dX7_remandOf_99 (lv_at hl 4 rfl) ?_
              obtain rfl := q_s hf
              exact J17 _ _ _ hw (lv_sub hl [1, 2, 0, 3, 5] rfl)
            · have hf := q_f c21 hf
              refine lv_iload hx hb dX7_remandOf_94 (lv_at hl 6 rfl) ?_
              refine lv_goto (tgt := 101) hx hb dX7_remandOf_96 rfl ?_
              obtain rfl := q_s hf
              exact J17 _ _ _ hw (lv_sub hl [1, 2, 0, 3, 5] rfl)
          have hf := hq26
          refine lv_icmp_le (tgt := 84) hx hb dX7_remandOf_63 rfl (fun c23 => ?_) (fun c23 => ?_)
          · have hf := q_t c23 hf
            refine lv_iconst (v := 0) hx hb dX7_remandOf_84 (by decide) ?_
            obtain rfl := q_s hf
            exact J14 _ _ _ hw (lv_sub hl [2, 3, 5, 6, 7, 0] rfl)
          · have hf := q_f c23 hf
            refine lv_aload_n hx hb dX7_remandOf_66 rfl (lv_at hl 2 rfl) ?_
            refine M_g_0_3 F ws_in hw fl_X7_13 dX7_remandOf_67 ?_
            refine lv_iload hx hb dX7_remandOf_70 (lv_at hl 0 rfl) ?_
            obtain ⟨g24, hf⟩ := qgd_e hf
            refine M_l_13 F hw g24 dX7_remandOf_72 ?_
            refine lv_aload_n hx hb dX7_remandOf_73 rfl (lv_at hl 2 rfl) ?_
            refine M_g_0_3 F ws_in hw fl_X7_13 dX7_remandOf_74 ?_
            refine lv_iload hx hb dX7_remandOf_77 (lv_at hl 1 rfl) ?_
            obtain ⟨g25, hf⟩ := qgd_e hf
            refine M_l_13 F hw g25 dX7_remandOf_79 ?_
            refine lv_isub hx hb dX7_remandOf_80 ?_
            refine lv_goto (tgt := 85) hx hb dX7_remandOf_81 rfl ?_
            obtain rfl := q_s hf
            exact J14 _ _ _ hw (lv_sub hl [2, 3, 5, 6, 7, 0] rfl)
        have hf := hq28
        refine lv_icmp_le (tgt := 43) hx hb dX7_remandOf_30 rfl (fun c27 => ?_) (fun c27 => ?_)
        · have hf := q_t c27 hf
          refine lv_iload hx hb dX7_remandOf_43 (lv_at hl 4 rfl) ?_
          obtain rfl := q_s hf
          exact J11 _ _ _ hw (lv_sub hl [0, 1, 2, 3, 4, 5] rfl)
        · have hf := q_f c27 hf
          refine lv_aload_n hx hb dX7_remandOf_33 rfl (lv_at hl 0 rfl) ?_
          refine M_g_0_16 F ws_in hw fl_X7_42 dX7_remandOf_34 ?_
          refine lv_iload hx hb dX7_remandOf_37 (lv_at hl 5 rfl) ?_
          refine M_l_26 F hw g9 dX7_remandOf_39 ?_
          refine lv_goto (tgt := 45) hx hb dX7_remandOf_40 rfl ?_
          obtain rfl := q_s hf
          exact J11 _ _ _ hw (lv_sub hl [0, 1, 2, 3, 4, 5] rfl)
  exact L7 n (0 : Int32) (0 : Int32) (0 : Int32) r1 _ _ _ hw (lv_sub hl [4, 5, 3, 2, 1, 0] rfl) hf
def f_X7_addedTo_e63 (v2 : Int32) (x : SX) (v1 : Int32) (kb4 : Int32 → Int32 → Option (Int32)) (v5 : Int32) : Option (Int32) := (qbd (if v5 = 0 then some (0 : Int32) else (qgd (qin v2 8) (some (x.1 29 v2.toNatClampNeg)))) fun v6 => (qnm (v1 + v6) fun v8 => (qnm (v2 + (1 : Int32)) fun v9 => kb4 v8 v9)))
def f_X7_addedTo_l18 (v2 : Int32) (x : SX) (v1 : Int32) (kb4 : Int32 → Int32 → Option (Int32)) : Nat → Int32 → Int32 → Option (Int32)
  | 0, _, _ => none
  | m + 1, v14, v15 => (if v15 = (-1 : Int32) then f_X7_addedTo_e63 v2 x v1 kb4 v14 else (qbd (if v14 = 0 then (qgd (qin v2 8) ((if (((x.1 30 v2.toNatClampNeg) >>> (v15 &&& 31)) &&& (1 : Int32)) = (1 : Int32) then some (1 : Int32) else some (0 : Int32)))) else some (1 : Int32)) fun v18 => (qgd (qin v15 10) ((qnm (x.1 22 v15.toNatClampNeg) fun v21 => (f_X7_addedTo_l18 v2 x v1 kb4 m) v18 v21)))))
def f_X7_addedTo_l4 (x : SX) (n : Nat) (a1 : Int32) : Nat → Int32 → Int32 → Option (Int32)
  | 0, _, _ => none
  | m + 1, v1, v2 => (if (x.1 0 18) ≤ v2 then some v1 else f_X7_addedTo_l18 v2 x v1 (f_X7_addedTo_l4 x n a1 m) n (0 : Int32) a1)
def f_X7_addedTo (n : Nat) (x : SX) (a1 : Int32) : Option (Int32) := f_X7_addedTo_l4 x n a1 n (0 : Int32) (0 : Int32)
set_option maxHeartbeats 4000000 in
set_option maxRecDepth 100000 in
theorem t_X7_addedTo {G : gG} {l : Launch} {ad : Nat → Nat} {n : Nat} {x : SX} {a1 : Int32} {rv : Int32} (hf : f_X7_addedTo n x a1 = some rv) : MetI G l yX7_addedTo cX7_addedTo 6 (some .int) 0 0 0 0 [.ref (ad 0), .int a1] (wM G ad x) (wM G ad x) rv := by
  refine k_ofI (by decide) (Nat.le_of_ble_eq_true rfl) ?_
  intro p e s m args below meth c ls A F hr hlk hl hw
  have hx := F.1
  have hb := F.2.1
  have hl : lv_has ls 6 [(0, .ref (ad 0)), (1, .int a1)] := hl
  unfold f_X7_addedTo at hf
  refine lv_iconst (v := 0) hx hb dX7_addedTo_0 (by decide) ?_
  refine lv_istore_n (lv' := [(2, .int (0 : Int32)), (0, .ref (ad 0)), (1, .int a1)]) hx hb dX7_addedTo_1 rfl hl (Nat.le_of_ble_eq_true rfl) rfl (fun ls hl => ?_)
  refine lv_iconst (v := 0) hx hb dX7_addedTo_2 (by decide) ?_
  refine lv_istore_n (lv' := [(3, .int (0 : Int32)), (2, .int (0 : Int32)), (0, .ref (ad 0)), (1, .int a1)]) hx hb dX7_addedTo_3 rfl hl (Nat.le_of_ble_eq_true rfl) rfl (fun ls hl => ?_)
  have L3 : ∀ (m0 : Nat) (v1 : Int32) (v2 : Int32) (H : Heap) (locs : List Loc) (ls : Array Slot), Wd G (wM G ad x) A s H locs → lv_has ls 6 [(0, .ref (ad 0)), (1, .int a1), (2, .int v1), (3, .int v2)] → f_X7_addedTo_l4 x n a1 m0 v1 v2 = some rv → W p l e (rmk 0 0 0 0) s m args below meth c H locs 0 0 (KQI G below args s A (wM G ad x) rv 0 0) (F0 m 4 ls []) := by
    intro m0
    induction m0 with
    | zero => intro v1 v2 H locs ls hw hl hf; cases hf
    | succ mL3 ih3 =>
      intro v1 v2 H locs ls hw hl hf
      unfold f_X7_addedTo_l4 at hf
      refine lv_iload_n hx hb dX7_addedTo_4 rfl (lv_at hl 3 rfl) ?_
      refine lv_aload_n hx hb dX7_addedTo_5 rfl (lv_at hl 0 rfl) ?_
      refine M_g_0_18 F ws_in hw fl_X7_153 dX7_addedTo_6 ?_
      refine lv_icmp_ge (tgt := 87) hx hb dX7_addedTo_9 rfl (fun c4 => ?_) (fun c4 => ?_)
      · have hf := q_t c4 hf
        refine lv_iload_n hx hb dX7_addedTo_87 rfl (lv_at hl 2 rfl) ?_
        obtain rfl := q_s hf
        exact k_iret F hr hlk hw (Nat.le_of_ble_eq_true rfl) (Nat.le_of_ble_eq_true rfl) dX7_addedTo_88
      · have hf := q_f c4 hf
        refine lv_iconst (v := 0) hx hb dX7_addedTo_12 (by decide) ?_
        refine lv_istore (lv' := [(4, .int (0 : Int32)), (0, .ref (ad 0)), (1, .int a1), (2, .int v1), (3, .int v2)]) hx hb dX7_addedTo_13 hl (Nat.le_of_ble_eq_true rfl) rfl (fun ls hl => ?_)
        refine lv_iload_n hx hb dX7_addedTo_15 rfl (lv_at hl 2 rfl) ?_
        refine lv_istore (lv' := [(5, .int a1), (4, .int (0 : Int32)), (0, .ref (ad 0)), (1, .int a1), (2, .int v1), (3, .int v2)]) hx hb dX7_addedTo_16 hl (Nat.le_of_ble_eq_true rfl) rfl (fun ls hl => ?_)
        have E13 : ∀ (v5 : Int32) (H : Heap) (locs : List Loc) (ls : Array Slot), Wd G (wM G ad x) A s H locs → lv_has ls 6 [(0, .ref (ad 0)), (1, .int a1), (2, .int v1), (3, .int v2), (4, .int v5)] → f_X7_addedTo_e63 v2 x v1 (f_X7_addedTo_l4 x n a1 mL3) v5 = some rv → W p l e (rmk 0 0 0 0) s m args below meth c H locs 0 0 (KQI G below args s A (wM G ad x) rv 0 0) (F0 m 63 ls []) := by
          intro v5 H locs ls hw hl hf
          unfold f_X7_addedTo_e63 at hf
          refine lv_iload_n hx hb dX7_addedTo_63 rfl (lv_at hl 2 rfl) ?_
          refine lv_iload hx hb dX7_addedTo_64 (lv_at hl 4 rfl) ?_
          obtain ⟨v6, hq12, hf⟩ := qbd_e hf
          have J7 : ∀ (H : Heap) (locs : List Loc) (ls : Array Slot), Wd G (wM G ad x) A s H locs → lv_has ls 6 [(0, .ref (ad 0)), (1, .int a1), (3, .int v2)] → W p l e (rmk 0 0 0 0) s m args below meth c H locs 0 0 (KQI G below args s A (wM G ad x) rv 0 0) (F0 m 79 ls [.int v6, .int v1]) := by
            intro H locs ls hw hl
            refine lv_iadd hx hb dX7_addedTo_79 ?_
            refine lv_topi (fun v8 ev8 => ?_)
            have hf := qnm_k ev8 hf
            refine lv_istore_n (lv' := [(2, .int v8), (0, .ref (ad 0)), (1, .int a1), (3, .int v2)]) hx hb dX7_addedTo_80 rfl hl (Nat.le_of_ble_eq_true rfl) rfl (fun ls hl => ?_)
            obtain ⟨v9, ev9⟩ : ∃ y : Int32, y = v2 + (1 : Int32) := ⟨_, rfl⟩
            refine lv_iinc (v := v9) (lv' := [(3, .int v9), (2, .int v8), (0, .ref (ad 0)), (1, .int a1)]) hx hb dX7_addedTo_81 hl (k := 3) rfl (by rw [ev9]; rfl) (Nat.le_of_ble_eq_true rfl) rfl (fun ls hl => ?_)
            have hf := qnm_k ev9 hf
            refine lv_goto (tgt := 4) hx hb dX7_addedTo_84 rfl ?_
            exact ih3 v8 v9 _ _ _ hw (lv_sub hl [2, 3, 1, 0] rfl) hf
          have hf := hq12
          refine lv_if_eq (tgt := 78) hx hb dX7_addedTo_66 rfl (fun c10 => ?_) (fun c10 => ?_)
          · have hf := q_t c10 hf
            refine lv_iconst (v := 0) hx hb dX7_addedTo_78 (by decide) ?_
            obtain rfl := q_s hf
            exact J7 _ _ _ hw (lv_sub hl [0, 1, 3] rfl)
          · have hf := q_f c10 hf
            refine lv_aload_n hx hb dX7_addedTo_69 rfl (lv_at hl 0 rfl) ?_
            refine M_g_0_19 F ws_in hw fl_X7_48 dX7_addedTo_70 ?_
            refine lv_iload_n hx hb dX7_addedTo_73 rfl (lv_at hl 3 rfl) ?_
            obtain ⟨g11, hf⟩ := qgd_e hf
            refine M_l_29 F hw g11 dX7_addedTo_74 ?_
            refine lv_goto (tgt := 79) hx hb dX7_addedTo_75 rfl ?_
            obtain rfl := q_s hf
            exact J7 _ _ _ hw (lv_sub hl [0, 1, 3] rfl)
        have L16 : ∀ (m0 : Nat) (v14 : Int32) (v15 : Int32) (H : Heap) (locs : List Loc) (ls : Array Slot), Wd G (wM G ad x) A s H locs → lv_has ls 6 [(0, .ref (ad 0)), (1, .int a1), (2, .int v1), (3, .int v2), (4, .int v14), (5, .int v15)] → f_X7_addedTo_l18 v2 x v1 (f_X7_addedTo_l4 x n a1 mL3) m0 v14 v15 = some rv → W p l e (rmk 0 0 0 0) s m args below meth c H locs 0 0 (KQI G below args s A (wM G ad x) rv 0 0) (F0 m 18 ls []) := by
          intro m0
          induction m0 with
          | zero => intro v14 v15 H locs ls hw hl hf; cases hf
          | succ mL16 ih16 =>
            intro v14 v15 H locs ls hw hl hf
            unfold f_X7_addedTo_l18 at hf
            refine lv_iload hx hb dX7_addedTo_18 (lv_at hl 5 rfl) ?_
            refine lv_iconst (v := -1) hx hb dX7_addedTo_20 (by decide) ?_
            refine lv_icmp_eq (tgt := 63) hx hb dX7_addedTo_21 rfl (fun c17 => ?_) (fun c17 => ?_)
            · have hf := q_t c17 hf
              exact E13 v14 _ _ _ hw (lv_sub hl [0, 1, 2, 3, 4] rfl) hf
            · have hf := q_f c17 hf
              refine lv_iload hx hb dX7_addedTo_24 (lv_at hl 4 rfl) ?_
              obtain ⟨v18, hq25, hf⟩ := qbd_e hf
              have J19 : ∀ (H : Heap) (locs : List Loc) (ls : Array Slot), Wd G (wM G ad x) A s H locs → lv_has ls 6 [(0, .ref (ad 0)), (1, .int a1), (2, .int v1), (3, .int v2), (5, .int v15)] → W p l e (rmk 0 0 0 0) s m args below meth c H locs 0 0 (KQI G below args s A (wM G ad x) rv 0 0) (F0 m 49 ls [.int v18]) := by
                intro H locs ls hw hl
                refine lv_istore (lv' := [(4, .int v18), (0, .ref (ad 0)), (1, .int a1), (2, .int v1), (3, .int v2), (5, .int v15)]) hx hb dX7_addedTo_49 hl (Nat.le_of_ble_eq_true rfl) rfl (fun ls hl => ?_)
                refine lv_aload_n hx hb dX7_addedTo_51 rfl (lv_at hl 1 rfl) ?_
                refine M_g_0_12 F ws_in hw fl_X7_32 dX7_addedTo_52 ?_
                refine lv_iload hx hb dX7_addedTo_55 (lv_at hl 5 rfl) ?_
                obtain ⟨g20, hf⟩ := qgd_e hf
                refine M_l_22 F hw g20 dX7_addedTo_57 ?_
                refine lv_topi (fun v21 ev21 => ?_)
                have hf := qnm_k ev21 hf
                refine lv_istore (lv' := [(5, .int v21), (4, .int v18), (0, .ref (ad 0)), (1, .int a1), (2, .int v1), (3, .int v2)]) hx hb dX7_addedTo_58 hl (Nat.le_of_ble_eq_true rfl) rfl (fun ls hl => ?_)
                refine lv_goto (tgt := 18) hx hb dX7_addedTo_60 rfl ?_
                exact ih16 v18 v21 _ _ _ hw (lv_sub hl [2, 3, 4, 5, 1, 0] rfl) hf
              have hf := hq25
              refine lv_if_ne (tgt := 44) hx hb dX7_addedTo_26 rfl (fun c22 => ?_) (fun c22 => ?_)
              · have hf := q_f c22 hf
                refine lv_iconst (v := 1) hx hb dX7_addedTo_44 (by decide) ?_
                refine lv_goto (tgt := 49) hx hb dX7_addedTo_45 rfl ?_
                obtain rfl := q_s hf
                exact J19 _ _ _ hw (lv_sub hl [0, 1, 2, 3, 5] rfl)
              · have hf := q_t c22 hf
                refine lv_aload_n hx hb dX7_addedTo_29 rfl (lv_at hl 0 rfl) ?_
                refine M_g_0_20 F ws_in hw fl_X7_51 dX7_addedTo_30 ?_
                refine lv_iload_n hx hb dX7_addedTo_33 rfl (lv_at hl 3 rfl) ?_
                obtain ⟨g23, hf⟩ := qgd_e hf
                refine M_l_30 F hw g23 dX7_addedTo_34 ?_
                refine lv_iload hx hb dX7_addedTo_35 (lv_at hl 5 rfl) ?_
                refine lv_ishr hx hb dX7_addedTo_37 ?_
                refine lv_iconst (v := 1) hx hb dX7_addedTo_38 (by decide) ?_
                refine lv_iand hx hb dX7_addedTo_39 ?_
                refine lv_iconst (v := 1) hx hb dX7_addedTo_40 (by decide) ?_
                refine lv_icmp_ne (tgt := 48) hx hb dX7_addedTo_41 rfl (fun c24 => ?_) (fun c24 => ?_)
                · have hf := q_f c24 hf
                  refine lv_iconst (v := 0) hx hb dX7_addedTo_48 (by decide) ?_
                  obtain rfl := q_s hf
                  exact J19 _ _ _ hw (lv_sub hl [0, 1, 2, 3, 5] rfl)
                · have hf := q_t c24 hf
                  refine lv_iconst (v := 1) hx hb dX7_addedTo_44 (by decide) ?_
                  refine lv_goto (tgt := 49) hx hb dX7_addedTo_45 rfl ?_
                  obtain rfl := q_s hf
                  exact J19 _ _ _ hw (lv_sub hl [0, 1, 2, 3, 5] rfl)
        exact L16 n (0 : Int32) a1 _ _ _ hw (lv_sub hl [2, 3, 4, 5, 1, 0] rfl) hf
  exact L3 n (0 : Int32) (0 : Int32) _ _ _ hw (lv_sub hl [2, 3, 1, 0] rfl) hf
def f_X7_worksTerm (n : Nat) (x : SX) (a1 : Int32) : Option (SX) := (qgd (qin a1 10) ((qnm (x.1 22 a1.toNatClampNeg) fun v2 => (qbd (if v2 = (-1 : Int32) then some (1 : Int32) else some (0 : Int32)) fun v3 => (qbd (if v3 = 0 then (qgd (qin v2 10) (some ((x.1 40 v2.toNatClampNeg) + (x.1 41 v2.toNatClampNeg)))) else some (x.1 21 a1.toNatClampNeg)) fun v5 => (qnm (si x 40 a1.toNatClampNeg v5) fun x7 => (qbd2 (f_X7_later n x7 (x7.1 40 a1.toNatClampNeg) (x7.1 18 a1.toNatClampNeg)) fun r8 x9 => (qnm (si x9 41 a1.toNatClampNeg ((r8 - (x9.1 40 a1.toNatClampNeg)) + (x9.1 19 a1.toNatClampNeg))) fun x11 => (qbd (f_X7_partOf n (x11.1 17 a1.toNatClampNeg) (x11.1 41 a1.toNatClampNeg)) fun r12 => (qnm (si x11 42 a1.toNatClampNeg r12) fun x14 => (qbd (if v3 = 0 then (qgd (qin v2 10) (some (x14.1 43 v2.toNatClampNeg))) else some (x14.1 40 a1.toNatClampNeg)) fun v15 => (qnm (si x14 43 a1.toNatClampNeg v15) fun x17 => (qbd (if v3 = 0 then (qgd (qin v2 10) (some (x17.1 44 v2.toNatClampNeg))) else some (0 : Int32)) fun v18 => (qnm (si x17 44 a1.toNatClampNeg ((x17.1 41 a1.toNatClampNeg) + v18)) fun x20 => (qbd (if v3 = 0 then (qgd (qin v2 10) (some (x20.1 45 v2.toNatClampNeg))) else some (0 : Int32)) fun v21 => (qnm (si x20 45 a1.toNatClampNeg ((x20.1 42 a1.toNatClampNeg) + v21)) fun x23 => (qbd (f_X7_remandOf n x23 a1) fun r24 => (qbd (if (x23.1 44 a1.toNatClampNeg) ≤ r24 then some (x23.1 44 a1.toNatClampNeg) else some r24) fun v26 => (qnm (si x23 46 a1.toNatClampNeg v26) fun x28 => (qbd (f_X7_addedTo n x28 a1) fun r29 => (qnm (si x28 47 a1.toNatClampNeg r29) fun x31 => (qnm ((x31.1 44 a1.toNatClampNeg) - (x31.1 46 a1.toNatClampNeg)) fun v32 => (qbd (if (x31.1 45 a1.toNatClampNeg) ≤ (x31.1 46 a1.toNatClampNeg) then some (0 : Int32) else some ((x31.1 45 a1.toNatClampNeg) - (x31.1 46 a1.toNatClampNeg))) fun v33 => (qnm (v33 + (x31.1 47 a1.toNatClampNeg)) fun v35 => (qbd (if v32 ≤ v35 then some v32 else some v35) fun v36 => (qnm (si x31 48 a1.toNatClampNeg ((x31.1 43 a1.toNatClampNeg) + v36)) fun x38 => (qnm (si x38 49 a1.toNatClampNeg ((x38.1 43 a1.toNatClampNeg) + v32)) fun x39 => some x39)))))))))))))))))))))))))))
set_option maxHeartbeats 4000000 in
set_option maxRecDepth 100000 in
theorem t_X7_worksTerm {G : gG} {l : Launch} {ad : Nat → Nat} {n : Nat} {x : SX} {a1 : Int32} {xr : SX} (hf : f_X7_worksTerm n x a1 = some xr) : MetV G l yX7_worksTerm cX7_worksTerm 7 none 4 0 0 89 [.ref (ad 0), .int a1] (wM G ad x) (wM G ad xr) := by
  refine k_ofV (by decide) (Nat.le_of_ble_eq_true rfl) ?_
  intro p e s m args below meth c ls A F hr hlk hl hw
  have hx := F.1
  have hb := F.2.1
  have hl : lv_has ls 7 [(0, .ref (ad 0)), (1, .int a1)] := hl
  unfold f_X7_worksTerm at hf
  refine lv_aload_n hx hb dX7_worksTerm_0 rfl (lv_at hl 0 rfl) ?_
  refine M_g_0_12 F ws_in hw fl_X7_32 dX7_worksTerm_1 ?_
  refine lv_iload_n hx hb dX7_worksTerm_4 rfl (lv_at hl 1 rfl) ?_
  obtain ⟨g1, hf⟩ := qgd_e hf
  refine M_l_22 F hw g1 dX7_worksTerm_5 ?_
  refine lv_topi (fun v2 ev2 => ?_)
  have hf := qnm_k ev2 hf
  refine lv_istore_n (lv' := [(2, .int v2), (0, .ref (ad 0)), (1, .int a1)]) hx hb dX7_worksTerm_6 rfl hl (Nat.le_of_ble_eq_true rfl) rfl (fun ls hl => ?_)
  refine lv_iload_n hx hb dX7_worksTerm_7 rfl (lv_at hl 0 rfl) ?_
  refine lv_iconst (v := -1) hx hb dX7_worksTerm_8 (by decide) ?_
  obtain ⟨v3, hq59, hf⟩ := qbd_e hf
  have J4 : ∀ (H : Heap) (locs : List Loc) (ls : Array Slot), Wd G (wM G ad x) A s H locs → lv_has ls 7 [(0, .ref (ad 0)), (1, .int a1), (2, .int v2)] → W p l e (rmk 4 0 0 89) s m args below meth c H locs 0 0 (KQV G below args s A (wM G ad xr) 0 0) (F0 m 17 ls [.int v3]) := by
    intro H locs ls hw hl
    refine lv_istore_n (lv' := [(3, .int v3), (0, .ref (ad 0)), (1, .int a1), (2, .int v2)]) hx hb dX7_worksTerm_17 rfl hl (Nat.le_of_ble_eq_true rfl) rfl (fun ls hl => ?_)
    refine lv_aload_n hx hb dX7_worksTerm_18 rfl (lv_at hl 1 rfl) ?_
    refine M_g_0_30 F ws_in hw fl_X7_57 dX7_worksTerm_19 ?_
    refine lv_iload_n hx hb dX7_worksTerm_22 rfl (lv_at hl 2 rfl) ?_
    refine lv_iload_n hx hb dX7_worksTerm_23 rfl (lv_at hl 0 rfl) ?_
    obtain ⟨v5, hq57, hf⟩ := qbd_e hf
    have J6 : ∀ (H : Heap) (locs : List Loc) (ls : Array Slot), Wd G (wM G ad x) A s H locs → lv_has ls 7 [(0, .ref (ad 0)), (1, .int a1), (2, .int v2), (3, .int v3)] → W p l e (rmk 4 0 0 89) s m args below meth c H locs 0 0 (KQV G below args s A (wM G ad xr) 0 0) (F0 m 49 ls [.int v5, .int a1, .ref (ad 40)]) := by
      intro H locs ls hw hl
      refine M_s_40 F hw g1 dX7_worksTerm_49 (fun x7 ex7 H locs hw => ?_)
      have hf := qnm_k ex7 hf
      refine lv_aload_n hx hb dX7_worksTerm_50 rfl (lv_at hl 0 rfl) ?_
      refine M_g_0_31 F ws_in hw fl_X7_60 dX7_worksTerm_51 ?_
      refine lv_iload_n hx hb dX7_worksTerm_54 rfl (lv_at hl 1 rfl) ?_
      refine lv_aload_n hx hb dX7_worksTerm_55 rfl (lv_at hl 0 rfl) ?_
      refine lv_aload_n hx hb dX7_worksTerm_56 rfl (lv_at hl 0 rfl) ?_
      refine M_g_0_30 F ws_in hw fl_X7_57 dX7_worksTerm_57 ?_
      refine lv_iload_n hx hb dX7_worksTerm_60 rfl (lv_at hl 1 rfl) ?_
      refine M_l_40 F hw g1 dX7_worksTerm_61 ?_
      refine lv_aload_n hx hb dX7_worksTerm_62 rfl (lv_at hl 0 rfl) ?_
      refine M_g_0_8 F ws_in hw fl_X7_20 dX7_worksTerm_63 ?_
      refine lv_iload_n hx hb dX7_worksTerm_66 rfl (lv_at hl 1 rfl) ?_
      refine M_l_18 F hw g1 dX7_worksTerm_67 ?_
      obtain ⟨r8, x9, h10, hf⟩ := qbd2_e hf
      refine k_callVi' (rest := [.int a1, .ref (ad 41)]) (As := [.int (x7.1 40 a1.toNatClampNeg), .int (x7.1 18 a1.toNatClampNeg)]) F ws_in (t_X7_later h10) cv_X7_later ml_X7_137 hw 0 rfl rfl rfl hl.1 rfl (Nat.le_of_ble_eq_true rfl) ⟨Nat.le_of_ble_eq_true rfl, Nat.le_of_ble_eq_true rfl⟩ ⟨Nat.le_of_ble_eq_true rfl, Nat.le_of_ble_eq_true rfl⟩ dX7_worksTerm_68 (fun H locs hw => ?_)
      refine lv_aload_n hx hb dX7_worksTerm_71 rfl (lv_at hl 0 rfl) ?_
      refine M_g_0_30 F ws_in hw fl_X7_57 dX7_worksTerm_72 ?_
      refine lv_iload_n hx hb dX7_worksTerm_75 rfl (lv_at hl 1 rfl) ?_
      refine M_l_40 F hw g1 dX7_worksTerm_76 ?_
      refine lv_isub hx hb dX7_worksTerm_77 ?_
      refine lv_aload_n hx hb dX7_worksTerm_78 rfl (lv_at hl 0 rfl) ?_
      refine M_g_0_9 F ws_in hw fl_X7_23 dX7_worksTerm_79 ?_
      refine lv_iload_n hx hb dX7_worksTerm_82 rfl (lv_at hl 1 rfl) ?_
      refine M_l_19 F hw g1 dX7_worksTerm_83 ?_
      refine lv_iadd hx hb dX7_worksTerm_84 ?_
      refine M_s_41 F hw g1 dX7_worksTerm_85 (fun x11 ex11 H locs hw => ?_)
      have hf := qnm_k ex11 hf
      refine lv_aload_n hx hb dX7_worksTerm_86 rfl (lv_at hl 0 rfl) ?_
      refine M_g_0_32 F ws_in hw fl_X7_63 dX7_worksTerm_87 ?_
      refine lv_iload_n hx hb dX7_worksTerm_90 rfl (lv_at hl 1 rfl) ?_
      refine lv_aload_n hx hb dX7_worksTerm_91 rfl (lv_at hl 0 rfl) ?_
      refine M_g_0_7 F ws_in hw fl_X7_17 dX7_worksTerm_92 ?_
      refine lv_iload_n hx hb dX7_worksTerm_95 rfl (lv_at hl 1 rfl) ?_
      refine M_l_17 F hw g1 dX7_worksTerm_96 ?_
      refine lv_aload_n hx hb dX7_worksTerm_97 rfl (lv_at hl 0 rfl) ?_
      refine M_g_0_31 F ws_in hw fl_X7_60 dX7_worksTerm_98 ?_
      refine lv_iload_n hx hb dX7_worksTerm_101 rfl (lv_at hl 1 rfl) ?_
      refine M_l_41 F hw g1 dX7_worksTerm_102 ?_
      obtain ⟨r12, h13, hf⟩ := qbd_e hf
      refine k_callPi (rest := [.int a1, .ref (ad 42)]) (As := [.int (x11.1 17 a1.toNatClampNeg), .int (x11.1 41 a1.toNatClampNeg)]) F ws_in (t_X7_partOf h13) cs_X7_partOf ml_X7_156 hw rfl hl.1 rfl (Nat.le_of_ble_eq_true rfl) ⟨Nat.le_of_ble_eq_true rfl, Nat.le_of_ble_eq_true rfl⟩ ⟨Nat.le_of_ble_eq_true rfl, Nat.le_of_ble_eq_true rfl⟩ dX7_worksTerm_103 (fun H locs hw => ?_)
      refine M_s_42 F hw g1 dX7_worksTerm_106 (fun x14 ex14 H locs hw => ?_)
      have hf := qnm_k ex14 hf
      refine lv_aload_n hx hb dX7_worksTerm_107 rfl (lv_at hl 0 rfl) ?_
      refine M_g_0_33 F ws_in hw fl_X7_66 dX7_worksTerm_108 ?_
      refine lv_iload_n hx hb dX7_worksTerm_111 rfl (lv_at hl 1 rfl) ?_
      refine lv_iload_n hx hb dX7_worksTerm_112 rfl (lv_at hl 3 rfl) ?_
      obtain ⟨v15, hq54, hf⟩ := qbd_e hf
      have J16 : ∀ (H : Heap) (locs : List Loc) (ls : Array Slot), Wd G (wM G ad x14) A s H locs → lv_has ls 7 [(0, .ref (ad 0)), (1, .int a1), (2, .int v2), (3, .int v3)] → W p l e (rmk 4 0 0 89) s m args below meth c H locs 0 0 (KQV G below args s A (wM G ad xr) 0 0) (F0 m 131 ls [.int v15, .int a1, .ref (ad 43)]) := by
        intro H locs ls hw hl
        refine M_s_43 F hw g1 dX7_worksTerm_131 (fun x17 ex17 H locs hw => ?_)
        have hf := qnm_k ex17 hf
        refine lv_aload_n hx hb dX7_worksTerm_132 rfl (lv_at hl 0 rfl) ?_
        refine M_g_0_34 F ws_in hw fl_X7_69 dX7_worksTerm_133 ?_
        refine lv_iload_n hx hb dX7_worksTerm_136 rfl (lv_at hl 1 rfl) ?_
        refine lv_aload_n hx hb dX7_worksTerm_137 rfl (lv_at hl 0 rfl) ?_
        refine M_g_0_31 F ws_in hw fl_X7_60 dX7_worksTerm_138 ?_
        refine lv_iload_n hx hb dX7_worksTerm_141 rfl (lv_at hl 1 rfl) ?_
        refine M_l_41 F hw g1 dX7_worksTerm_142 ?_
        refine lv_iload_n hx hb dX7_worksTerm_143 rfl (lv_at hl 3 rfl) ?_
        obtain ⟨v18, hq51, hf⟩ := qbd_e hf
        have J19 : ∀ (H : Heap) (locs : List Loc) (ls : Array Slot), Wd G (wM G ad x17) A s H locs → lv_has ls 7 [(0, .ref (ad 0)), (1, .int a1), (2, .int v2), (3, .int v3)] → W p l e (rmk 4 0 0 89) s m args below meth c H locs 0 0 (KQV G below args s A (wM G ad xr) 0 0) (F0 m 157 ls [.int v18, .int (x17.1 41 a1.toNatClampNeg), .int a1, .ref (ad 44)]) := by
          intro H locs ls hw hl
          refine lv_iadd hx hb dX7_worksTerm_157 ?_
          refine M_s_44 F hw g1 dX7_worksTerm_158 (fun x20 ex20 H locs hw => ?_)
          have hf := qnm_k ex20 hf
          refine lv_aload_n hx hb dX7_worksTerm_159 rfl (lv_at hl 0 rfl) ?_
          refine M_g_0_35 F ws_in hw fl_X7_72 dX7_worksTerm_160 ?_
          refine lv_iload_n hx hb dX7_worksTerm_163 rfl (lv_at hl 1 rfl) ?_
          refine lv_aload_n hx hb dX7_worksTerm_164 rfl (lv_at hl 0 rfl) ?_
          refine M_g_0_32 F ws_in hw fl_X7_63 dX7_worksTerm_165 ?_
          refine lv_iload_n hx hb dX7_worksTerm_168 rfl (lv_at hl 1 rfl) ?_
          refine M_l_42 F hw g1 dX7_worksTerm_169 ?_
          refine lv_iload_n hx hb dX7_worksTerm_170 rfl (lv_at hl 3 rfl) ?_
          obtain ⟨v21, hq48, hf⟩ := qbd_e hf
          have J22 : ∀ (H : Heap) (locs : List Loc) (ls : Array Slot), Wd G (wM G ad x20) A s H locs → lv_has ls 7 [(0, .ref (ad 0)), (1, .int a1)] → W p l e (rmk 4 0 0 89) s m args below meth c H locs 0 0 (KQV G below args s A (wM G ad xr) 0 0) (F0 m 184 ls [.int v21, .int (x20.1 42 a1.toNatClampNeg), .int a1, .ref (ad 45)]) := by
            intro H locs ls hw hl
            refine lv_iadd hx hb dX7_worksTerm_184 ?_
            refine M_s_45 F hw g1 dX7_worksTerm_185 (fun x23 ex23 H locs hw => ?_)
            have hf := qnm_k ex23 hf
            refine lv_aload_n hx hb dX7_worksTerm_186 rfl (lv_at hl 0 rfl) ?_
            refine lv_iload_n hx hb dX7_worksTerm_187 rfl (lv_at hl 1 rfl) ?_
            obtain ⟨r24, h25, hf⟩ := qbd_e hf
            refine k_callVi' (rest := []) (As := [.int a1]) F ws_in (t_X7_remandOf h25) cv_X7_remandOf ml_X7_159 hw 0 rfl rfl rfl hl.1 rfl (Nat.le_of_ble_eq_true rfl) ⟨Nat.le_of_ble_eq_true rfl, Nat.le_of_ble_eq_true rfl⟩ ⟨Nat.le_of_ble_eq_true rfl, Nat.le_of_ble_eq_true rfl⟩ dX7_worksTerm_188 (fun H locs hw => ?_)
            refine lv_istore (lv' := [(4, .int r24), (0, .ref (ad 0)), (1, .int a1)]) hx hb dX7_worksTerm_191 hl (Nat.le_of_ble_eq_true rfl) rfl (fun ls hl => ?_)
            refine lv_aload_n hx hb dX7_worksTerm_193 rfl (lv_at hl 1 rfl) ?_
            refine M_g_0_36 F ws_in hw fl_X7_75 dX7_worksTerm_194 ?_
            refine lv_iload_n hx hb dX7_worksTerm_197 rfl (lv_at hl 2 rfl) ?_
            refine lv_iload hx hb dX7_worksTerm_198 (lv_at hl 0 rfl) ?_
            refine lv_aload_n hx hb dX7_worksTerm_200 rfl (lv_at hl 1 rfl) ?_
            refine M_g_0_34 F ws_in hw fl_X7_69 dX7_worksTerm_201 ?_
            refine lv_iload_n hx hb dX7_worksTerm_204 rfl (lv_at hl 2 rfl) ?_
            refine M_l_44 F hw g1 dX7_worksTerm_205 ?_
            obtain ⟨v26, hq45, hf⟩ := qbd_e hf
            have J27 : ∀ (H : Heap) (locs : List Loc) (ls : Array Slot), Wd G (wM G ad x23) A s H locs → lv_has ls 7 [(0, .ref (ad 0)), (1, .int a1)] → W p l e (rmk 4 0 0 89) s m args below meth c H locs 0 0 (KQV G below args s A (wM G ad xr) 0 0) (F0 m 220 ls [.int v26, .int a1, .ref (ad 46)]) := by
              intro H locs ls hw hl
              refine M_s_46 F hw g1 dX7_worksTerm_220 (fun x28 ex28 H locs hw => ?_)
              have hf := qnm_k ex28 hf
              refine lv_aload_n hx hb dX7_worksTerm_221 rfl (lv_at hl 0 rfl) ?_
              refine M_g_0_37 F ws_in hw fl_X7_78 dX7_worksTerm_222 ?_
              refine lv_iload_n hx hb dX7_worksTerm_225 rfl (lv_at hl 1 rfl) ?_
              refine lv_aload_n hx hb dX7_worksTerm_226 rfl (lv_at hl 0 rfl) ?_
              refine lv_iload_n hx hb dX7_worksTerm_227 rfl (lv_at hl 1 rfl) ?_
              obtain ⟨r29, h30, hf⟩ := qbd_e hf
              refine k_callVi' (rest := [.int a1, .ref (ad 47)]) (As := [.int a1]) F ws_in (t_X7_addedTo h30) cv_X7_addedTo ml_X7_162 hw 0 rfl rfl rfl hl.1 rfl (Nat.le_of_ble_eq_true rfl) ⟨Nat.le_of_ble_eq_true rfl, Nat.le_of_ble_eq_true rfl⟩ ⟨Nat.le_of_ble_eq_true rfl, Nat.le_of_ble_eq_true rfl⟩ dX7_worksTerm_228 (fun H locs hw => ?_)
              refine M_s_47 F hw g1 dX7_worksTerm_231 (fun x31 ex31 H locs hw => ?_)
              have hf := qnm_k ex31 hf
              refine lv_aload_n hx hb dX7_worksTerm_232 rfl (lv_at hl 0 rfl) ?_
              refine M_g_0_34 F ws_in hw fl_X7_69 dX7_worksTerm_233 ?_
              refine lv_iload_n hx hb dX7_worksTerm_236 rfl (lv_at hl 1 rfl) ?_
              refine M_l_44 F hw g1 dX7_worksTerm_237 ?_
              refine lv_aload_n hx hb dX7_worksTerm_238 rfl (lv_at hl 0 rfl) ?_
              refine M_g_0_36 F ws_in hw fl_X7_75 dX7_worksTerm_239 ?_
              refine lv_iload_n hx hb dX7_worksTerm_242 rfl (lv_at hl 1 rfl) ?_
              refine M_l_46 F hw g1 dX7_worksTerm_243 ?_
              refine lv_isub hx hb dX7_worksTerm_244 ?_
              refine lv_topi (fun v32 ev32 => ?_)
              have hf := qnm_k ev32 hf
              refine lv_istore (lv' := [(5, .int v32), (0, .ref (ad 0)), (1, .int a1)]) hx hb dX7_worksTerm_245 hl (Nat.le_of_ble_eq_true rfl) rfl (fun ls hl => ?_)
              refine lv_aload_n hx hb dX7_worksTerm_247 rfl (lv_at hl 1 rfl) ?_
              refine M_g_0_35 F ws_in hw fl_X7_72 dX7_worksTerm_248 ?_
              refine lv_iload_n hx hb dX7_worksTerm_251 rfl (lv_at hl 2 rfl) ?_
              refine M_l_45 F hw g1 dX7_worksTerm_252 ?_
              refine lv_aload_n hx hb dX7_worksTerm_253 rfl (lv_at hl 1 rfl) ?_
              refine M_g_0_36 F ws_in hw fl_X7_75 dX7_worksTerm_254 ?_
              refine lv_iload_n hx hb dX7_worksTerm_257 rfl (lv_at hl 2 rfl) ?_
              refine M_l_46 F hw g1 dX7_worksTerm_258 ?_
              obtain ⟨v33, hq43, hf⟩ := qbd_e hf
              have J34 : ∀ (H : Heap) (locs : List Loc) (ls : Array Slot), Wd G (wM G ad x31) A s H locs → lv_has ls 7 [(0, .ref (ad 0)), (1, .int a1), (5, .int v32)] → W p l e (rmk 4 0 0 89) s m args below meth c H locs 0 0 (KQV G below args s A (wM G ad xr) 0 0) (F0 m 279 ls [.int v33]) := by
                intro H locs ls hw hl
                refine lv_aload_n hx hb dX7_worksTerm_279 rfl (lv_at hl 0 rfl) ?_
                refine M_g_0_37 F ws_in hw fl_X7_78 dX7_worksTerm_280 ?_
                refine lv_iload_n hx hb dX7_worksTerm_283 rfl (lv_at hl 1 rfl) ?_
                refine M_l_47 F hw g1 dX7_worksTerm_284 ?_
                refine lv_iadd hx hb dX7_worksTerm_285 ?_
                refine lv_topi (fun v35 ev35 => ?_)
                have hf := qnm_k ev35 hf
                refine lv_istore (lv' := [(6, .int v35), (0, .ref (ad 0)), (1, .int a1), (5, .int v32)]) hx hb dX7_worksTerm_286 hl (Nat.le_of_ble_eq_true rfl) rfl (fun ls hl => ?_)
                refine lv_aload_n hx hb dX7_worksTerm_288 rfl (lv_at hl 1 rfl) ?_
                refine M_g_0_38 F ws_in hw fl_X7_81 dX7_worksTerm_289 ?_
                refine lv_iload_n hx hb dX7_worksTerm_292 rfl (lv_at hl 2 rfl) ?_
                refine lv_aload_n hx hb dX7_worksTerm_293 rfl (lv_at hl 1 rfl) ?_
                refine M_g_0_33 F ws_in hw fl_X7_66 dX7_worksTerm_294 ?_
                refine lv_iload_n hx hb dX7_worksTerm_297 rfl (lv_at hl 2 rfl) ?_
                refine M_l_43 F hw g1 dX7_worksTerm_298 ?_
                refine lv_iload hx hb dX7_worksTerm_299 (lv_at hl 0 rfl) ?_
                refine lv_iload hx hb dX7_worksTerm_301 (lv_at hl 3 rfl) ?_
                obtain ⟨v36, hq41, hf⟩ := qbd_e hf
                have J37 : ∀ (H : Heap) (locs : List Loc) (ls : Array Slot), Wd G (wM G ad x31) A s H locs → lv_has ls 7 [(0, .ref (ad 0)), (1, .int a1), (5, .int v32)] → W p l e (rmk 4 0 0 89) s m args below meth c H locs 0 0 (KQV G below args s A (wM G ad xr) 0 0) (F0 m 313 ls [.int v36, .int (x31.1 43 a1.toNatClampNeg), .int a1, .ref (ad 48)]) := by
                  intro H locs ls hw hl
                  refine lv_iadd hx hb dX7_worksTerm_313 ?_
                  refine M_s_48 F hw g1 dX7_worksTerm_314 (fun x38 ex38 H locs hw => ?_)
                  have hf := qnm_k ex38 hf
                  refine lv_aload_n hx hb dX7_worksTerm_315 rfl (lv_at hl 0 rfl) ?_
                  refine M_g_0_39 F ws_in hw fl_X7_84 dX7_worksTerm_316 ?_
                  refine lv_iload_n hx hb dX7_worksTerm_319 rfl (lv_at hl 1 rfl) ?_
                  refine lv_aload_n hx hb dX7_worksTerm_320 rfl (lv_at hl 0 rfl) ?_
                  refine M_g_0_33 F ws_in hw fl_X7_66 dX7_worksTerm_321 ?_
                  refine lv_iload_n hx hb dX7_worksTerm_324 rfl (lv_at hl 1 rfl) ?_
                  refine M_l_43 F hw g1 dX7_worksTerm_325 ?_
                  refine lv_iload hx hb dX7_worksTerm_326 (lv_at hl 2 rfl) ?_
                  refine lv_iadd hx hb dX7_worksTerm_328 ?_
                  refine M_s_49 F hw g1 dX7_worksTerm_329 (fun x39 ex39 H locs hw => ?_)
                  have hf := qnm_k ex39 hf
                  obtain rfl := q_s hf
                  exact k_vret F hr hlk hw (Nat.le_of_ble_eq_true rfl) (Nat.le_of_ble_eq_true rfl) dX7_worksTerm_330
                have hf := hq41
                refine lv_icmp_ge (tgt := 311) hx hb dX7_worksTerm_303 rfl (fun c40 => ?_) (fun c40 => ?_)
                · have hf := q_t c40 hf
                  refine lv_iload hx hb dX7_worksTerm_311 (lv_at hl 3 rfl) ?_
                  obtain rfl := q_s hf
                  exact J37 _ _ _ hw (lv_sub hl [1, 2, 3] rfl)
                · have hf := q_f c40 hf
                  refine lv_iload hx hb dX7_worksTerm_306 (lv_at hl 0 rfl) ?_
                  refine lv_goto (tgt := 313) hx hb dX7_worksTerm_308 rfl ?_
                  obtain rfl := q_s hf
                  exact J37 _ _ _ hw (lv_sub hl [1, 2, 3] rfl)
              have hf := hq43
              refine lv_icmp_le (tgt := 278) hx hb dX7_worksTerm_259 rfl (fun c42 => ?_) (fun c42 => ?_)
              · have hf := q_t c42 hf
                refine lv_iconst (v := 0) hx hb dX7_worksTerm_278 (by decide) ?_
                obtain rfl := q_s hf
                exact J34 _ _ _ hw (lv_sub hl [1, 2, 0] rfl)
              · have hf := q_f c42 hf
                refine lv_aload_n hx hb dX7_worksTerm_262 rfl (lv_at hl 1 rfl) ?_
                refine M_g_0_35 F ws_in hw fl_X7_72 dX7_worksTerm_263 ?_
                refine lv_iload_n hx hb dX7_worksTerm_266 rfl (lv_at hl 2 rfl) ?_
                refine M_l_45 F hw g1 dX7_worksTerm_267 ?_
                refine lv_aload_n hx hb dX7_worksTerm_268 rfl (lv_at hl 1 rfl) ?_
                refine M_g_0_36 F ws_in hw fl_X7_75 dX7_worksTerm_269 ?_
                refine lv_iload_n hx hb dX7_worksTerm_272 rfl (lv_at hl 2 rfl) ?_
                refine M_l_46 F hw g1 dX7_worksTerm_273 ?_
                refine lv_isub hx hb dX7_worksTerm_274 ?_
                refine lv_goto (tgt := 279) hx hb dX7_worksTerm_275 rfl ?_
                obtain rfl := q_s hf
                exact J34 _ _ _ hw (lv_sub hl [1, 2, 0] rfl)
            have hf := hq45
            refine lv_icmp_ge (tgt := 214) hx hb dX7_worksTerm_206 rfl (fun c44 => ?_) (fun c44 => ?_)
            · have hf := q_t c44 hf
              refine lv_aload_n hx hb dX7_worksTerm_214 rfl (lv_at hl 1 rfl) ?_
              refine M_g_0_34 F ws_in hw fl_X7_69 dX7_worksTerm_215 ?_
              refine lv_iload_n hx hb dX7_worksTerm_218 rfl (lv_at hl 2 rfl) ?_
              refine M_l_44 F hw g1 dX7_worksTerm_219 ?_
              obtain rfl := q_s hf
              exact J27 _ _ _ hw (lv_sub hl [1, 2] rfl)
            · have hf := q_f c44 hf
              refine lv_iload hx hb dX7_worksTerm_209 (lv_at hl 0 rfl) ?_
              refine lv_goto (tgt := 220) hx hb dX7_worksTerm_211 rfl ?_
              obtain rfl := q_s hf
              exact J27 _ _ _ hw (lv_sub hl [1, 2] rfl)
          have hf := hq48
          refine lv_if_eq (tgt := 178) hx hb dX7_worksTerm_171 rfl (fun c46 => ?_) (fun c46 => ?_)
          · have hf := q_t c46 hf
            refine lv_aload_n hx hb dX7_worksTerm_178 rfl (lv_at hl 0 rfl) ?_
            refine M_g_0_35 F ws_in hw fl_X7_72 dX7_worksTerm_179 ?_
            refine lv_iload_n hx hb dX7_worksTerm_182 rfl (lv_at hl 2 rfl) ?_
            obtain ⟨g47, hf⟩ := qgd_e hf
            refine M_l_45 F hw g47 dX7_worksTerm_183 ?_
            obtain rfl := q_s hf
            exact J22 _ _ _ hw (lv_sub hl [0, 1] rfl)
          · have hf := q_f c46 hf
            refine lv_iconst (v := 0) hx hb dX7_worksTerm_174 (by decide) ?_
            refine lv_goto (tgt := 184) hx hb dX7_worksTerm_175 rfl ?_
            obtain rfl := q_s hf
            exact J22 _ _ _ hw (lv_sub hl [0, 1] rfl)
        have hf := hq51
        refine lv_if_eq (tgt := 151) hx hb dX7_worksTerm_144 rfl (fun c49 => ?_) (fun c49 => ?_)
        · have hf := q_t c49 hf
          refine lv_aload_n hx hb dX7_worksTerm_151 rfl (lv_at hl 0 rfl) ?_
          refine M_g_0_34 F ws_in hw fl_X7_69 dX7_worksTerm_152 ?_
          refine lv_iload_n hx hb dX7_worksTerm_155 rfl (lv_at hl 2 rfl) ?_
          obtain ⟨g50, hf⟩ := qgd_e hf
          refine M_l_44 F hw g50 dX7_worksTerm_156 ?_
          obtain rfl := q_s hf
          exact J19 _ _ _ hw (lv_sub hl [0, 1, 2, 3] rfl)
        · have hf := q_f c49 hf
          refine lv_iconst (v := 0) hx hb dX7_worksTerm_147 (by decide) ?_
          refine lv_goto (tgt := 157) hx hb dX7_worksTerm_148 rfl ?_
          obtain rfl := q_s hf
          exact J19 _ _ _ hw (lv_sub hl [0, 1, 2, 3] rfl)
      have hf := hq54
      refine lv_if_eq (tgt := 125) hx hb dX7_worksTerm_113 rfl (fun c52 => ?_) (fun c52 => ?_)
      · have hf := q_t c52 hf
        refine lv_aload_n hx hb dX7_worksTerm_125 rfl (lv_at hl 0 rfl) ?_
        refine M_g_0_33 F ws_in hw fl_X7_66 dX7_worksTerm_126 ?_
        refine lv_iload_n hx hb dX7_worksTerm_129 rfl (lv_at hl 2 rfl) ?_
        obtain ⟨g53, hf⟩ := qgd_e hf
        refine M_l_43 F hw g53 dX7_worksTerm_130 ?_
        obtain rfl := q_s hf
        exact J16 _ _ _ hw (lv_sub hl [0, 1, 2, 3] rfl)
      · have hf := q_f c52 hf
        refine lv_aload_n hx hb dX7_worksTerm_116 rfl (lv_at hl 0 rfl) ?_
        refine M_g_0_30 F ws_in hw fl_X7_57 dX7_worksTerm_117 ?_
        refine lv_iload_n hx hb dX7_worksTerm_120 rfl (lv_at hl 1 rfl) ?_
        refine M_l_40 F hw g1 dX7_worksTerm_121 ?_
        refine lv_goto (tgt := 131) hx hb dX7_worksTerm_122 rfl ?_
        obtain rfl := q_s hf
        exact J16 _ _ _ hw (lv_sub hl [0, 1, 2, 3] rfl)
    have hf := hq57
    refine lv_if_eq (tgt := 36) hx hb dX7_worksTerm_24 rfl (fun c55 => ?_) (fun c55 => ?_)
    · have hf := q_t c55 hf
      refine lv_aload_n hx hb dX7_worksTerm_36 rfl (lv_at hl 1 rfl) ?_
      refine M_g_0_30 F ws_in hw fl_X7_57 dX7_worksTerm_37 ?_
      refine lv_iload_n hx hb dX7_worksTerm_40 rfl (lv_at hl 3 rfl) ?_
      obtain ⟨g56, hf⟩ := qgd_e hf
      refine M_l_40 F hw g56 dX7_worksTerm_41 ?_
      refine lv_aload_n hx hb dX7_worksTerm_42 rfl (lv_at hl 1 rfl) ?_
      refine M_g_0_31 F ws_in hw fl_X7_60 dX7_worksTerm_43 ?_
      refine lv_iload_n hx hb dX7_worksTerm_46 rfl (lv_at hl 3 rfl) ?_
      refine M_l_41 F hw g56 dX7_worksTerm_47 ?_
      refine lv_iadd hx hb dX7_worksTerm_48 ?_
      obtain rfl := q_s hf
      exact J6 _ _ _ hw (lv_sub hl [1, 2, 3, 0] rfl)
    · have hf := q_f c55 hf
      refine lv_aload_n hx hb dX7_worksTerm_27 rfl (lv_at hl 1 rfl) ?_
      refine M_g_0_11 F ws_in hw fl_X7_29 dX7_worksTerm_28 ?_
      refine lv_iload_n hx hb dX7_worksTerm_31 rfl (lv_at hl 2 rfl) ?_
      refine M_l_21 F hw g1 dX7_worksTerm_32 ?_
      refine lv_goto (tgt := 49) hx hb dX7_worksTerm_33 rfl ?_
      obtain rfl := q_s hf
      exact J6 _ _ _ hw (lv_sub hl [1, 2, 3, 0] rfl)
  have hf := hq59
  refine lv_icmp_ne (tgt := 16) hx hb dX7_worksTerm_9 rfl (fun c58 => ?_) (fun c58 => ?_)
  · have hf := q_f c58 hf
    refine lv_iconst (v := 0) hx hb dX7_worksTerm_16 (by decide) ?_
    obtain rfl := q_s hf
    exact J4 _ _ _ hw (lv_sub hl [1, 2, 0] rfl)
  · have hf := q_t c58 hf
    refine lv_iconst (v := 1) hx hb dX7_worksTerm_12 (by decide) ?_
    refine lv_goto (tgt := 17) hx hb dX7_worksTerm_13 rfl ?_
    obtain rfl := q_s hf
    exact J4 _ _ _ hw (lv_sub hl [1, 2, 0] rfl)
def f_X7_works_l2 (n : Nat) : Nat → Int32 → SX → Option (SX)
  | 0, _, _ => none
  | m + 1, v1, x2 => (if (x2.1 0 6) ≤ v1 then some x2 else (qbd (f_X7_isIn n x2 v1) fun r5 => (qbd (if r5 = 0 then some x2 else (qbd (f_X7_worksTerm n x2 v1) fun x11 => some x11)) fun x7 => (qnm (v1 + (1 : Int32)) fun v9 => (f_X7_works_l2 n m) v9 x7))))
def f_X7_works (n : Nat) (x : SX) : Option (SX) := f_X7_works_l2 n n (0 : Int32) x
set_option maxHeartbeats 4000000 in
set_option maxRecDepth 100000 in
theorem t_X7_works {G : gG} {l : Launch} {ad : Nat → Nat} {n : Nat} {x : SX} {xr : SX} (hf : f_X7_works n x = some xr) : MetV G l yX7_works cX7_works 2 none 5 0 0 115 [.ref (ad 0)] (wM G ad x) (wM G ad xr) := by
  refine k_ofV (by decide) (Nat.le_of_ble_eq_true rfl) ?_
  intro p e s m args below meth c ls A F hr hlk hl hw
  have hx := F.1
  have hb := F.2.1
  have hl : lv_has ls 2 [(0, .ref (ad 0))] := hl
  unfold f_X7_works at hf
  refine lv_iconst (v := 0) hx hb dX7_works_0 (by decide) ?_
  refine lv_istore_n (lv' := [(1, .int (0 : Int32)), (0, .ref (ad 0))]) hx hb dX7_works_1 rfl hl (Nat.le_of_ble_eq_true rfl) rfl (fun ls hl => ?_)
  have L3 : ∀ (m0 : Nat) (v1 : Int32) (x2 : SX) (H : Heap) (locs : List Loc) (ls : Array Slot), Wd G (wM G ad x2) A s H locs → lv_has ls 2 [(0, .ref (ad 0)), (1, .int v1)] → f_X7_works_l2 n m0 v1 x2 = some xr → W p l e (rmk 5 0 0 115) s m args below meth c H locs 0 0 (KQV G below args s A (wM G ad xr) 0 0) (F0 m 2 ls []) := by
    intro m0
    induction m0 with
    | zero => intro v1 x2 H locs ls hw hl hf; cases hf
    | succ mL3 ih3 =>
      intro v1 x2 H locs ls hw hl hf
      unfold f_X7_works_l2 at hf
      refine lv_iload_n hx hb dX7_works_2 rfl (lv_at hl 1 rfl) ?_
      refine lv_aload_n hx hb dX7_works_3 rfl (lv_at hl 0 rfl) ?_
      refine M_g_0_6 F ws_in hw fl_X7_140 dX7_works_4 ?_
      refine lv_icmp_ge (tgt := 29) hx hb dX7_works_7 rfl (fun c4 => ?_) (fun c4 => ?_)
      · have hf := q_t c4 hf
        obtain rfl := q_s hf
        exact k_vret F hr hlk hw (Nat.le_of_ble_eq_true rfl) (Nat.le_of_ble_eq_true rfl) dX7_works_29
      · have hf := q_f c4 hf
        refine lv_aload_n hx hb dX7_works_10 rfl (lv_at hl 0 rfl) ?_
        refine lv_iload_n hx hb dX7_works_11 rfl (lv_at hl 1 rfl) ?_
        obtain ⟨r5, h6, hf⟩ := qbd_e hf
        refine k_callVi' (rest := []) (As := [.int v1]) F ws_in (t_X7_isIn h6) cv_X7_isIn ml_X7_165 hw 0 rfl rfl rfl hl.1 rfl (Nat.le_of_ble_eq_true rfl) ⟨Nat.le_of_ble_eq_true rfl, Nat.le_of_ble_eq_true rfl⟩ ⟨Nat.le_of_ble_eq_true rfl, Nat.le_of_ble_eq_true rfl⟩ dX7_works_12 (fun H locs hw => ?_)
        obtain ⟨x7, hq13, hf⟩ := qbd_e hf
        have J8 : ∀ (H : Heap) (locs : List Loc) (ls : Array Slot), Wd G (wM G ad x7) A s H locs → lv_has ls 2 [(0, .ref (ad 0)), (1, .int v1)] → W p l e (rmk 5 0 0 115) s m args below meth c H locs 0 0 (KQV G below args s A (wM G ad xr) 0 0) (F0 m 23 ls []) := by
          intro H locs ls hw hl
          obtain ⟨v9, ev9⟩ : ∃ y : Int32, y = v1 + (1 : Int32) := ⟨_, rfl⟩
          refine lv_iinc (v := v9) (lv' := [(1, .int v9), (0, .ref (ad 0))]) hx hb dX7_works_23 hl (k := 1) rfl (by rw [ev9]; rfl) (Nat.le_of_ble_eq_true rfl) rfl (fun ls hl => ?_)
          have hf := qnm_k ev9 hf
          refine lv_goto (tgt := 2) hx hb dX7_works_26 rfl ?_
          exact ih3 v9 x7 _ _ _ hw (lv_sub hl [1, 0] rfl) hf
        have hf := hq13
        refine lv_if_eq (tgt := 23) hx hb dX7_works_15 rfl (fun c10 => ?_) (fun c10 => ?_)
        · have hf := q_t c10 hf
          obtain rfl := q_s hf
          exact J8 _ _ _ hw (lv_sub hl [0, 1] rfl)
        · have hf := q_f c10 hf
          refine lv_aload_n hx hb dX7_works_18 rfl (lv_at hl 0 rfl) ?_
          refine lv_iload_n hx hb dX7_works_19 rfl (lv_at hl 1 rfl) ?_
          obtain ⟨x11, h12, hf⟩ := qbd_e hf
          refine k_callVv' (rest := []) (As := [.int v1]) F ws_in (t_X7_worksTerm h12) cv_X7_worksTerm ml_X7_168 hw 0 rfl rfl rfl hl.1 rfl (Nat.le_of_ble_eq_true rfl) ⟨Nat.le_of_ble_eq_true rfl, Nat.le_of_ble_eq_true rfl⟩ ⟨Nat.le_of_ble_eq_true rfl, Nat.le_of_ble_eq_true rfl⟩ dX7_works_20 (fun H locs hw => ?_)
          obtain rfl := q_s hf
          exact J8 _ _ _ hw (lv_sub hl [0, 1] rfl)
  exact L3 n (0 : Int32) x _ _ _ hw (lv_sub hl [1, 0] rfl) hf
def f_X7_isAny_l4 (x : SX) (n : Nat) : Nat → Int32 → Int32 → Option (Int32)
  | 0, _, _ => none
  | m + 1, v1, v2 => (if (x.1 0 6) ≤ v2 then (qgd (qz v1) (some v1)) else (qbd (if v1 = 0 then (qbd (f_X7_isIn n x v2) fun r10 => (if r10 = 0 then some (0 : Int32) else some (1 : Int32))) else some (1 : Int32)) fun v6 => (qnm (v2 + (1 : Int32)) fun v8 => (f_X7_isAny_l4 x n m) v6 v8)))
def f_X7_isAny (n : Nat) (x : SX) : Option (Int32) := f_X7_isAny_l4 x n n (0 : Int32) (0 : Int32)
set_option maxHeartbeats 4000000 in
set_option maxRecDepth 100000 in
theorem t_X7_isAny {G : gG} {l : Launch} {ad : Nat → Nat} {n : Nat} {x : SX} {rv : Int32} (hf : f_X7_isAny n x = some rv) : MetI G l yX7_isAny cX7_isAny 3 (some .boolean) 1 0 0 21 [.ref (ad 0)] (wM G ad x) (wM G ad x) rv := by
  refine k_ofI (by decide) (Nat.le_of_ble_eq_true rfl) ?_
  intro p e s m args below meth c ls A F hr hlk hl hw
  have hx := F.1
  have hb := F.2.1
  have hl : lv_has ls 3 [(0, .ref (ad 0))] := hl
  unfold f_X7_isAny at hf
  refine lv_iconst (v := 0) hx hb dX7_isAny_0 (by decide) ?_
  refine lv_istore_n (lv' := [(1, .int (0 : Int32)), (0, .ref (ad 0))]) hx hb dX7_isAny_1 rfl hl (Nat.le_of_ble_eq_true rfl) rfl (fun ls hl => ?_)
  refine lv_iconst (v := 0) hx hb dX7_isAny_2 (by decide) ?_
  refine lv_istore_n (lv' := [(2, .int (0 : Int32)), (1, .int (0 : Int32)), (0, .ref (ad 0))]) hx hb dX7_isAny_3 rfl hl (Nat.le_of_ble_eq_true rfl) rfl (fun ls hl => ?_)
  have L3 : ∀ (m0 : Nat) (v1 : Int32) (v2 : Int32) (H : Heap) (locs : List Loc) (ls : Array Slot), Wd G (wM G ad x) A s H locs → lv_has ls 3 [(0, .ref (ad 0)), (1, .int v1), (2, .int v2)] → f_X7_isAny_l4 x n m0 v1 v2 = some rv → W p l e (rmk 1 0 0 21) s m args below meth c H locs 0 0 (KQI G below args s A (wM G ad x) rv 0 0) (F0 m 4 ls []) := by
    intro m0
    induction m0 with
    | zero => intro v1 v2 H locs ls hw hl hf; cases hf
    | succ mL3 ih3 =>
      intro v1 v2 H locs ls hw hl hf
      unfold f_X7_isAny_l4 at hf
      refine lv_iload_n hx hb dX7_isAny_4 rfl (lv_at hl 2 rfl) ?_
      refine lv_aload_n hx hb dX7_isAny_5 rfl (lv_at hl 0 rfl) ?_
      refine M_g_0_6 F ws_in hw fl_X7_140 dX7_isAny_6 ?_
      refine lv_icmp_ge (tgt := 36) hx hb dX7_isAny_9 rfl (fun c4 => ?_) (fun c4 => ?_)
      · have hf := q_t c4 hf
        refine lv_iload_n hx hb dX7_isAny_36 rfl (lv_at hl 1 rfl) ?_
        obtain ⟨g5, hf⟩ := qgd_e hf
        obtain rfl := q_s hf
        exact k_zret F hr hlk hw (qz_n g5) (Nat.le_of_ble_eq_true rfl) (Nat.le_of_ble_eq_true rfl) dX7_isAny_37
      · have hf := q_f c4 hf
        refine lv_iload_n hx hb dX7_isAny_12 rfl (lv_at hl 1 rfl) ?_
        obtain ⟨v6, hq13, hf⟩ := qbd_e hf
        have J7 : ∀ (H : Heap) (locs : List Loc) (ls : Array Slot), Wd G (wM G ad x) A s H locs → lv_has ls 3 [(0, .ref (ad 0)), (2, .int v2)] → W p l e (rmk 1 0 0 21) s m args below meth c H locs 0 0 (KQI G below args s A (wM G ad x) rv 0 0) (F0 m 29 ls [.int v6]) := by
          intro H locs ls hw hl
          refine lv_istore_n (lv' := [(1, .int v6), (0, .ref (ad 0)), (2, .int v2)]) hx hb dX7_isAny_29 rfl hl (Nat.le_of_ble_eq_true rfl) rfl (fun ls hl => ?_)
          obtain ⟨v8, ev8⟩ : ∃ y : Int32, y = v2 + (1 : Int32) := ⟨_, rfl⟩
          refine lv_iinc (v := v8) (lv' := [(2, .int v8), (1, .int v6), (0, .ref (ad 0))]) hx hb dX7_isAny_30 hl (k := 2) rfl (by rw [ev8]; rfl) (Nat.le_of_ble_eq_true rfl) rfl (fun ls hl => ?_)
          have hf := qnm_k ev8 hf
          refine lv_goto (tgt := 4) hx hb dX7_isAny_33 rfl ?_
          exact ih3 v6 v8 _ _ _ hw (lv_sub hl [2, 1, 0] rfl) hf
        have hf := hq13
        refine lv_if_ne (tgt := 24) hx hb dX7_isAny_13 rfl (fun c9 => ?_) (fun c9 => ?_)
        · have hf := q_f c9 hf
          refine lv_iconst (v := 1) hx hb dX7_isAny_24 (by decide) ?_
          refine lv_goto (tgt := 29) hx hb dX7_isAny_25 rfl ?_
          obtain rfl := q_s hf
          exact J7 _ _ _ hw (lv_sub hl [0, 2] rfl)
        · have hf := q_t c9 hf
          refine lv_aload_n hx hb dX7_isAny_16 rfl (lv_at hl 0 rfl) ?_
          refine lv_iload_n hx hb dX7_isAny_17 rfl (lv_at hl 2 rfl) ?_
          obtain ⟨r10, h11, hf⟩ := qbd_e hf
          refine k_callVi' (rest := []) (As := [.int v2]) F ws_in (t_X7_isIn h11) cv_X7_isIn ml_X7_165 hw 0 rfl rfl rfl hl.1 rfl (Nat.le_of_ble_eq_true rfl) ⟨Nat.le_of_ble_eq_true rfl, Nat.le_of_ble_eq_true rfl⟩ ⟨Nat.le_of_ble_eq_true rfl, Nat.le_of_ble_eq_true rfl⟩ dX7_isAny_18 (fun H locs hw => ?_)
          refine lv_if_eq (tgt := 28) hx hb dX7_isAny_21 rfl (fun c12 => ?_) (fun c12 => ?_)
          · have hf := q_t c12 hf
            refine lv_iconst (v := 0) hx hb dX7_isAny_28 (by decide) ?_
            obtain rfl := q_s hf
            exact J7 _ _ _ hw (lv_sub hl [0, 2] rfl)
          · have hf := q_f c12 hf
            refine lv_iconst (v := 1) hx hb dX7_isAny_24 (by decide) ?_
            refine lv_goto (tgt := 29) hx hb dX7_isAny_25 rfl ?_
            obtain rfl := q_s hf
            exact J7 _ _ _ hw (lv_sub hl [0, 2] rfl)
  exact L3 n (0 : Int32) (0 : Int32) _ _ _ hw (lv_sub hl [2, 1, 0] rfl) hf
def f_X7_endOfAll_l4 (x : SX) (n : Nat) : Nat → Int32 → Int32 → Option (Int32)
  | 0, _, _ => none
  | m + 1, v1, v2 => (if (x.1 0 6) ≤ v2 then some v1 else (qbd (f_X7_isIn n x v2) fun r5 => (qbd (if r5 = 0 then some (0 : Int32) else (qgd (qin v2 10) (some (x.1 49 v2.toNatClampNeg)))) fun v7 => (qbd (if v7 ≤ v1 then some v1 else some v7) fun v9 => (qnm (v2 + (1 : Int32)) fun v11 => (f_X7_endOfAll_l4 x n m) v9 v11)))))
def f_X7_endOfAll (n : Nat) (x : SX) : Option (Int32) := f_X7_endOfAll_l4 x n n (0 : Int32) (0 : Int32)
set_option maxHeartbeats 4000000 in
set_option maxRecDepth 100000 in
theorem t_X7_endOfAll {G : gG} {l : Launch} {ad : Nat → Nat} {n : Nat} {x : SX} {rv : Int32} (hf : f_X7_endOfAll n x = some rv) : MetI G l yX7_endOfAll cX7_endOfAll 4 (some .int) 1 0 0 21 [.ref (ad 0)] (wM G ad x) (wM G ad x) rv := by
  refine k_ofI (by decide) (Nat.le_of_ble_eq_true rfl) ?_
  intro p e s m args below meth c ls A F hr hlk hl hw
  have hx := F.1
  have hb := F.2.1
  have hl : lv_has ls 4 [(0, .ref (ad 0))] := hl
  unfold f_X7_endOfAll at hf
  refine lv_iconst (v := 0) hx hb dX7_endOfAll_0 (by decide) ?_
  refine lv_istore_n (lv' := [(1, .int (0 : Int32)), (0, .ref (ad 0))]) hx hb dX7_endOfAll_1 rfl hl (Nat.le_of_ble_eq_true rfl) rfl (fun ls hl => ?_)
  refine lv_iconst (v := 0) hx hb dX7_endOfAll_2 (by decide) ?_
  refine lv_istore_n (lv' := [(2, .int (0 : Int32)), (1, .int (0 : Int32)), (0, .ref (ad 0))]) hx hb dX7_endOfAll_3 rfl hl (Nat.le_of_ble_eq_true rfl) rfl (fun ls hl => ?_)
  have L3 : ∀ (m0 : Nat) (v1 : Int32) (v2 : Int32) (H : Heap) (locs : List Loc) (ls : Array Slot), Wd G (wM G ad x) A s H locs → lv_has ls 4 [(0, .ref (ad 0)), (1, .int v1), (2, .int v2)] → f_X7_endOfAll_l4 x n m0 v1 v2 = some rv → W p l e (rmk 1 0 0 21) s m args below meth c H locs 0 0 (KQI G below args s A (wM G ad x) rv 0 0) (F0 m 4 ls []) := by
    intro m0
    induction m0 with
    | zero => intro v1 v2 H locs ls hw hl hf; cases hf
    | succ mL3 ih3 =>
      intro v1 v2 H locs ls hw hl hf
      unfold f_X7_endOfAll_l4 at hf
      refine lv_iload_n hx hb dX7_endOfAll_4 rfl (lv_at hl 2 rfl) ?_
      refine lv_aload_n hx hb dX7_endOfAll_5 rfl (lv_at hl 0 rfl) ?_
      refine M_g_0_6 F ws_in hw fl_X7_140 dX7_endOfAll_6 ?_
      refine lv_icmp_ge (tgt := 48) hx hb dX7_endOfAll_9 rfl (fun c4 => ?_) (fun c4 => ?_)
      · have hf := q_t c4 hf
        refine lv_iload_n hx hb dX7_endOfAll_48 rfl (lv_at hl 1 rfl) ?_
        obtain rfl := q_s hf
        exact k_iret F hr hlk hw (Nat.le_of_ble_eq_true rfl) (Nat.le_of_ble_eq_true rfl) dX7_endOfAll_49
      · have hf := q_f c4 hf
        refine lv_aload_n hx hb dX7_endOfAll_12 rfl (lv_at hl 0 rfl) ?_
        refine lv_iload_n hx hb dX7_endOfAll_13 rfl (lv_at hl 2 rfl) ?_
        obtain ⟨r5, h6, hf⟩ := qbd_e hf
        refine k_callVi' (rest := []) (As := [.int v2]) F ws_in (t_X7_isIn h6) cv_X7_isIn ml_X7_165 hw 0 rfl rfl rfl hl.1 rfl (Nat.le_of_ble_eq_true rfl) ⟨Nat.le_of_ble_eq_true rfl, Nat.le_of_ble_eq_true rfl⟩ ⟨Nat.le_of_ble_eq_true rfl, Nat.le_of_ble_eq_true rfl⟩ dX7_endOfAll_14 (fun H locs hw => ?_)
        obtain ⟨v7, hq16, hf⟩ := qbd_e hf
        have J8 : ∀ (H : Heap) (locs : List Loc) (ls : Array Slot), Wd G (wM G ad x) A s H locs → lv_has ls 4 [(0, .ref (ad 0)), (1, .int v1), (2, .int v2)] → W p l e (rmk 1 0 0 21) s m args below meth c H locs 0 0 (KQI G below args s A (wM G ad x) rv 0 0) (F0 m 30 ls [.int v7]) := by
          intro H locs ls hw hl
          refine lv_istore_n (lv' := [(3, .int v7), (0, .ref (ad 0)), (1, .int v1), (2, .int v2)]) hx hb dX7_endOfAll_30 rfl hl (Nat.le_of_ble_eq_true rfl) rfl (fun ls hl => ?_)
          refine lv_iload_n hx hb dX7_endOfAll_31 rfl (lv_at hl 0 rfl) ?_
          refine lv_iload_n hx hb dX7_endOfAll_32 rfl (lv_at hl 2 rfl) ?_
          obtain ⟨v9, hq13, hf⟩ := qbd_e hf
          have J10 : ∀ (H : Heap) (locs : List Loc) (ls : Array Slot), Wd G (wM G ad x) A s H locs → lv_has ls 4 [(0, .ref (ad 0)), (2, .int v2)] → W p l e (rmk 1 0 0 21) s m args below meth c H locs 0 0 (KQI G below args s A (wM G ad x) rv 0 0) (F0 m 41 ls [.int v9]) := by
            intro H locs ls hw hl
            refine lv_istore_n (lv' := [(1, .int v9), (0, .ref (ad 0)), (2, .int v2)]) hx hb dX7_endOfAll_41 rfl hl (Nat.le_of_ble_eq_true rfl) rfl (fun ls hl => ?_)
            obtain ⟨v11, ev11⟩ : ∃ y : Int32, y = v2 + (1 : Int32) := ⟨_, rfl⟩
            refine lv_iinc (v := v11) (lv' := [(2, .int v11), (1, .int v9), (0, .ref (ad 0))]) hx hb dX7_endOfAll_42 hl (k := 2) rfl (by rw [ev11]; rfl) (Nat.le_of_ble_eq_true rfl) rfl (fun ls hl => ?_)
            have hf := qnm_k ev11 hf
            refine lv_goto (tgt := 4) hx hb dX7_endOfAll_45 rfl ?_
            exact ih3 v9 v11 _ _ _ hw (lv_sub hl [2, 1, 0] rfl) hf
          have hf := hq13
          refine lv_icmp_le (tgt := 40) hx hb dX7_endOfAll_33 rfl (fun c12 => ?_) (fun c12 => ?_)
          · have hf := q_t c12 hf
            refine lv_iload_n hx hb dX7_endOfAll_40 rfl (lv_at hl 2 rfl) ?_
            obtain rfl := q_s hf
            exact J10 _ _ _ hw (lv_sub hl [1, 3] rfl)
          · have hf := q_f c12 hf
            refine lv_iload_n hx hb dX7_endOfAll_36 rfl (lv_at hl 0 rfl) ?_
            refine lv_goto (tgt := 41) hx hb dX7_endOfAll_37 rfl ?_
            obtain rfl := q_s hf
            exact J10 _ _ _ hw (lv_sub hl [1, 3] rfl)
        have hf := hq16
        refine lv_if_eq (tgt := 29) hx hb dX7_endOfAll_17 rfl (fun c14 => ?_) (fun c14 => ?_)
        · have hf := q_t c14 hf
          refine lv_iconst (v := 0) hx hb dX7_endOfAll_29 (by decide) ?_
          obtain rfl := q_s hf
          exact J8 _ _ _ hw (lv_sub hl [0, 1, 2] rfl)
        · have hf := q_f c14 hf
          refine lv_aload_n hx hb dX7_endOfAll_20 rfl (lv_at hl 0 rfl) ?_
          refine M_g_0_39 F ws_in hw fl_X7_84 dX7_endOfAll_21 ?_
          refine lv_iload_n hx hb dX7_endOfAll_24 rfl (lv_at hl 2 rfl) ?_
          obtain ⟨g15, hf⟩ := qgd_e hf
          refine M_l_49 F hw g15 dX7_endOfAll_25 ?_
          refine lv_goto (tgt := 30) hx hb dX7_endOfAll_26 rfl ?_
          obtain rfl := q_s hf
          exact J8 _ _ _ hw (lv_sub hl [0, 1, 2] rfl)
  exact L3 n (0 : Int32) (0 : Int32) _ _ _ hw (lv_sub hl [2, 1, 0] rfl) hf
def f_X7_releaseOfAll_l4 (x : SX) (n : Nat) : Nat → Int32 → Int32 → Option (Int32)
  | 0, _, _ => none
  | m + 1, v1, v2 => (if (x.1 0 6) ≤ v2 then some v1 else (qbd (f_X7_isIn n x v2) fun r5 => (qbd (if r5 = 0 then some (0 : Int32) else (qgd (qin v2 10) (some (x.1 48 v2.toNatClampNeg)))) fun v7 => (qbd (if v7 ≤ v1 then some v1 else some v7) fun v9 => (qnm (v2 + (1 : Int32)) fun v11 => (f_X7_releaseOfAll_l4 x n m) v9 v11)))))
def f_X7_releaseOfAll (n : Nat) (x : SX) : Option (Int32) := f_X7_releaseOfAll_l4 x n n (0 : Int32) (0 : Int32)
set_option maxHeartbeats 4000000 in
set_option maxRecDepth 100000 in
theorem t_X7_releaseOfAll {G : gG} {l : Launch} {ad : Nat → Nat} {n : Nat} {x : SX} {rv : Int32} (hf : f_X7_releaseOfAll n x = some rv) : MetI G l yX7_releaseOfAll cX7_releaseOfAll 4 (some .int) 1 0 0 21 [.ref (ad 0)] (wM G ad x) (wM G ad x) rv := by
  refine k_ofI (by decide) (Nat.le_of_ble_eq_true rfl) ?_
  intro p e s m args below meth c ls A F hr hlk hl hw
  have hx := F.1
  have hb := F.2.1
  have hl : lv_has ls 4 [(0, .ref (ad 0))] := hl
  unfold f_X7_releaseOfAll at hf
  refine lv_iconst (v := 0) hx hb dX7_releaseOfAll_0 (by decide) ?_
  refine lv_istore_n (lv' := [(1, .int (0 : Int32)), (0, .ref (ad 0))]) hx hb dX7_releaseOfAll_1 rfl hl (Nat.le_of_ble_eq_true rfl) rfl (fun ls hl => ?_)
  refine lv_iconst (v := 0) hx hb dX7_releaseOfAll_2 (by decide) ?_
  refine lv_istore_n (lv' := [(2, .int (0 : Int32)), (1, .int (0 : Int32)), (0, .ref (ad 0))]) hx hb dX7_releaseOfAll_3 rfl hl (Nat.le_of_ble_eq_true rfl) rfl (fun ls hl => ?_)
  have L3 : ∀ (m0 : Nat) (v1 : Int32) (v2 : Int32) (H : Heap) (locs : List Loc) (ls : Array Slot), Wd G (wM G ad x) A s H locs → lv_has ls 4 [(0, .ref (ad 0)), (1, .int v1), (2, .int v2)] → f_X7_releaseOfAll_l4 x n m0 v1 v2 = some rv → W p l e (rmk 1 0 0 21) s m args below meth c H locs 0 0 (KQI G below args s A (wM G ad x) rv 0 0) (F0 m 4 ls []) := by
    intro m0
    induction m0 with
    | zero => intro v1 v2 H locs ls hw hl hf; cases hf
    | succ mL3 ih3 =>
      intro v1 v2 H locs ls hw hl hf
      unfold f_X7_releaseOfAll_l4 at hf
      refine lv_iload_n hx hb dX7_releaseOfAll_4 rfl (lv_at hl 2 rfl) ?_
      refine lv_aload_n hx hb dX7_releaseOfAll_5 rfl (lv_at hl 0 rfl) ?_
      refine M_g_0_6 F ws_in hw fl_X7_140 dX7_releaseOfAll_6 ?_
      refine lv_icmp_ge (tgt := 48) hx hb dX7_releaseOfAll_9 rfl (fun c4 => ?_) (fun c4 => ?_)
      · have hf := q_t c4 hf
        refine lv_iload_n hx hb dX7_releaseOfAll_48 rfl (lv_at hl 1 rfl) ?_
        obtain rfl := q_s hf
        exact k_iret F hr hlk hw (Nat.le_of_ble_eq_true rfl) (Nat.le_of_ble_eq_true rfl) dX7_releaseOfAll_49
      · have hf := q_f c4 hf
        refine lv_aload_n hx hb dX7_releaseOfAll_12 rfl (lv_at hl 0 rfl) ?_
        refine lv_iload_n hx hb dX7_releaseOfAll_13 rfl (lv_at hl 2 rfl) ?_
        obtain ⟨r5, h6, hf⟩ := qbd_e hf
        refine k_callVi' (rest := []) (As := [.int v2]) F ws_in (t_X7_isIn h6) cv_X7_isIn ml_X7_165 hw 0 rfl rfl rfl hl.1 rfl (Nat.le_of_ble_eq_true rfl) ⟨Nat.le_of_ble_eq_true rfl, Nat.le_of_ble_eq_true rfl⟩ ⟨Nat.le_of_ble_eq_true rfl, Nat.le_of_ble_eq_true rfl⟩ dX7_releaseOfAll_14 (fun H locs hw => ?_)
        obtain ⟨v7, hq16, hf⟩ := qbd_e hf
        have J8 : ∀ (H : Heap) (locs : List Loc) (ls : Array Slot), Wd G (wM G ad x) A s H locs → lv_has ls 4 [(0, .ref (ad 0)), (1, .int v1), (2, .int v2)] → W p l e (rmk 1 0 0 21) s m args below meth c H locs 0 0 (KQI G below args s A (wM G ad x) rv 0 0) (F0 m 30 ls [.int v7]) := by
          intro H locs ls hw hl
          refine lv_istore_n (lv' := [(3, .int v7), (0, .ref (ad 0)), (1, .int v1), (2, .int v2)]) hx hb dX7_releaseOfAll_30 rfl hl (Nat.le_of_ble_eq_true rfl) rfl (fun ls hl => ?_)
          refine lv_iload_n hx hb dX7_releaseOfAll_31 rfl (lv_at hl 0 rfl) ?_
          refine lv_iload_n hx hb dX7_releaseOfAll_32 rfl (lv_at hl 2 rfl) ?_
          obtain ⟨v9, hq13, hf⟩ := qbd_e hf
          have J10 : ∀ (H : Heap) (locs : List Loc) (ls : Array Slot), Wd G (wM G ad x) A s H locs → lv_has ls 4 [(0, .ref (ad 0)), (2, .int v2)] → W p l e (rmk 1 0 0 21) s m args below meth c H locs 0 0 (KQI G below args s A (wM G ad x) rv 0 0) (F0 m 41 ls [.int v9]) := by
            intro H locs ls hw hl
            refine lv_istore_n (lv' := [(1, .int v9), (0, .ref (ad 0)), (2, .int v2)]) hx hb dX7_releaseOfAll_41 rfl hl (Nat.le_of_ble_eq_true rfl) rfl (fun ls hl => ?_)
            obtain ⟨v11, ev11⟩ : ∃ y : Int32, y = v2 + (1 : Int32) := ⟨_, rfl⟩
            refine lv_iinc (v := v11) (lv' := [(2, .int v11), (1, .int v9), (0, .ref (ad 0))]) hx hb dX7_releaseOfAll_42 hl (k := 2) rfl (by rw [ev11]; rfl) (Nat.le_of_ble_eq_true rfl) rfl (fun ls hl => ?_)
            have hf := qnm_k ev11 hf
            refine lv_goto (tgt := 4) hx hb dX7_releaseOfAll_45 rfl ?_
            exact ih3 v9 v11 _ _ _ hw (lv_sub hl [2, 1, 0] rfl) hf
          have hf := hq13
          refine lv_icmp_le (tgt := 40) hx hb dX7_releaseOfAll_33 rfl (fun c12 => ?_) (fun c12 => ?_)
          · have hf := q_t c12 hf
            refine lv_iload_n hx hb dX7_releaseOfAll_40 rfl (lv_at hl 2 rfl) ?_
            obtain rfl := q_s hf
            exact J10 _ _ _ hw (lv_sub hl [1, 3] rfl)
          · have hf := q_f c12 hf
            refine lv_iload_n hx hb dX7_releaseOfAll_36 rfl (lv_at hl 0 rfl) ?_
            refine lv_goto (tgt := 41) hx hb dX7_releaseOfAll_37 rfl ?_
            obtain rfl := q_s hf
            exact J10 _ _ _ hw (lv_sub hl [1, 3] rfl)
        have hf := hq16
        refine lv_if_eq (tgt := 29) hx hb dX7_releaseOfAll_17 rfl (fun c14 => ?_) (fun c14 => ?_)
        · have hf := q_t c14 hf
          refine lv_iconst (v := 0) hx hb dX7_releaseOfAll_29 (by decide) ?_
          obtain rfl := q_s hf
          exact J8 _ _ _ hw (lv_sub hl [0, 1, 2] rfl)
        · have hf := q_f c14 hf
          refine lv_aload_n hx hb dX7_releaseOfAll_20 rfl (lv_at hl 0 rfl) ?_
          refine M_g_0_38 F ws_in hw fl_X7_81 dX7_releaseOfAll_21 ?_
          refine lv_iload_n hx hb dX7_releaseOfAll_24 rfl (lv_at hl 2 rfl) ?_
          obtain ⟨g15, hf⟩ := qgd_e hf
          refine M_l_48 F hw g15 dX7_releaseOfAll_25 ?_
          refine lv_goto (tgt := 30) hx hb dX7_releaseOfAll_26 rfl ?_
          obtain rfl := q_s hf
          exact J8 _ _ _ hw (lv_sub hl [0, 1, 2] rfl)
  exact L3 n (0 : Int32) (0 : Int32) _ _ _ hw (lv_sub hl [2, 1, 0] rfl) hf
def f_X7_endOfRecall_e84 (x : SX) (v8 : Int32) : Option (Int32) := (qbd (if (x.1 0 25) ≤ v8 then some (x.1 0 25) else some v8) fun v9 => some v9)
def f_X7_endOfRecall_l42 (x : SX) : Nat → Int32 → Int32 → Option (Int32)
  | 0, _, _ => none
  | m + 1, v14, v15 => (if (x.1 0 18) ≤ v15 then f_X7_endOfRecall_e84 x v14 else (qgd (qin v15 8) ((qbd (if (x.1 31 v15.toNatClampNeg) = ((x.1 0 22) - (1 : Int32)) then some (x.1 29 v15.toNatClampNeg) else some (0 : Int32)) fun v19 => (qnm (v14 + v19) fun v21 => (qnm (v15 + (1 : Int32)) fun v22 => (f_X7_endOfRecall_l42 x m) v21 v22))))))
def f_X7_endOfRecall (n : Nat) (x : SX) : Option (Int32) := (if (x.1 0 22) = 0 then (qbd (if (x.1 0 22) = 0 then some (0 : Int32) else some (x.1 0 25)) fun v2 => some v2) else (if (x.1 0 24) = 0 then (qbd (if (x.1 0 22) = 0 then some (0 : Int32) else some (x.1 0 25)) fun v25 => some v25) else (qnm ((x.1 0 23) + (x.1 0 24)) fun v7 => f_X7_endOfRecall_l42 x n v7 (0 : Int32))))
set_option maxHeartbeats 4000000 in
set_option maxRecDepth 100000 in
theorem t_X7_endOfRecall {G : gG} {l : Launch} {ad : Nat → Nat} {n : Nat} {x : SX} {rv : Int32} (hf : f_X7_endOfRecall n x = some rv) : MetI G l yX7_endOfRecall cX7_endOfRecall 3 (some .int) 0 0 0 0 [.ref (ad 0)] (wM G ad x) (wM G ad x) rv := by
  refine k_ofI (by decide) (Nat.le_of_ble_eq_true rfl) ?_
  intro p e s m args below meth c ls A F hr hlk hl hw
  have hx := F.1
  have hb := F.2.1
  have hl : lv_has ls 3 [(0, .ref (ad 0))] := hl
  unfold f_X7_endOfRecall at hf
  refine lv_aload_n hx hb dX7_endOfRecall_0 rfl (lv_at hl 0 rfl) ?_
  refine M_g_0_22 F ws_in hw fl_X7_171 dX7_endOfRecall_1 ?_
  refine lv_if_eq (tgt := 14) hx hb dX7_endOfRecall_4 rfl (fun c1 => ?_) (fun c1 => ?_)
  · have hf := q_t c1 hf
    refine lv_aload_n hx hb dX7_endOfRecall_14 rfl (lv_at hl 0 rfl) ?_
    refine M_g_0_22 F ws_in hw fl_X7_171 dX7_endOfRecall_15 ?_
    obtain ⟨v2, hq5, hf⟩ := qbd_e hf
    have J3 : ∀ (H : Heap) (locs : List Loc) (ls : Array Slot), Wd G (wM G ad x) A s H locs → lv_has ls 3 [] → W p l e (rmk 0 0 0 0) s m args below meth c H locs 0 0 (KQI G below args s A (wM G ad x) rv 0 0) (F0 m 29 ls [.int v2]) := by
      intro H locs ls hw hl
      obtain rfl := q_s hf
      exact k_iret F hr hlk hw (Nat.le_of_ble_eq_true rfl) (Nat.le_of_ble_eq_true rfl) dX7_endOfRecall_29
    have hf := hq5
    refine lv_if_ne (tgt := 25) hx hb dX7_endOfRecall_18 rfl (fun c4 => ?_) (fun c4 => ?_)
    · have hf := q_f c4 hf
      refine lv_aload_n hx hb dX7_endOfRecall_25 rfl (lv_at hl 0 rfl) ?_
      refine M_g_0_25 F ws_in hw fl_X7_177 dX7_endOfRecall_26 ?_
      obtain rfl := q_s hf
      exact J3 _ _ _ hw (lv_sub hl [] rfl)
    · have hf := q_t c4 hf
      refine lv_iconst (v := 0) hx hb dX7_endOfRecall_21 (by decide) ?_
      refine lv_goto (tgt := 29) hx hb dX7_endOfRecall_22 rfl ?_
      obtain rfl := q_s hf
      exact J3 _ _ _ hw (lv_sub hl [] rfl)
  · have hf := q_f c1 hf
    refine lv_aload_n hx hb dX7_endOfRecall_7 rfl (lv_at hl 0 rfl) ?_
    refine M_g_0_24 F ws_in hw fl_X7_174 dX7_endOfRecall_8 ?_
    refine lv_if_ne (tgt := 30) hx hb dX7_endOfRecall_11 rfl (fun c6 => ?_) (fun c6 => ?_)
    · have hf := q_f c6 hf
      refine lv_aload_n hx hb dX7_endOfRecall_30 rfl (lv_at hl 0 rfl) ?_
      refine M_g_0_23 F ws_in hw fl_X7_180 dX7_endOfRecall_31 ?_
      refine lv_aload_n hx hb dX7_endOfRecall_34 rfl (lv_at hl 0 rfl) ?_
      refine M_g_0_24 F ws_in hw fl_X7_174 dX7_endOfRecall_35 ?_
      refine lv_iadd hx hb dX7_endOfRecall_38 ?_
      refine lv_topi (fun v7 ev7 => ?_)
      have hf := qnm_k ev7 hf
      refine lv_istore_n (lv' := [(1, .int v7), (0, .ref (ad 0))]) hx hb dX7_endOfRecall_39 rfl hl (Nat.le_of_ble_eq_true rfl) rfl (fun ls hl => ?_)
      refine lv_iconst (v := 0) hx hb dX7_endOfRecall_40 (by decide) ?_
      refine lv_istore_n (lv' := [(2, .int (0 : Int32)), (1, .int v7), (0, .ref (ad 0))]) hx hb dX7_endOfRecall_41 rfl hl (Nat.le_of_ble_eq_true rfl) rfl (fun ls hl => ?_)
      have E13 : ∀ (v8 : Int32) (H : Heap) (locs : List Loc) (ls : Array Slot), Wd G (wM G ad x) A s H locs → lv_has ls 3 [(0, .ref (ad 0)), (1, .int v8)] → f_X7_endOfRecall_e84 x v8 = some rv → W p l e (rmk 0 0 0 0) s m args below meth c H locs 0 0 (KQI G below args s A (wM G ad x) rv 0 0) (F0 m 84 ls []) := by
        intro v8 H locs ls hw hl hf
        unfold f_X7_endOfRecall_e84 at hf
        refine lv_iload_n hx hb dX7_endOfRecall_84 rfl (lv_at hl 1 rfl) ?_
        refine lv_aload_n hx hb dX7_endOfRecall_85 rfl (lv_at hl 0 rfl) ?_
        refine M_g_0_25 F ws_in hw fl_X7_177 dX7_endOfRecall_86 ?_
        obtain ⟨v9, hq12, hf⟩ := qbd_e hf
        have J10 : ∀ (H : Heap) (locs : List Loc) (ls : Array Slot), Wd G (wM G ad x) A s H locs → lv_has ls 3 [] → W p l e (rmk 0 0 0 0) s m args below meth c H locs 0 0 (KQI G below args s A (wM G ad x) rv 0 0) (F0 m 100 ls [.int v9]) := by
          intro H locs ls hw hl
          obtain rfl := q_s hf
          exact k_iret F hr hlk hw (Nat.le_of_ble_eq_true rfl) (Nat.le_of_ble_eq_true rfl) dX7_endOfRecall_100
        have hf := hq12
        refine lv_icmp_ge (tgt := 96) hx hb dX7_endOfRecall_89 rfl (fun c11 => ?_) (fun c11 => ?_)
        · have hf := q_t c11 hf
          refine lv_aload_n hx hb dX7_endOfRecall_96 rfl (lv_at hl 0 rfl) ?_
          refine M_g_0_25 F ws_in hw fl_X7_177 dX7_endOfRecall_97 ?_
          obtain rfl := q_s hf
          exact J10 _ _ _ hw (lv_sub hl [] rfl)
        · have hf := q_f c11 hf
          refine lv_iload_n hx hb dX7_endOfRecall_92 rfl (lv_at hl 1 rfl) ?_
          refine lv_goto (tgt := 100) hx hb dX7_endOfRecall_93 rfl ?_
          obtain rfl := q_s hf
          exact J10 _ _ _ hw (lv_sub hl [] rfl)
      have L16 : ∀ (m0 : Nat) (v14 : Int32) (v15 : Int32) (H : Heap) (locs : List Loc) (ls : Array Slot), Wd G (wM G ad x) A s H locs → lv_has ls 3 [(0, .ref (ad 0)), (1, .int v14), (2, .int v15)] → f_X7_endOfRecall_l42 x m0 v14 v15 = some rv → W p l e (rmk 0 0 0 0) s m args below meth c H locs 0 0 (KQI G below args s A (wM G ad x) rv 0 0) (F0 m 42 ls []) := by
        intro m0
        induction m0 with
        | zero => intro v14 v15 H locs ls hw hl hf; cases hf
        | succ mL16 ih16 =>
          intro v14 v15 H locs ls hw hl hf
          unfold f_X7_endOfRecall_l42 at hf
          refine lv_iload_n hx hb dX7_endOfRecall_42 rfl (lv_at hl 2 rfl) ?_
          refine lv_aload_n hx hb dX7_endOfRecall_43 rfl (lv_at hl 0 rfl) ?_
          refine M_g_0_18 F ws_in hw fl_X7_153 dX7_endOfRecall_44 ?_
          refine lv_icmp_ge (tgt := 84) hx hb dX7_endOfRecall_47 rfl (fun c17 => ?_) (fun c17 => ?_)
          · have hf := q_t c17 hf
            exact E13 v14 _ _ _ hw (lv_sub hl [0, 1] rfl) hf
          · have hf := q_f c17 hf
            refine lv_iload_n hx hb dX7_endOfRecall_50 rfl (lv_at hl 1 rfl) ?_
            refine lv_aload_n hx hb dX7_endOfRecall_51 rfl (lv_at hl 0 rfl) ?_
            refine M_g_0_21 F ws_in hw fl_X7_54 dX7_endOfRecall_52 ?_
            refine lv_iload_n hx hb dX7_endOfRecall_55 rfl (lv_at hl 2 rfl) ?_
            obtain ⟨g18, hf⟩ := qgd_e hf
            refine M_l_31 F hw g18 dX7_endOfRecall_56 ?_
            refine lv_aload_n hx hb dX7_endOfRecall_57 rfl (lv_at hl 0 rfl) ?_
            refine M_g_0_22 F ws_in hw fl_X7_171 dX7_endOfRecall_58 ?_
            refine lv_iconst (v := 1) hx hb dX7_endOfRecall_61 (by decide) ?_
            refine lv_isub hx hb dX7_endOfRecall_62 ?_
            obtain ⟨v19, hq24, hf⟩ := qbd_e hf
            have J20 : ∀ (H : Heap) (locs : List Loc) (ls : Array Slot), Wd G (wM G ad x) A s H locs → lv_has ls 3 [(0, .ref (ad 0)), (2, .int v15)] → W p l e (rmk 0 0 0 0) s m args below meth c H locs 0 0 (KQI G below args s A (wM G ad x) rv 0 0) (F0 m 76 ls [.int v19, .int v14]) := by
              intro H locs ls hw hl
              refine lv_iadd hx hb dX7_endOfRecall_76 ?_
              refine lv_topi (fun v21 ev21 => ?_)
              have hf := qnm_k ev21 hf
              refine lv_istore_n (lv' := [(1, .int v21), (0, .ref (ad 0)), (2, .int v15)]) hx hb dX7_endOfRecall_77 rfl hl (Nat.le_of_ble_eq_true rfl) rfl (fun ls hl => ?_)
              obtain ⟨v22, ev22⟩ : ∃ y : Int32, y = v15 + (1 : Int32) := ⟨_, rfl⟩
              refine lv_iinc (v := v22) (lv' := [(2, .int v22), (1, .int v21), (0, .ref (ad 0))]) hx hb dX7_endOfRecall_78 hl (k := 2) rfl (by rw [ev22]; rfl) (Nat.le_of_ble_eq_true rfl) rfl (fun ls hl => ?_)
              have hf := qnm_k ev22 hf
              refine lv_goto (tgt := 42) hx hb dX7_endOfRecall_81 rfl ?_
              exact ih16 v21 v22 _ _ _ hw (lv_sub hl [2, 1, 0] rfl) hf
            have hf := hq24
            refine lv_icmp_ne (tgt := 75) hx hb dX7_endOfRecall_63 rfl (fun c23 => ?_) (fun c23 => ?_)
            · have hf := q_f c23 hf
              refine lv_iconst (v := 0) hx hb dX7_endOfRecall_75 (by decide) ?_
              obtain rfl := q_s hf
              exact J20 _ _ _ hw (lv_sub hl [0, 2] rfl)
            · have hf := q_t c23 hf
              refine lv_aload_n hx hb dX7_endOfRecall_66 rfl (lv_at hl 0 rfl) ?_
              refine M_g_0_19 F ws_in hw fl_X7_48 dX7_endOfRecall_67 ?_
              refine lv_iload_n hx hb dX7_endOfRecall_70 rfl (lv_at hl 2 rfl) ?_
              refine M_l_29 F hw g18 dX7_endOfRecall_71 ?_
              refine lv_goto (tgt := 76) hx hb dX7_endOfRecall_72 rfl ?_
              obtain rfl := q_s hf
              exact J20 _ _ _ hw (lv_sub hl [0, 2] rfl)
      exact L16 n v7 (0 : Int32) _ _ _ hw (lv_sub hl [2, 1, 0] rfl) hf
    · have hf := q_t c6 hf
      refine lv_aload_n hx hb dX7_endOfRecall_14 rfl (lv_at hl 0 rfl) ?_
      refine M_g_0_22 F ws_in hw fl_X7_171 dX7_endOfRecall_15 ?_
      obtain ⟨v25, hq28, hf⟩ := qbd_e hf
      have J26 : ∀ (H : Heap) (locs : List Loc) (ls : Array Slot), Wd G (wM G ad x) A s H locs → lv_has ls 3 [] → W p l e (rmk 0 0 0 0) s m args below meth c H locs 0 0 (KQI G below args s A (wM G ad x) rv 0 0) (F0 m 29 ls [.int v25]) := by
        intro H locs ls hw hl
        obtain rfl := q_s hf
        exact k_iret F hr hlk hw (Nat.le_of_ble_eq_true rfl) (Nat.le_of_ble_eq_true rfl) dX7_endOfRecall_29
      have hf := hq28
      refine lv_if_ne (tgt := 25) hx hb dX7_endOfRecall_18 rfl (fun c27 => ?_) (fun c27 => ?_)
      · have hf := q_f c27 hf
        refine lv_aload_n hx hb dX7_endOfRecall_25 rfl (lv_at hl 0 rfl) ?_
        refine M_g_0_25 F ws_in hw fl_X7_177 dX7_endOfRecall_26 ?_
        obtain rfl := q_s hf
        exact J26 _ _ _ hw (lv_sub hl [] rfl)
      · have hf := q_t c27 hf
        refine lv_iconst (v := 0) hx hb dX7_endOfRecall_21 (by decide) ?_
        refine lv_goto (tgt := 29) hx hb dX7_endOfRecall_22 rfl ?_
        obtain rfl := q_s hf
        exact J26 _ _ _ hw (lv_sub hl [] rfl)
def f_X7_isRecalled (n : Nat) (x : SX) : Option (Int32) := (qbd (f_X7_endOfRecall n x) fun r1 => (qbd (if r1 ≤ (x.1 0 1) then some (0 : Int32) else some (1 : Int32)) fun v3 => (qgd (qz v3) (some v3))))
set_option maxHeartbeats 4000000 in
set_option maxRecDepth 100000 in
theorem t_X7_isRecalled {G : gG} {l : Launch} {ad : Nat → Nat} {n : Nat} {x : SX} {rv : Int32} (hf : f_X7_isRecalled n x = some rv) : MetI G l yX7_isRecalled cX7_isRecalled 1 (some .boolean) 1 0 0 22 [.ref (ad 0)] (wM G ad x) (wM G ad x) rv := by
  refine k_ofI (by decide) (Nat.le_of_ble_eq_true rfl) ?_
  intro p e s m args below meth c ls A F hr hlk hl hw
  have hx := F.1
  have hb := F.2.1
  have hl : lv_has ls 1 [(0, .ref (ad 0))] := hl
  unfold f_X7_isRecalled at hf
  refine lv_aload_n hx hb dX7_isRecalled_0 rfl (lv_at hl 0 rfl) ?_
  obtain ⟨r1, h2, hf⟩ := qbd_e hf
  refine k_callVi' (rest := []) (As := []) F ws_in (t_X7_endOfRecall h2) cv_X7_endOfRecall ml_X7_183 hw 0 rfl rfl rfl hl.1 rfl (Nat.le_of_ble_eq_true rfl) ⟨Nat.le_of_ble_eq_true rfl, Nat.le_of_ble_eq_true rfl⟩ ⟨Nat.le_of_ble_eq_true rfl, Nat.le_of_ble_eq_true rfl⟩ dX7_isRecalled_1 (fun H locs hw => ?_)
  refine lv_aload_n hx hb dX7_isRecalled_4 rfl (lv_at hl 0 rfl) ?_
  refine M_g_0_1 F ws_in hw fl_X7_187 dX7_isRecalled_5 ?_
  obtain ⟨v3, hq7, hf⟩ := qbd_e hf
  have J4 : ∀ (H : Heap) (locs : List Loc) (ls : Array Slot), Wd G (wM G ad x) A s H locs → lv_has ls 1 [] → W p l e (rmk 1 0 0 22) s m args below meth c H locs 0 0 (KQI G below args s A (wM G ad x) rv 0 0) (F0 m 16 ls [.int v3]) := by
    intro H locs ls hw hl
    obtain ⟨g5, hf⟩ := qgd_e hf
    obtain rfl := q_s hf
    exact k_zret F hr hlk hw (qz_n g5) (Nat.le_of_ble_eq_true rfl) (Nat.le_of_ble_eq_true rfl) dX7_isRecalled_16
  have hf := hq7
  refine lv_icmp_le (tgt := 15) hx hb dX7_isRecalled_8 rfl (fun c6 => ?_) (fun c6 => ?_)
  · have hf := q_t c6 hf
    refine lv_iconst (v := 0) hx hb dX7_isRecalled_15 (by decide) ?_
    obtain rfl := q_s hf
    exact J4 _ _ _ hw (lv_sub hl [] rfl)
  · have hf := q_f c6 hf
    refine lv_iconst (v := 1) hx hb dX7_isRecalled_11 (by decide) ?_
    refine lv_goto (tgt := 16) hx hb dX7_isRecalled_12 rfl ?_
    obtain rfl := q_s hf
    exact J4 _ _ _ hw (lv_sub hl [] rfl)
def f_X7_statusNow (n : Nat) (x : SX) : Option (Int32) := (qbd (f_X7_releaseOfAll n x) fun r1 => (qbd (if (x.1 0 1) < r1 then some (2 : Int32) else (qbd (f_X7_isRecalled n x) fun r6 => (if r6 = 0 then (qbd (f_X7_endOfAll n x) fun r9 => (if r9 ≤ (x.1 0 1) then some (0 : Int32) else some (1 : Int32))) else some (2 : Int32)))) fun v3 => some v3))
set_option maxHeartbeats 4000000 in
set_option maxRecDepth 100000 in
theorem t_X7_statusNow {G : gG} {l : Launch} {ad : Nat → Nat} {n : Nat} {x : SX} {rv : Int32} (hf : f_X7_statusNow n x = some rv) : MetI G l yX7_statusNow cX7_statusNow 1 (some .int) 2 0 0 44 [.ref (ad 0)] (wM G ad x) (wM G ad x) rv := by
  refine k_ofI (by decide) (Nat.le_of_ble_eq_true rfl) ?_
  intro p e s m args below meth c ls A F hr hlk hl hw
  have hx := F.1
  have hb := F.2.1
  have hl : lv_has ls 1 [(0, .ref (ad 0))] := hl
  unfold f_X7_statusNow at hf
  refine lv_aload_n hx hb dX7_statusNow_0 rfl (lv_at hl 0 rfl) ?_
  obtain ⟨r1, h2, hf⟩ := qbd_e hf
  refine k_callVi' (rest := []) (As := []) F ws_in (t_X7_releaseOfAll h2) cv_X7_releaseOfAll ml_X7_190 hw 0 rfl rfl rfl hl.1 rfl (Nat.le_of_ble_eq_true rfl) ⟨Nat.le_of_ble_eq_true rfl, Nat.le_of_ble_eq_true rfl⟩ ⟨Nat.le_of_ble_eq_true rfl, Nat.le_of_ble_eq_true rfl⟩ dX7_statusNow_1 (fun H locs hw => ?_)
  refine lv_aload_n hx hb dX7_statusNow_4 rfl (lv_at hl 0 rfl) ?_
  refine M_g_0_1 F ws_in hw fl_X7_187 dX7_statusNow_5 ?_
  obtain ⟨v3, hq12, hf⟩ := qbd_e hf
  have J4 : ∀ (H : Heap) (locs : List Loc) (ls : Array Slot), Wd G (wM G ad x) A s H locs → lv_has ls 1 [] → W p l e (rmk 2 0 0 44) s m args below meth c H locs 0 0 (KQI G below args s A (wM G ad x) rv 0 0) (F0 m 38 ls [.int v3]) := by
    intro H locs ls hw hl
    obtain rfl := q_s hf
    exact k_iret F hr hlk hw (Nat.le_of_ble_eq_true rfl) (Nat.le_of_ble_eq_true rfl) dX7_statusNow_38
  have hf := hq12
  refine lv_icmp_gt (tgt := 18) hx hb dX7_statusNow_8 rfl (fun c5 => ?_) (fun c5 => ?_)
  · have hf := q_t c5 hf
    refine lv_iconst (v := 2) hx hb dX7_statusNow_18 (by decide) ?_
    refine lv_goto (tgt := 38) hx hb dX7_statusNow_19 rfl ?_
    obtain rfl := q_s hf
    exact J4 _ _ _ hw (lv_sub hl [] rfl)
  · have hf := q_f c5 hf
    refine lv_aload_n hx hb dX7_statusNow_11 rfl (lv_at hl 0 rfl) ?_
    obtain ⟨r6, h7, hf⟩ := qbd_e hf
    refine k_callVi' (rest := []) (As := []) F ws_in (t_X7_isRecalled h7) cv_X7_isRecalled ml_X7_193 hw 0 rfl rfl rfl hl.1 rfl (Nat.le_of_ble_eq_true rfl) ⟨Nat.le_of_ble_eq_true rfl, Nat.le_of_ble_eq_true rfl⟩ ⟨Nat.le_of_ble_eq_true rfl, Nat.le_of_ble_eq_true rfl⟩ dX7_statusNow_12 (fun H locs hw => ?_)
    refine lv_if_eq (tgt := 22) hx hb dX7_statusNow_15 rfl (fun c8 => ?_) (fun c8 => ?_)
    · have hf := q_t c8 hf
      refine lv_aload_n hx hb dX7_statusNow_22 rfl (lv_at hl 0 rfl) ?_
      obtain ⟨r9, h10, hf⟩ := qbd_e hf
      refine k_callVi' (rest := []) (As := []) F ws_in (t_X7_endOfAll h10) cv_X7_endOfAll ml_X7_197 hw 0 rfl rfl rfl hl.1 rfl (Nat.le_of_ble_eq_true rfl) ⟨Nat.le_of_ble_eq_true rfl, Nat.le_of_ble_eq_true rfl⟩ ⟨Nat.le_of_ble_eq_true rfl, Nat.le_of_ble_eq_true rfl⟩ dX7_statusNow_23 (fun H locs hw => ?_)
      refine lv_aload_n hx hb dX7_statusNow_26 rfl (lv_at hl 0 rfl) ?_
      refine M_g_0_1 F ws_in hw fl_X7_187 dX7_statusNow_27 ?_
      refine lv_icmp_le (tgt := 37) hx hb dX7_statusNow_30 rfl (fun c11 => ?_) (fun c11 => ?_)
      · have hf := q_t c11 hf
        refine lv_iconst (v := 0) hx hb dX7_statusNow_37 (by decide) ?_
        obtain rfl := q_s hf
        exact J4 _ _ _ hw (lv_sub hl [] rfl)
      · have hf := q_f c11 hf
        refine lv_iconst (v := 1) hx hb dX7_statusNow_33 (by decide) ?_
        refine lv_goto (tgt := 38) hx hb dX7_statusNow_34 rfl ?_
        obtain rfl := q_s hf
        exact J4 _ _ _ hw (lv_sub hl [] rfl)
    · have hf := q_f c8 hf
      refine lv_iconst (v := 2) hx hb dX7_statusNow_18 (by decide) ?_
      refine lv_goto (tgt := 38) hx hb dX7_statusNow_19 rfl ?_
      obtain rfl := q_s hf
      exact J4 _ _ _ hw (lv_sub hl [] rfl)
def f_X7_bounds (n : Nat) (x : SX) : Option (SX) := (qbd (f_X7_endOfAll n x) fun r1 => (qbd (if (x.1 0 22) ≤ 0 then some (x.1 0 25) else (if (x.1 0 25) ≤ r1 then some (x.1 0 25) else some r1)) fun v3 => (qnm (si x 0 25 v3) fun x5 => some x5)))
set_option maxHeartbeats 4000000 in
set_option maxRecDepth 100000 in
theorem t_X7_bounds {G : gG} {l : Launch} {ad : Nat → Nat} {n : Nat} {x : SX} {xr : SX} (hf : f_X7_bounds n x = some xr) : MetV G l yX7_bounds cX7_bounds 2 none 2 0 0 44 [.ref (ad 0)] (wM G ad x) (wM G ad xr) := by
  refine k_ofV (by decide) (Nat.le_of_ble_eq_true rfl) ?_
  intro p e s m args below meth c ls A F hr hlk hl hw
  have hx := F.1
  have hb := F.2.1
  have hl : lv_has ls 2 [(0, .ref (ad 0))] := hl
  unfold f_X7_bounds at hf
  refine lv_aload_n hx hb dX7_bounds_0 rfl (lv_at hl 0 rfl) ?_
  obtain ⟨r1, h2, hf⟩ := qbd_e hf
  refine k_callVi' (rest := []) (As := []) F ws_in (t_X7_endOfAll h2) cv_X7_endOfAll ml_X7_197 hw 0 rfl rfl rfl hl.1 rfl (Nat.le_of_ble_eq_true rfl) ⟨Nat.le_of_ble_eq_true rfl, Nat.le_of_ble_eq_true rfl⟩ ⟨Nat.le_of_ble_eq_true rfl, Nat.le_of_ble_eq_true rfl⟩ dX7_bounds_1 (fun H locs hw => ?_)
  refine lv_istore_n (lv' := [(1, .int r1), (0, .ref (ad 0))]) hx hb dX7_bounds_4 rfl hl (Nat.le_of_ble_eq_true rfl) rfl (fun ls hl => ?_)
  refine lv_aload_n hx hb dX7_bounds_5 rfl (lv_at hl 1 rfl) ?_
  refine lv_aload_n hx hb dX7_bounds_6 rfl (lv_at hl 1 rfl) ?_
  refine M_g_0_22 F ws_in hw fl_X7_171 dX7_bounds_7 ?_
  obtain ⟨v3, hq8, hf⟩ := qbd_e hf
  have J4 : ∀ (H : Heap) (locs : List Loc) (ls : Array Slot), Wd G (wM G ad x) A s H locs → lv_has ls 2 [] → W p l e (rmk 2 0 0 44) s m args below meth c H locs 0 0 (KQV G below args s A (wM G ad xr) 0 0) (F0 m 29 ls [.int v3, .ref (ad 0)]) := by
    intro H locs ls hw hl
    refine M_p_0_25 F ws_in hw fl_X7_177 dX7_bounds_29 (fun x5 ex5 H locs hw => ?_)
    have hf := qnm_k ex5 hf
    obtain rfl := q_s hf
    exact k_vret F hr hlk hw (Nat.le_of_ble_eq_true rfl) (Nat.le_of_ble_eq_true rfl) dX7_bounds_32
  have hf := hq8
  refine lv_if_le (tgt := 25) hx hb dX7_bounds_10 rfl (fun c6 => ?_) (fun c6 => ?_)
  · have hf := q_t c6 hf
    refine lv_aload_n hx hb dX7_bounds_25 rfl (lv_at hl 1 rfl) ?_
    refine M_g_0_25 F ws_in hw fl_X7_177 dX7_bounds_26 ?_
    obtain rfl := q_s hf
    exact J4 _ _ _ hw (lv_sub hl [] rfl)
  · have hf := q_f c6 hf
    refine lv_iload_n hx hb dX7_bounds_13 rfl (lv_at hl 0 rfl) ?_
    refine lv_aload_n hx hb dX7_bounds_14 rfl (lv_at hl 1 rfl) ?_
    refine M_g_0_25 F ws_in hw fl_X7_177 dX7_bounds_15 ?_
    refine lv_icmp_ge (tgt := 25) hx hb dX7_bounds_18 rfl (fun c7 => ?_) (fun c7 => ?_)
    · have hf := q_t c7 hf
      refine lv_aload_n hx hb dX7_bounds_25 rfl (lv_at hl 1 rfl) ?_
      refine M_g_0_25 F ws_in hw fl_X7_177 dX7_bounds_26 ?_
      obtain rfl := q_s hf
      exact J4 _ _ _ hw (lv_sub hl [] rfl)
    · have hf := q_f c7 hf
      refine lv_iload_n hx hb dX7_bounds_21 rfl (lv_at hl 0 rfl) ?_
      refine lv_goto (tgt := 29) hx hb dX7_bounds_22 rfl ?_
      obtain rfl := q_s hf
      exact J4 _ _ _ hw (lv_sub hl [] rfl)
def f_X7_today (n : Nat) (x : SX) : Option (Int32 × SX) := (qnm (si x 0 0 (0 : Int32)) fun x1 => some ((x1.1 0 1), x1))
set_option maxHeartbeats 4000000 in
set_option maxRecDepth 100000 in
theorem t_X7_today {G : gG} {l : Launch} {ad : Nat → Nat} {n : Nat} {x : SX} {rv : Int32} {xr : SX} (hf : f_X7_today n x = some (rv, xr)) : MetI G l yX7_today cX7_today 1 (some .int) 0 0 0 0 [.ref (ad 0)] (wM G ad x) (wM G ad xr) rv := by
  refine k_ofI (by decide) (Nat.le_of_ble_eq_true rfl) ?_
  intro p e s m args below meth c ls A F hr hlk hl hw
  have hx := F.1
  have hb := F.2.1
  have hl : lv_has ls 1 [(0, .ref (ad 0))] := hl
  unfold f_X7_today at hf
  refine lv_aload_n hx hb dX7_today_0 rfl (lv_at hl 0 rfl) ?_
  refine lv_iconst (v := 0) hx hb dX7_today_1 (by decide) ?_
  refine M_p_0_0 F ws_in hw fl_X7_93 dX7_today_2 (fun x1 ex1 H locs hw => ?_)
  have hf := qnm_k ex1 hf
  refine lv_aload_n hx hb dX7_today_5 rfl (lv_at hl 0 rfl) ?_
  refine M_g_0_1 F ws_in hw fl_X7_187 dX7_today_6 ?_
  obtain ⟨rfl, rfl⟩ := q_s2 hf
  exact k_iret F hr hlk hw (Nat.le_of_ble_eq_true rfl) (Nat.le_of_ble_eq_true rfl) dX7_today_9
def f_X7_advance_l63 (a1 : Int32) (r9 : Int32) (r11 : Int32) (r13 : Int32) : Nat → Int32 → Int32 → SX → Option (Int32 × SX)
  | 0, _, _, _ => none
  | m + 1, v15, v16, x17 => (if a1 ≤ v16 then (qnm (si x17 0 4 ((x17.1 0 4) + v15)) fun x20 => some (v15, x20)) else (qbd (if (x17.1 0 1) < r9 then some (2 : Int32) else (if r11 ≤ (x17.1 0 1) then (if r13 ≤ (x17.1 0 1) then some (0 : Int32) else some (1 : Int32)) else some (2 : Int32))) fun v21 => (qgd (qin (x17.1 0 1) 14610) ((qnm (si x17 12 (x17.1 0 1).toNatClampNeg (v21.toInt8.toInt32)) fun x24 => (qbd (if v21 = (2 : Int32) then some (1 : Int32) else some (0 : Int32)) fun v25 => (qnm (v15 + v25) fun v27 => (qbd (if v21 = (1 : Int32) then some (1 : Int32) else some (0 : Int32)) fun v28 => (qnm (si x24 0 5 ((x24.1 0 5) + v28)) fun x30 => (qgd (qin (x30.1 0 1) 14611) ((qbd (if v21 = (2 : Int32) then some (0 : Int32) else some (1 : Int32)) fun v32 => (qgd (qin ((x30.1 0 1) + (1 : Int32)) 14611) ((qnm (si x30 13 ((x30.1 0 1) + (1 : Int32)).toNatClampNeg ((x30.1 13 (x30.1 0 1).toNatClampNeg) + v32)) fun x35 => (qnm (si x35 0 1 ((x35.1 0 1) + (1 : Int32))) fun x36 => (qnm (v16 + (1 : Int32)) fun v37 => (f_X7_advance_l63 a1 r9 r11 r13 m) v27 v37 x36)))))))))))))))))
def f_X7_advance (n : Nat) (x : SX) (a1 : Int32) : Option (Int32 × SX) := (qbd (f_X7_in n a1 (1 : Int32) (400 : Int32)) fun r1 => (qbd (if r1 = 0 then some (1 : Int32) else (if ((x.1 0 1) + a1) ≤ (14609 : Int32) then some (0 : Int32) else some (2 : Int32))) fun v3 => (qbd2 (f_X7_fails n x v3) fun r5 x6 => (if r5 = 0 then (qbd (f_X7_releaseOfAll n x6) fun r9 => (qbd (f_X7_endOfRecall n x6) fun r11 => (qbd (f_X7_endOfAll n x6) fun r13 => f_X7_advance_l63 a1 r9 r11 r13 n (0 : Int32) (0 : Int32) x6))) else some ((0 : Int32), x6)))))
set_option maxHeartbeats 4000000 in
set_option maxRecDepth 100000 in
theorem t_X7_advance {G : gG} {l : Launch} {ad : Nat → Nat} {n : Nat} {x : SX} {a1 : Int32} {rv : Int32} {xr : SX} (hf : f_X7_advance n x a1 = some (rv, xr)) : MetI G l yX7_advance cX7_advance 8 (some .int) 2 0 0 44 [.ref (ad 0), .int a1] (wM G ad x) (wM G ad xr) rv := by
  refine k_ofI (by decide) (Nat.le_of_ble_eq_true rfl) ?_
  intro p e s m args below meth c ls A F hr hlk hl hw
  have hx := F.1
  have hb := F.2.1
  have hl : lv_has ls 8 [(0, .ref (ad 0)), (1, .int a1)] := hl
  unfold f_X7_advance at hf
  refine lv_aload_n hx hb dX7_advance_0 rfl (lv_at hl 0 rfl) ?_
  refine lv_iload_n hx hb dX7_advance_1 rfl (lv_at hl 1 rfl) ?_
  refine lv_iconst (v := 1) hx hb dX7_advance_2 (by decide) ?_
  refine lv_sipush (v := 400) hx hb dX7_advance_3 (by decide) ?_
  obtain ⟨r1, h2, hf⟩ := qbd_e hf
  refine k_callPi (rest := [.ref (ad 0)]) (As := [.int a1, .int (1 : Int32), .int (400 : Int32)]) F ws_in (t_X7_in h2) cs_X7_in ml_X7_122 hw rfl hl.1 rfl (Nat.le_of_ble_eq_true rfl) ⟨Nat.le_of_ble_eq_true rfl, Nat.le_of_ble_eq_true rfl⟩ ⟨Nat.le_of_ble_eq_true rfl, Nat.le_of_ble_eq_true rfl⟩ dX7_advance_6 (fun H locs hw => ?_)
  obtain ⟨v3, hq50, hf⟩ := qbd_e hf
  have J4 : ∀ (H : Heap) (locs : List Loc) (ls : Array Slot), Wd G (wM G ad x) A s H locs → lv_has ls 8 [(0, .ref (ad 0)), (1, .int a1)] → W p l e (rmk 2 0 0 44) s m args below meth c H locs 0 0 (KQI G below args s A (wM G ad xr) rv 0 0) (F0 m 33 ls [.int v3, .ref (ad 0)]) := by
    intro H locs ls hw hl
    obtain ⟨r5, x6, h7, hf⟩ := qbd2_e hf
    refine k_callVi' (rest := []) (As := [.int v3]) F ws_in (t_X7_fails h7) cv_X7_fails ml_X7_126 hw 0 rfl rfl rfl hl.1 rfl (Nat.le_of_ble_eq_true rfl) ⟨Nat.le_of_ble_eq_true rfl, Nat.le_of_ble_eq_true rfl⟩ ⟨Nat.le_of_ble_eq_true rfl, Nat.le_of_ble_eq_true rfl⟩ dX7_advance_33 (fun H locs hw => ?_)
    refine lv_if_eq (tgt := 41) hx hb dX7_advance_36 rfl (fun c8 => ?_) (fun c8 => ?_)
    · have hf := q_t c8 hf
      refine lv_aload_n hx hb dX7_advance_41 rfl (lv_at hl 0 rfl) ?_
      obtain ⟨r9, h10, hf⟩ := qbd_e hf
      refine k_callVi' (rest := []) (As := []) F ws_in (t_X7_releaseOfAll h10) cv_X7_releaseOfAll ml_X7_190 hw 0 rfl rfl rfl hl.1 rfl (Nat.le_of_ble_eq_true rfl) ⟨Nat.le_of_ble_eq_true rfl, Nat.le_of_ble_eq_true rfl⟩ ⟨Nat.le_of_ble_eq_true rfl, Nat.le_of_ble_eq_true rfl⟩ dX7_advance_42 (fun H locs hw => ?_)
      refine lv_istore_n (lv' := [(2, .int r9), (0, .ref (ad 0)), (1, .int a1)]) hx hb dX7_advance_45 rfl hl (Nat.le_of_ble_eq_true rfl) rfl (fun ls hl => ?_)
      refine lv_aload_n hx hb dX7_advance_46 rfl (lv_at hl 1 rfl) ?_
      obtain ⟨r11, h12, hf⟩ := qbd_e hf
      refine k_callVi' (rest := []) (As := []) F ws_in (t_X7_endOfRecall h12) cv_X7_endOfRecall ml_X7_183 hw 0 rfl rfl rfl hl.1 rfl (Nat.le_of_ble_eq_true rfl) ⟨Nat.le_of_ble_eq_true rfl, Nat.le_of_ble_eq_true rfl⟩ ⟨Nat.le_of_ble_eq_true rfl, Nat.le_of_ble_eq_true rfl⟩ dX7_advance_47 (fun H locs hw => ?_)
      refine lv_istore_n (lv' := [(3, .int r11), (2, .int r9), (0, .ref (ad 0)), (1, .int a1)]) hx hb dX7_advance_50 rfl hl (Nat.le_of_ble_eq_true rfl) rfl (fun ls hl => ?_)
      refine lv_aload_n hx hb dX7_advance_51 rfl (lv_at hl 2 rfl) ?_
      obtain ⟨r13, h14, hf⟩ := qbd_e hf
      refine k_callVi' (rest := []) (As := []) F ws_in (t_X7_endOfAll h14) cv_X7_endOfAll ml_X7_197 hw 0 rfl rfl rfl hl.1 rfl (Nat.le_of_ble_eq_true rfl) ⟨Nat.le_of_ble_eq_true rfl, Nat.le_of_ble_eq_true rfl⟩ ⟨Nat.le_of_ble_eq_true rfl, Nat.le_of_ble_eq_true rfl⟩ dX7_advance_52 (fun H locs hw => ?_)
      refine lv_istore (lv' := [(4, .int r13), (3, .int r11), (2, .int r9), (0, .ref (ad 0)), (1, .int a1)]) hx hb dX7_advance_55 hl (Nat.le_of_ble_eq_true rfl) rfl (fun ls hl => ?_)
      refine lv_iconst (v := 0) hx hb dX7_advance_57 (by decide) ?_
      refine lv_istore (lv' := [(5, .int (0 : Int32)), (4, .int r13), (3, .int r11), (2, .int r9), (0, .ref (ad 0)), (1, .int a1)]) hx hb dX7_advance_58 hl (Nat.le_of_ble_eq_true rfl) rfl (fun ls hl => ?_)
      refine lv_iconst (v := 0) hx hb dX7_advance_60 (by decide) ?_
      refine lv_istore (lv' := [(6, .int (0 : Int32)), (5, .int (0 : Int32)), (4, .int r13), (3, .int r11), (2, .int r9), (0, .ref (ad 0)), (1, .int a1)]) hx hb dX7_advance_61 hl (Nat.le_of_ble_eq_true rfl) rfl (fun ls hl => ?_)
      have L18 : ∀ (m0 : Nat) (v15 : Int32) (v16 : Int32) (x17 : SX) (H : Heap) (locs : List Loc) (ls : Array Slot), Wd G (wM G ad x17) A s H locs → lv_has ls 8 [(0, .ref (ad 0)), (1, .int a1), (2, .int r9), (3, .int r11), (4, .int r13), (5, .int v15), (6, .int v16)] → f_X7_advance_l63 a1 r9 r11 r13 m0 v15 v16 x17 = some (rv, xr) → W p l e (rmk 2 0 0 44) s m args below meth c H locs 0 0 (KQI G below args s A (wM G ad xr) rv 0 0) (F0 m 63 ls []) := by
        intro m0
        induction m0 with
        | zero => intro v15 v16 x17 H locs ls hw hl hf; cases hf
        | succ mL18 ih18 =>
          intro v15 v16 x17 H locs ls hw hl hf
          unfold f_X7_advance_l63 at hf
          refine lv_iload hx hb dX7_advance_63 (lv_at hl 6 rfl) ?_
          refine lv_iload_n hx hb dX7_advance_65 rfl (lv_at hl 1 rfl) ?_
          refine lv_icmp_ge (tgt := 201) hx hb dX7_advance_66 rfl (fun c19 => ?_) (fun c19 => ?_)
          · have hf := q_t c19 hf
            refine lv_aload_n hx hb dX7_advance_201 rfl (lv_at hl 0 rfl) ?_
            refine lv_dup hx hb dX7_advance_202 rfl ?_
            refine M_g_0_4 F ws_in hw fl_X7_203 dX7_advance_203 ?_
            refine lv_iload hx hb dX7_advance_206 (lv_at hl 5 rfl) ?_
            refine lv_iadd hx hb dX7_advance_208 ?_
            refine M_p_0_4 F ws_in hw fl_X7_203 dX7_advance_209 (fun x20 ex20 H locs hw => ?_)
            have hf := qnm_k ex20 hf
            refine lv_iload hx hb dX7_advance_212 (lv_at hl 5 rfl) ?_
            obtain ⟨rfl, rfl⟩ := q_s2 hf
            exact k_iret F hr hlk hw (Nat.le_of_ble_eq_true rfl) (Nat.le_of_ble_eq_true rfl) dX7_advance_214
          · have hf := q_f c19 hf
            refine lv_iload_n hx hb dX7_advance_69 rfl (lv_at hl 2 rfl) ?_
            refine lv_aload_n hx hb dX7_advance_70 rfl (lv_at hl 0 rfl) ?_
            refine M_g_0_1 F ws_in hw fl_X7_187 dX7_advance_71 ?_
            obtain ⟨v21, hq47, hf⟩ := qbd_e hf
            have J22 : ∀ (H : Heap) (locs : List Loc) (ls : Array Slot), Wd G (wM G ad x17) A s H locs → lv_has ls 8 [(0, .ref (ad 0)), (1, .int a1), (2, .int r9), (3, .int r11), (4, .int r13), (5, .int v15), (6, .int v16)] → W p l e (rmk 2 0 0 44) s m args below meth c H locs 0 0 (KQI G below args s A (wM G ad xr) rv 0 0) (F0 m 103 ls [.int v21]) := by
              intro H locs ls hw hl
              refine lv_istore (lv' := [(7, .int v21), (0, .ref (ad 0)), (1, .int a1), (2, .int r9), (3, .int r11), (4, .int r13), (5, .int v15), (6, .int v16)]) hx hb dX7_advance_103 hl (Nat.le_of_ble_eq_true rfl) rfl (fun ls hl => ?_)
              refine lv_aload_n hx hb dX7_advance_105 rfl (lv_at hl 1 rfl) ?_
              refine M_g_0_2 F ws_in hw fl_X7_9 dX7_advance_106 ?_
              refine lv_aload_n hx hb dX7_advance_109 rfl (lv_at hl 1 rfl) ?_
              refine M_g_0_1 F ws_in hw fl_X7_187 dX7_advance_110 ?_
              refine lv_iload hx hb dX7_advance_113 (lv_at hl 0 rfl) ?_
              refine lv_i2b hx hb dX7_advance_115 rfl ?_
              obtain ⟨g23, hf⟩ := qgd_e hf
              refine M_s_12 F hw g23 (pk_vb _) dX7_advance_116 (fun x24 ex24 H locs hw => ?_)
              have hf := qnm_k ex24 hf
              refine lv_iload hx hb dX7_advance_117 (lv_at hl 6 rfl) ?_
              refine lv_iload hx hb dX7_advance_119 (lv_at hl 0 rfl) ?_
              refine lv_iconst (v := 2) hx hb dX7_advance_121 (by decide) ?_
              obtain ⟨v25, hq43, hf⟩ := qbd_e hf
              have J26 : ∀ (H : Heap) (locs : List Loc) (ls : Array Slot), Wd G (wM G ad x24) A s H locs → lv_has ls 8 [(0, .ref (ad 0)), (1, .int a1), (2, .int r9), (3, .int r11), (4, .int r13), (6, .int v16), (7, .int v21)] → W p l e (rmk 2 0 0 44) s m args below meth c H locs 0 0 (KQI G below args s A (wM G ad xr) rv 0 0) (F0 m 130 ls [.int v25, .int v15]) := by
                intro H locs ls hw hl
                refine lv_iadd hx hb dX7_advance_130 ?_
                refine lv_topi (fun v27 ev27 => ?_)
                have hf := qnm_k ev27 hf
                refine lv_istore (lv' := [(5, .int v27), (0, .ref (ad 0)), (1, .int a1), (2, .int r9), (3, .int r11), (4, .int r13), (6, .int v16), (7, .int v21)]) hx hb dX7_advance_131 hl (Nat.le_of_ble_eq_true rfl) rfl (fun ls hl => ?_)
                refine lv_aload_n hx hb dX7_advance_133 rfl (lv_at hl 1 rfl) ?_
                refine lv_dup hx hb dX7_advance_134 rfl ?_
                refine M_g_0_5 F ws_in hw fl_X7_200 dX7_advance_135 ?_
                refine lv_iload hx hb dX7_advance_138 (lv_at hl 7 rfl) ?_
                refine lv_iconst (v := 1) hx hb dX7_advance_140 (by decide) ?_
                obtain ⟨v28, hq41, hf⟩ := qbd_e hf
                have J29 : ∀ (H : Heap) (locs : List Loc) (ls : Array Slot), Wd G (wM G ad x24) A s H locs → lv_has ls 8 [(0, .ref (ad 0)), (1, .int a1), (2, .int r9), (3, .int r11), (4, .int r13), (5, .int v27), (6, .int v16), (7, .int v21)] → W p l e (rmk 2 0 0 44) s m args below meth c H locs 0 0 (KQI G below args s A (wM G ad xr) rv 0 0) (F0 m 149 ls [.int v28, .int (x24.1 0 5), .ref (ad 0)]) := by
                  intro H locs ls hw hl
                  refine lv_iadd hx hb dX7_advance_149 ?_
                  refine M_p_0_5 F ws_in hw fl_X7_200 dX7_advance_150 (fun x30 ex30 H locs hw => ?_)
                  have hf := qnm_k ex30 hf
                  refine lv_aload_n hx hb dX7_advance_153 rfl (lv_at hl 0 rfl) ?_
                  refine M_g_0_3 F ws_in hw fl_X7_13 dX7_advance_154 ?_
                  refine lv_aload_n hx hb dX7_advance_157 rfl (lv_at hl 0 rfl) ?_
                  refine M_g_0_1 F ws_in hw fl_X7_187 dX7_advance_158 ?_
                  refine lv_iconst (v := 1) hx hb dX7_advance_161 (by decide) ?_
                  refine lv_iadd hx hb dX7_advance_162 ?_
                  refine lv_aload_n hx hb dX7_advance_163 rfl (lv_at hl 0 rfl) ?_
                  refine M_g_0_3 F ws_in hw fl_X7_13 dX7_advance_164 ?_
                  refine lv_aload_n hx hb dX7_advance_167 rfl (lv_at hl 0 rfl) ?_
                  refine M_g_0_1 F ws_in hw fl_X7_187 dX7_advance_168 ?_
                  obtain ⟨g31, hf⟩ := qgd_e hf
                  refine M_l_13 F hw g31 dX7_advance_171 ?_
                  refine lv_iload hx hb dX7_advance_172 (lv_at hl 7 rfl) ?_
                  refine lv_iconst (v := 2) hx hb dX7_advance_174 (by decide) ?_
                  obtain ⟨v32, hq39, hf⟩ := qbd_e hf
                  have J33 : ∀ (H : Heap) (locs : List Loc) (ls : Array Slot), Wd G (wM G ad x30) A s H locs → lv_has ls 8 [(0, .ref (ad 0)), (1, .int a1), (2, .int r9), (3, .int r11), (4, .int r13), (5, .int v27), (6, .int v16)] → W p l e (rmk 2 0 0 44) s m args below meth c H locs 0 0 (KQI G below args s A (wM G ad xr) rv 0 0) (F0 m 183 ls [.int v32, .int (x30.1 13 (x30.1 0 1).toNatClampNeg), .int ((x30.1 0 1) + (1 : Int32)), .ref (ad 13)]) := by
                    intro H locs ls hw hl
                    refine lv_iadd hx hb dX7_advance_183 ?_
                    obtain ⟨g34, hf⟩ := qgd_e hf
                    refine M_s_13 F hw g34 dX7_advance_184 (fun x35 ex35 H locs hw => ?_)
                    have hf := qnm_k ex35 hf
                    refine lv_aload_n hx hb dX7_advance_185 rfl (lv_at hl 0 rfl) ?_
                    refine lv_dup hx hb dX7_advance_186 rfl ?_
                    refine M_g_0_1 F ws_in hw fl_X7_187 dX7_advance_187 ?_
                    refine lv_iconst (v := 1) hx hb dX7_advance_190 (by decide) ?_
                    refine lv_iadd hx hb dX7_advance_191 ?_
                    refine M_p_0_1 F ws_in hw fl_X7_187 dX7_advance_192 (fun x36 ex36 H locs hw => ?_)
                    have hf := qnm_k ex36 hf
                    obtain ⟨v37, ev37⟩ : ∃ y : Int32, y = v16 + (1 : Int32) := ⟨_, rfl⟩
                    refine lv_iinc (v := v37) (lv' := [(6, .int v37), (0, .ref (ad 0)), (1, .int a1), (2, .int r9), (3, .int r11), (4, .int r13), (5, .int v27)]) hx hb dX7_advance_195 hl (k := 6) rfl (by rw [ev37]; rfl) (Nat.le_of_ble_eq_true rfl) rfl (fun ls hl => ?_)
                    have hf := qnm_k ev37 hf
                    refine lv_goto (tgt := 63) hx hb dX7_advance_198 rfl ?_
                    exact ih18 v27 v37 x36 _ _ _ hw (lv_sub hl [1, 2, 3, 4, 5, 6, 0] rfl) hf
                  have hf := hq39
                  refine lv_icmp_ne (tgt := 182) hx hb dX7_advance_175 rfl (fun c38 => ?_) (fun c38 => ?_)
                  · have hf := q_f c38 hf
                    refine lv_iconst (v := 1) hx hb dX7_advance_182 (by decide) ?_
                    obtain rfl := q_s hf
                    exact J33 _ _ _ hw (lv_sub hl [0, 1, 2, 3, 4, 5, 6] rfl)
                  · have hf := q_t c38 hf
                    refine lv_iconst (v := 0) hx hb dX7_advance_178 (by decide) ?_
                    refine lv_goto (tgt := 183) hx hb dX7_advance_179 rfl ?_
                    obtain rfl := q_s hf
                    exact J33 _ _ _ hw (lv_sub hl [0, 1, 2, 3, 4, 5, 6] rfl)
                have hf := hq41
                refine lv_icmp_ne (tgt := 148) hx hb dX7_advance_141 rfl (fun c40 => ?_) (fun c40 => ?_)
                · have hf := q_f c40 hf
                  refine lv_iconst (v := 0) hx hb dX7_advance_148 (by decide) ?_
                  obtain rfl := q_s hf
                  exact J29 _ _ _ hw (lv_sub hl [1, 2, 3, 4, 5, 0, 6, 7] rfl)
                · have hf := q_t c40 hf
                  refine lv_iconst (v := 1) hx hb dX7_advance_144 (by decide) ?_
                  refine lv_goto (tgt := 149) hx hb dX7_advance_145 rfl ?_
                  obtain rfl := q_s hf
                  exact J29 _ _ _ hw (lv_sub hl [1, 2, 3, 4, 5, 0, 6, 7] rfl)
              have hf := hq43
              refine lv_icmp_ne (tgt := 129) hx hb dX7_advance_122 rfl (fun c42 => ?_) (fun c42 => ?_)
              · have hf := q_f c42 hf
                refine lv_iconst (v := 0) hx hb dX7_advance_129 (by decide) ?_
                obtain rfl := q_s hf
                exact J26 _ _ _ hw (lv_sub hl [1, 2, 3, 4, 5, 7, 0] rfl)
              · have hf := q_t c42 hf
                refine lv_iconst (v := 1) hx hb dX7_advance_125 (by decide) ?_
                refine lv_goto (tgt := 130) hx hb dX7_advance_126 rfl ?_
                obtain rfl := q_s hf
                exact J26 _ _ _ hw (lv_sub hl [1, 2, 3, 4, 5, 7, 0] rfl)
            have hf := hq47
            refine lv_icmp_gt (tgt := 85) hx hb dX7_advance_74 rfl (fun c44 => ?_) (fun c44 => ?_)
            · have hf := q_t c44 hf
              refine lv_iconst (v := 2) hx hb dX7_advance_85 (by decide) ?_
              refine lv_goto (tgt := 103) hx hb dX7_advance_86 rfl ?_
              obtain rfl := q_s hf
              exact J22 _ _ _ hw (lv_sub hl [0, 1, 2, 3, 4, 5, 6] rfl)
            · have hf := q_f c44 hf
              refine lv_iload_n hx hb dX7_advance_77 rfl (lv_at hl 3 rfl) ?_
              refine lv_aload_n hx hb dX7_advance_78 rfl (lv_at hl 0 rfl) ?_
              refine M_g_0_1 F ws_in hw fl_X7_187 dX7_advance_79 ?_
              refine lv_icmp_le (tgt := 89) hx hb dX7_advance_82 rfl (fun c45 => ?_) (fun c45 => ?_)
              · have hf := q_t c45 hf
                refine lv_iload hx hb dX7_advance_89 (lv_at hl 4 rfl) ?_
                refine lv_aload_n hx hb dX7_advance_91 rfl (lv_at hl 0 rfl) ?_
                refine M_g_0_1 F ws_in hw fl_X7_187 dX7_advance_92 ?_
                refine lv_icmp_le (tgt := 102) hx hb dX7_advance_95 rfl (fun c46 => ?_) (fun c46 => ?_)
                · have hf := q_t c46 hf
                  refine lv_iconst (v := 0) hx hb dX7_advance_102 (by decide) ?_
                  obtain rfl := q_s hf
                  exact J22 _ _ _ hw (lv_sub hl [0, 1, 2, 3, 4, 5, 6] rfl)
                · have hf := q_f c46 hf
                  refine lv_iconst (v := 1) hx hb dX7_advance_98 (by decide) ?_
                  refine lv_goto (tgt := 103) hx hb dX7_advance_99 rfl ?_
                  obtain rfl := q_s hf
                  exact J22 _ _ _ hw (lv_sub hl [0, 1, 2, 3, 4, 5, 6] rfl)
              · have hf := q_f c45 hf
                refine lv_iconst (v := 2) hx hb dX7_advance_85 (by decide) ?_
                refine lv_goto (tgt := 103) hx hb dX7_advance_86 rfl ?_
                obtain rfl := q_s hf
                exact J22 _ _ _ hw (lv_sub hl [0, 1, 2, 3, 4, 5, 6] rfl)
      exact L18 n (0 : Int32) (0 : Int32) x6 _ _ _ hw (lv_sub hl [5, 6, 4, 3, 2, 1, 0] rfl) hf
    · have hf := q_f c8 hf
      refine lv_iconst (v := 0) hx hb dX7_advance_39 (by decide) ?_
      obtain ⟨rfl, rfl⟩ := q_s2 hf
      exact k_iret F hr hlk hw (Nat.le_of_ble_eq_true rfl) (Nat.le_of_ble_eq_true rfl) dX7_advance_40
  have hf := hq50
  refine lv_if_ne (tgt := 16) hx hb dX7_advance_9 rfl (fun c48 => ?_) (fun c48 => ?_)
  · have hf := q_f c48 hf
    refine lv_aload_n hx hb dX7_advance_16 rfl (lv_at hl 0 rfl) ?_
    refine M_g_0_1 F ws_in hw fl_X7_187 dX7_advance_17 ?_
    refine lv_iload_n hx hb dX7_advance_20 rfl (lv_at hl 1 rfl) ?_
    refine lv_iadd hx hb dX7_advance_21 ?_
    refine lv_sipush (v := 14609) hx hb dX7_advance_22 (by decide) ?_
    refine lv_icmp_le (tgt := 32) hx hb dX7_advance_25 rfl (fun c49 => ?_) (fun c49 => ?_)
    · have hf := q_t c49 hf
      refine lv_iconst (v := 0) hx hb dX7_advance_32 (by decide) ?_
      obtain rfl := q_s hf
      exact J4 _ _ _ hw (lv_sub hl [0, 1] rfl)
    · have hf := q_f c49 hf
      refine lv_iconst (v := 2) hx hb dX7_advance_28 (by decide) ?_
      refine lv_goto (tgt := 33) hx hb dX7_advance_29 rfl ?_
      obtain rfl := q_s hf
      exact J4 _ _ _ hw (lv_sub hl [0, 1] rfl)
  · have hf := q_t c48 hf
    refine lv_iconst (v := 1) hx hb dX7_advance_12 (by decide) ?_
    refine lv_goto (tgt := 33) hx hb dX7_advance_13 rfl ?_
    obtain rfl := q_s hf
    exact J4 _ _ _ hw (lv_sub hl [0, 1] rfl)
