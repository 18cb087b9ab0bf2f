/-! ===== the StringBuilder, 4: digits ===== -/
theorem tabO_b (j : Nat) : vp_nar .byte (tabO j) = tabO j := by
  have h : ∀ k : Fin 10, vp_nar .byte (Int32.ofNat (48 + k.val)) = Int32.ofNat (48 + k.val) := by decide +kernel
  exact h ⟨j % 10, Nat.mod_lt _ (by decide)⟩
theorem tabT_b {j : Nat} (hj : j < 100) : vp_nar .byte (tabT j) = tabT j := by
  have h : ∀ k : Fin 10, vp_nar .byte (Int32.ofNat (48 + k.val)) = Int32.ofNat (48 + k.val) := by decide +kernel
  exact h ⟨j / 10, by omega⟩
theorem qin_lt {i : Int32} {n : Nat} (h : qin i n = true) : i.toNatClampNeg < n := by
  simp only [qin, Bool.and_eq_true, decide_eq_true_eq] at h
  exact h.2
def f_J6_getChars_ba4f3_e72 (cap : Nat) (v1 : Int32) (v5 : Int32) (v6 : Int32) (x7 : SX) : Option (Int32 × SX) := (qnm (v6 + (-1 : Int32)) fun v8 => (qgd (qin (-v5) 100) ((qgd (qin v8 cap) ((qnm (si x7 9 v8.toNatClampNeg (tabO (-v5).toNatClampNeg)) fun x11 => (qbd2 (if (-9 : Int32) ≤ v5 then some (v8, x11) else (qnm (v8 + (-1 : Int32)) fun v24 => (qgd (qin v24 cap) ((qnm (si x11 9 v24.toNatClampNeg (tabT (-v5).toNatClampNeg)) fun x26 => some (v24, x26)))))) fun v12 x13 => (qbd2 (if v1 = 0 then some (v12, x13) else (qnm (v12 + (-1 : Int32)) fun v19 => (qgd (qin v19 cap) ((qnm (si x13 9 v19.toNatClampNeg (45 : Int32)) fun x21 => some (v19, x21)))))) fun v15 x16 => some (v15, x16)))))))))
def f_J6_getChars_ba4f3_l22 (cap : Nat) (v1 : Int32) : Nat → Int32 → Int32 → SX → Option (Int32 × SX)
  | 0, _, _, _ => none
  | m + 1, v29, v30, x31 => (if (-100 : Int32) < v29 then f_J6_getChars_ba4f3_e72 cap v1 v29 v30 x31 else (qnm (v29 / (100 : Int32)) fun v34 => (qnm ((v34 * (100 : Int32)) - v29) fun v35 => (qnm (v30 + (-1 : Int32)) fun v36 => (qgd (qin v35 100) ((qgd (qin v36 cap) ((qnm (si x31 9 v36.toNatClampNeg (tabO v35.toNatClampNeg)) fun x39 => (qnm (v36 + (-1 : Int32)) fun v40 => (qgd (qin v40 cap) ((qnm (si x39 9 v40.toNatClampNeg (tabT v35.toNatClampNeg)) fun x42 => (f_J6_getChars_ba4f3_l22 cap v1 m) v34 v40 x42)))))))))))))
def f_J6_getChars_ba4f3 (n : Nat) (cap : Nat) (x : SX) (a1 : Int32) (a2 : Int32) : Option (Int32 × SX) := (qbd (if 0 ≤ a1 then some (0 : Int32) else some (1 : Int32)) fun v1 => (qbd (if v1 = 0 then (qnm (-a1) fun v44 => some v44) else some a1) fun v3 => f_J6_getChars_ba4f3_l22 cap v1 n v3 a2 x))
set_option maxHeartbeats 4000000 in
set_option maxRecDepth 100000 in
theorem t_J6_getChars_ba4f3 {G : gG} {l : Launch} {ad : Nat → Nat} {qb cap : Nat} {n : Nat} {x : SX} {a1 : Int32} {a2 : Int32} {rv : Int32} {xr : SX} (hf : f_J6_getChars_ba4f3 n cap x a1 a2 = some (rv, xr)) : MetPI PrB G l yJ6_getChars_ba4f3 cJ6_getChars_ba4f3 7 (some .int) 0 0 0 0 [.int a1, .int a2, .ref qb] (wB G ad qb cap x) (wB G ad qb cap xr) rv := by
  refine k_ofPI (by decide) (Nat.le_of_ble_eq_true rfl) ?_
  intro p e s m args below meth c ls A F hr hlk hl hw hZ
  have hx := F.1
  have hb := F.2.1
  have hl : lv_has ls 7 [(0, .int a1), (1, .int a2), (2, .ref qb)] := hl
  unfold f_J6_getChars_ba4f3 at hf
  obtain ⟨tO, hO, hTO⟩ := hZ.2.2.1
  obtain ⟨tT, hT2, hTT⟩ := hZ.2.2.2.1
  refine lv_iload_n hx hb dJ6_getChars_ba4f3_0 rfl (lv_at hl 1 rfl) ?_
  refine lv_istore (lv' := [(5, .int a2), (0, .int a1), (1, .int a2), (2, .ref qb)]) hx hb dJ6_getChars_ba4f3_1 hl (Nat.le_of_ble_eq_true rfl) rfl (fun ls hl => ?_)
  refine lv_iload_n hx hb dJ6_getChars_ba4f3_3 rfl (lv_at hl 1 rfl) ?_
  obtain ⟨v1, hq47, hf⟩ := qbd_e hf
  have J2 : ∀ (H : Heap) (locs : List Loc) (ls : Array Slot), Wd G (wB G ad qb cap x) A s H locs → lv_has ls 7 [(0, .int a1), (2, .ref qb), (5, .int a2)] → W p l e (rmk 0 0 0 0) s m args below meth c H locs 0 0 (KQI G below args s A (wB G ad qb cap xr) rv 0 0) (F0 m 12 ls [.int v1]) := by
    intro H locs ls hw hl
    refine lv_istore (lv' := [(6, .int v1), (0, .int a1), (2, .ref qb), (5, .int a2)]) hx hb dJ6_getChars_ba4f3_12 hl (Nat.le_of_ble_eq_true rfl) rfl (fun ls hl => ?_)
    refine lv_iload hx hb dJ6_getChars_ba4f3_14 (lv_at hl 0 rfl) ?_
    obtain ⟨v3, hq45, hf⟩ := qbd_e hf
    have J4 : ∀ (H : Heap) (locs : List Loc) (ls : Array Slot), Wd G (wB G ad qb cap x) A s H locs → lv_has ls 7 [(0, .int v3), (2, .ref qb), (5, .int a2), (6, .int v1)] → W p l e (rmk 0 0 0 0) s m args below meth c H locs 0 0 (KQI G below args s A (wB G ad qb cap xr) rv 0 0) (F0 m 22 ls []) := by
      intro H locs ls hw hl
      have E28 : ∀ (v5 : Int32) (v6 : Int32) (x7 : SX) (H : Heap) (locs : List Loc) (ls : Array Slot), Wd G (wB G ad qb cap x7) A s H locs → lv_has ls 7 [(0, .int v5), (2, .ref qb), (5, .int v6), (6, .int v1)] → f_J6_getChars_ba4f3_e72 cap v1 v5 v6 x7 = some (rv, xr) → W p l e (rmk 0 0 0 0) s m args below meth c H locs 0 0 (KQI G below args s A (wB G ad qb cap xr) rv 0 0) (F0 m 72 ls []) := by
        intro v5 v6 x7 H locs ls hw hl hf
        unfold f_J6_getChars_ba4f3_e72 at hf
        refine lv_aload_n hx hb dJ6_getChars_ba4f3_72 rfl (lv_at hl 1 rfl) ?_
        obtain ⟨v8, ev8⟩ : ∃ y : Int32, y = v6 + (-1 : Int32) := ⟨_, rfl⟩
        refine lv_iinc (v := v8) (lv' := [(5, .int v8), (0, .int v5), (2, .ref qb), (6, .int v1)]) hx hb dJ6_getChars_ba4f3_73 hl (k := 2) rfl (by rw [ev8]; rfl) (Nat.le_of_ble_eq_true rfl) rfl (fun ls hl => ?_)
        have hf := qnm_k ev8 hf
        refine lv_iload hx hb dJ6_getChars_ba4f3_76 (lv_at hl 0 rfl) ?_
        refine va_gets hx hb hO hw.2.2.2.1 F.2.2.2.1 (F.2.2.2.2 _ (ws_in _ fl_J6_83)) (fun _ h => h) dJ6_getChars_ba4f3_78 ?_
        refine lv_iload_n hx hb dJ6_getChars_ba4f3_81 rfl (lv_at hl 1 rfl) ?_
        refine lv_ineg hx hb dJ6_getChars_ba4f3_82 ?_
        obtain ⟨g9, hf⟩ := qgd_e hf
        refine va_tb hx hb hTO hw.2.2.2.1 (qin_vp g9) (v := .int (tabO (-v5).toNatClampNeg)) rfl dJ6_getChars_ba4f3_83 ?_
        obtain ⟨g10, hf⟩ := qgd_e hf
        refine B_s F hw g10 (tabO_b _) dJ6_getChars_ba4f3_84 (fun x11 ex11 H locs hw => ?_)
        have hf := qnm_k ex11 hf
        refine lv_iload_n hx hb dJ6_getChars_ba4f3_85 rfl (lv_at hl 1 rfl) ?_
        refine lv_bipush (v := -9) hx hb dJ6_getChars_ba4f3_86 (by decide) ?_
        obtain ⟨v12, x13, hq27, hf⟩ := qbd2_e hf
        have J14 : ∀ (H : Heap) (locs : List Loc) (ls : Array Slot), Wd G (wB G ad qb cap x13) A s H locs → lv_has ls 7 [(2, .ref qb), (5, .int v12), (6, .int v1)] → W p l e (rmk 0 0 0 0) s m args below meth c H locs 0 0 (KQI G below args s A (wB G ad qb cap xr) rv 0 0) (F0 m 104 ls []) := by
          intro H locs ls hw hl
          refine lv_iload hx hb dJ6_getChars_ba4f3_104 (lv_at hl 2 rfl) ?_
          obtain ⟨v15, x16, hq22, hf⟩ := qbd2_e hf
          have J17 : ∀ (H : Heap) (locs : List Loc) (ls : Array Slot), Wd G (wB G ad qb cap x16) A s H locs → lv_has ls 7 [(5, .int v15)] → W p l e (rmk 0 0 0 0) s m args below meth c H locs 0 0 (KQI G below args s A (wB G ad qb cap xr) rv 0 0) (F0 m 118 ls []) := by
            intro H locs ls hw hl
            refine lv_iload hx hb dJ6_getChars_ba4f3_118 (lv_at hl 0 rfl) ?_
            obtain ⟨rfl, rfl⟩ := q_s2 hf
            exact k_iret F hr hlk hw (Nat.le_of_ble_eq_true rfl) (Nat.le_of_ble_eq_true rfl) dJ6_getChars_ba4f3_120
          have hf := hq22
          refine lv_if_eq (tgt := 118) hx hb dJ6_getChars_ba4f3_106 rfl (fun c18 => ?_) (fun c18 => ?_)
          · have hf := q_t c18 hf
            obtain ⟨rfl, rfl⟩ := q_s2 hf
            exact J17 _ _ _ hw (lv_sub hl [1] rfl)
          · have hf := q_f c18 hf
            refine lv_aload_n hx hb dJ6_getChars_ba4f3_109 rfl (lv_at hl 0 rfl) ?_
            obtain ⟨v19, ev19⟩ : ∃ y : Int32, y = v12 + (-1 : Int32) := ⟨_, rfl⟩
            refine lv_iinc (v := v19) (lv' := [(5, .int v19), (2, .ref qb), (6, .int v1)]) hx hb dJ6_getChars_ba4f3_110 hl (k := 1) rfl (by rw [ev19]; rfl) (Nat.le_of_ble_eq_true rfl) rfl (fun ls hl => ?_)
            have hf := qnm_k ev19 hf
            refine lv_iload hx hb dJ6_getChars_ba4f3_113 (lv_at hl 0 rfl) ?_
            refine lv_bipush (v := 45) hx hb dJ6_getChars_ba4f3_115 (by decide) ?_
            obtain ⟨g20, hf⟩ := qgd_e hf
            refine B_s F hw g20 (by decide) dJ6_getChars_ba4f3_117 (fun x21 ex21 H locs hw => ?_)
            have hf := qnm_k ex21 hf
            obtain ⟨rfl, rfl⟩ := q_s2 hf
            exact J17 _ _ _ hw (lv_sub hl [0] rfl)
        have hf := hq27
        refine lv_icmp_ge (tgt := 104) hx hb dJ6_getChars_ba4f3_88 rfl (fun c23 => ?_) (fun c23 => ?_)
        · have hf := q_t c23 hf
          obtain ⟨rfl, rfl⟩ := q_s2 hf
          exact J14 _ _ _ hw (lv_sub hl [2, 0, 3] rfl)
        · have hf := q_f c23 hf
          refine lv_aload_n hx hb dJ6_getChars_ba4f3_91 rfl (lv_at hl 2 rfl) ?_
          obtain ⟨v24, ev24⟩ : ∃ y : Int32, y = v8 + (-1 : Int32) := ⟨_, rfl⟩
          refine lv_iinc (v := v24) (lv' := [(5, .int v24), (0, .int v5), (2, .ref qb), (6, .int v1)]) hx hb dJ6_getChars_ba4f3_92 hl (k := 0) rfl (by rw [ev24]; rfl) (Nat.le_of_ble_eq_true rfl) rfl (fun ls hl => ?_)
          have hf := qnm_k ev24 hf
          refine lv_iload hx hb dJ6_getChars_ba4f3_95 (lv_at hl 0 rfl) ?_
          refine va_gets hx hb hT2 hw.2.2.2.1 F.2.2.2.1 (F.2.2.2.2 _ (ws_in _ fl_J6_87)) (fun _ h => h) dJ6_getChars_ba4f3_97 ?_
          refine lv_iload_n hx hb dJ6_getChars_ba4f3_100 rfl (lv_at hl 1 rfl) ?_
          refine lv_ineg hx hb dJ6_getChars_ba4f3_101 ?_
          refine va_tb hx hb hTT hw.2.2.2.1 (qin_vp g9) (v := .int (tabT (-v5).toNatClampNeg)) rfl dJ6_getChars_ba4f3_102 ?_
          obtain ⟨g25, hf⟩ := qgd_e hf
          refine B_s F hw g25 (tabT_b (qin_lt g9)) dJ6_getChars_ba4f3_103 (fun x26 ex26 H locs hw => ?_)
          have hf := qnm_k ex26 hf
          obtain ⟨rfl, rfl⟩ := q_s2 hf
          exact J14 _ _ _ hw (lv_sub hl [2, 0, 3] rfl)
      have L32 : ∀ (m0 : Nat) (v29 : Int32) (v30 : Int32) (x31 : SX) (H : Heap) (locs : List Loc) (ls : Array Slot), Wd G (wB G ad qb cap x31) A s H locs → lv_has ls 7 [(0, .int v29), (2, .ref qb), (5, .int v30), (6, .int v1)] → f_J6_getChars_ba4f3_l22 cap v1 m0 v29 v30 x31 = some (rv, xr) → W p l e (rmk 0 0 0 0) s m args below meth c H locs 0 0 (KQI G below args s A (wB G ad qb cap xr) rv 0 0) (F0 m 22 ls []) := by
        intro m0
        induction m0 with
        | zero => intro v29 v30 x31 H locs ls hw hl hf; cases hf
        | succ mL32 ih32 =>
          intro v29 v30 x31 H locs ls hw hl hf
          unfold f_J6_getChars_ba4f3_l22 at hf
          refine lv_iload_n hx hb dJ6_getChars_ba4f3_22 rfl (lv_at hl 0 rfl) ?_
          refine lv_bipush (v := -100) hx hb dJ6_getChars_ba4f3_23 (by decide) ?_
          refine lv_icmp_gt (tgt := 72) hx hb dJ6_getChars_ba4f3_25 rfl (fun c33 => ?_) (fun c33 => ?_)
          · have hf := q_t c33 hf
            exact E28 v29 v30 x31 _ _ _ hw (lv_sub hl [0, 1, 2, 3] rfl) hf
          · have hf := q_f c33 hf
            refine lv_iload_n hx hb dJ6_getChars_ba4f3_28 rfl (lv_at hl 0 rfl) ?_
            refine lv_bipush (v := 100) hx hb dJ6_getChars_ba4f3_29 (by decide) ?_
            refine lv_idiv hx hb dJ6_getChars_ba4f3_31 (by decide) ?_
            refine lv_topi (fun v34 ev34 => ?_)
            have hf := qnm_k ev34 hf
            refine lv_istore_n (lv' := [(3, .int v34), (0, .int v29), (2, .ref qb), (5, .int v30), (6, .int v1)]) hx hb dJ6_getChars_ba4f3_32 rfl hl (Nat.le_of_ble_eq_true rfl) rfl (fun ls hl => ?_)
            refine lv_iload_n hx hb dJ6_getChars_ba4f3_33 rfl (lv_at hl 0 rfl) ?_
            refine lv_bipush (v := 100) hx hb dJ6_getChars_ba4f3_34 (by decide) ?_
            refine lv_imul hx hb dJ6_getChars_ba4f3_36 ?_
            refine lv_iload_n hx hb dJ6_getChars_ba4f3_37 rfl (lv_at hl 1 rfl) ?_
            refine lv_isub hx hb dJ6_getChars_ba4f3_38 ?_
            refine lv_topi (fun v35 ev35 => ?_)
            have hf := qnm_k ev35 hf
            refine lv_istore (lv' := [(4, .int v35), (3, .int v34), (0, .int v29), (2, .ref qb), (5, .int v30), (6, .int v1)]) hx hb dJ6_getChars_ba4f3_39 hl (Nat.le_of_ble_eq_true rfl) rfl (fun ls hl => ?_)
            refine lv_iload_n hx hb dJ6_getChars_ba4f3_41 rfl (lv_at hl 1 rfl) ?_
            refine lv_istore_n (lv' := [(0, .int v34), (4, .int v35), (3, .int v34), (2, .ref qb), (5, .int v30), (6, .int v1)]) hx hb dJ6_getChars_ba4f3_42 rfl hl (Nat.le_of_ble_eq_true rfl) rfl (fun ls hl => ?_)
            refine lv_aload_n hx hb dJ6_getChars_ba4f3_43 rfl (lv_at hl 3 rfl) ?_
            obtain ⟨v36, ev36⟩ : ∃ y : Int32, y = v30 + (-1 : Int32) := ⟨_, rfl⟩
            refine lv_iinc (v := v36) (lv' := [(5, .int v36), (0, .int v34), (4, .int v35), (3, .int v34), (2, .ref qb), (6, .int v1)]) hx hb dJ6_getChars_ba4f3_44 hl (k := 4) rfl (by rw [ev36]; rfl) (Nat.le_of_ble_eq_true rfl) rfl (fun ls hl => ?_)
            have hf := qnm_k ev36 hf
            refine lv_iload hx hb dJ6_getChars_ba4f3_47 (lv_at hl 0 rfl) ?_
            refine va_gets hx hb hO hw.2.2.2.1 F.2.2.2.1 (F.2.2.2.2 _ (ws_in _ fl_J6_83)) (fun _ h => h) dJ6_getChars_ba4f3_49 ?_
            refine lv_iload hx hb dJ6_getChars_ba4f3_52 (lv_at hl 2 rfl) ?_
            obtain ⟨g37, hf⟩ := qgd_e hf
            refine va_tb hx hb hTO hw.2.2.2.1 (qin_vp g37) (v := .int (tabO v35.toNatClampNeg)) rfl dJ6_getChars_ba4f3_54 ?_
            obtain ⟨g38, hf⟩ := qgd_e hf
            refine B_s F hw g38 (tabO_b _) dJ6_getChars_ba4f3_55 (fun x39 ex39 H locs hw => ?_)
            have hf := qnm_k ex39 hf
            refine lv_aload_n hx hb dJ6_getChars_ba4f3_56 rfl (lv_at hl 4 rfl) ?_
            obtain ⟨v40, ev40⟩ : ∃ y : Int32, y = v36 + (-1 : Int32) := ⟨_, rfl⟩
            refine lv_iinc (v := v40) (lv' := [(5, .int v40), (0, .int v34), (4, .int v35), (3, .int v34), (2, .ref qb), (6, .int v1)]) hx hb dJ6_getChars_ba4f3_57 hl (k := 0) rfl (by rw [ev40]; rfl) (Nat.le_of_ble_eq_true rfl) rfl (fun ls hl => ?_)
            have hf := qnm_k ev40 hf
            refine lv_iload hx hb dJ6_getChars_ba4f3_60 (lv_at hl 0 rfl) ?_
            refine va_gets hx hb hT2 hw.2.2.2.1 F.2.2.2.1 (F.2.2.2.2 _ (ws_in _ fl_J6_87)) (fun _ h => h) dJ6_getChars_ba4f3_62 ?_
            refine lv_iload hx hb dJ6_getChars_ba4f3_65 (lv_at hl 2 rfl) ?_
            refine va_tb hx hb hTT hw.2.2.2.1 (qin_vp g37) (v := .int (tabT v35.toNatClampNeg)) rfl dJ6_getChars_ba4f3_67 ?_
            obtain ⟨g41, hf⟩ := qgd_e hf
            refine B_s F hw g41 (tabT_b (qin_lt g37)) dJ6_getChars_ba4f3_68 (fun x42 ex42 H locs hw => ?_)
            have hf := qnm_k ex42 hf
            refine lv_goto (tgt := 22) hx hb dJ6_getChars_ba4f3_69 rfl ?_
            exact ih32 v34 v40 x42 _ _ _ hw (lv_sub hl [1, 4, 0, 5] rfl) hf
      exact L32 n v3 a2 x _ _ _ hw (lv_sub hl [0, 1, 2, 3] rfl) hf
    have hf := hq45
    refine lv_if_ne (tgt := 22) hx hb dJ6_getChars_ba4f3_16 rfl (fun c43 => ?_) (fun c43 => ?_)
    · have hf := q_f c43 hf
      obtain rfl := q_s hf
      exact J4 _ _ _ hw (lv_sub hl [1, 2, 3, 0] rfl)
    · have hf := q_t c43 hf
      refine lv_iload_n hx hb dJ6_getChars_ba4f3_19 rfl (lv_at hl 1 rfl) ?_
      refine lv_ineg hx hb dJ6_getChars_ba4f3_20 ?_
      refine lv_topi (fun v44 ev44 => ?_)
      have hf := qnm_k ev44 hf
      refine lv_istore_n (lv' := [(0, .int v44), (6, .int v1), (2, .ref qb), (5, .int a2)]) hx hb dJ6_getChars_ba4f3_21 rfl hl (Nat.le_of_ble_eq_true rfl) rfl (fun ls hl => ?_)
      obtain rfl := q_s hf
      exact J4 _ _ _ hw (lv_sub hl [0, 2, 3, 1] rfl)
  have hf := hq47
  refine lv_if_ge (tgt := 11) hx hb dJ6_getChars_ba4f3_4 rfl (fun c46 => ?_) (fun c46 => ?_)
  · have hf := q_t c46 hf
    refine lv_iconst (v := 0) hx hb dJ6_getChars_ba4f3_11 (by decide) ?_
    obtain rfl := q_s hf
    exact J2 _ _ _ hw (lv_sub hl [1, 3, 0] rfl)
  · have hf := q_f c46 hf
    refine lv_iconst (v := 1) hx hb dJ6_getChars_ba4f3_7 (by decide) ?_
    refine lv_goto (tgt := 12) hx hb dJ6_getChars_ba4f3_8 rfl ?_
    obtain rfl := q_s hf
    exact J2 _ _ _ hw (lv_sub hl [1, 3, 0] rfl)
