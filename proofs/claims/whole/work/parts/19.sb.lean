/-! ===== the StringBuilder: rows on its two cells, then its methods, Latin-1 alone ===== -/
section
variable {p : Program} {l : Launch} {e : Env} {R : Room} {s : State} {m : MethodId} {args : Array Value} {below : List Frame} {meth : Method} {c : Code} {H : Heap} {locs : List Loc} {cells slots : Nat} {Q : State → Prop}
variable {cc : ByteArray} {pc : Nat} {ls : Array Slot} {rest : List Value} {nL : Nat} {Ts : List Cond} {own : String} {G : gG} {A : Nat → Prop} {ad : Nat → Nat} {qb cap : Nat} {x : SX}
theorem B_g_0 (F : CallFix p m c cc nL s args Ts own) (hT : ∀ q ∈ BIG, q ∈ Ts) (hw : Wd G (wB G ad qb cap x) A s H locs) {index : Nat} (hl : Cond.fieldLink own index "java/lang/AbstractStringBuilder" "value" "[B" ∈ BIG) (hdg : decode cc pc = .ok (.getfield index, 3)) (kk : W p l e R s m args below meth c H locs cells slots Q (F0 m (pc + 3) ls (.ref qb :: rest))) : W p l e R s m args below meth c H locs cells slots Q (F0 m pc ls (.ref (ad 8) :: rest)) :=
  k_get (T := TJ4) (C := RJ4) (N := 4) F hw (fun q h => hT q (uJ4 q h)) 0 rfl rfl 0 (by decide) (hT _ hl) rfl rfl hdg kk
theorem B_g_1 (F : CallFix p m c cc nL s args Ts own) (hT : ∀ q ∈ BIG, q ∈ Ts) (hw : Wd G (wB G ad qb cap x) A s H locs) {index : Nat} (hl : Cond.fieldLink own index "java/lang/AbstractStringBuilder" "coder" "B" ∈ BIG) (hdg : decode cc pc = .ok (.getfield index, 3)) (kk : W p l e R s m args below meth c H locs cells slots Q (F0 m (pc + 3) ls (.int (x.1 8 1) :: rest))) : W p l e R s m args below meth c H locs cells slots Q (F0 m pc ls (.ref (ad 8) :: rest)) :=
  k_get (T := TJ4) (C := RJ4) (N := 4) F hw (fun q h => hT q (uJ4 q h)) 0 rfl rfl 1 (by decide) (hT _ hl) rfl rfl hdg kk
theorem B_g_2 (F : CallFix p m c cc nL s args Ts own) (hT : ∀ q ∈ BIG, q ∈ Ts) (hw : Wd G (wB G ad qb cap x) A s H locs) {index : Nat} (hl : Cond.fieldLink own index "java/lang/AbstractStringBuilder" "maybeLatin1" "Z" ∈ BIG) (hdg : decode cc pc = .ok (.getfield index, 3)) (kk : W p l e R s m args below meth c H locs cells slots Q (F0 m (pc + 3) ls (.int (x.1 8 2) :: rest))) : W p l e R s m args below meth c H locs cells slots Q (F0 m pc ls (.ref (ad 8) :: rest)) :=
  k_get (T := TJ4) (C := RJ4) (N := 4) F hw (fun q h => hT q (uJ4 q h)) 0 rfl rfl 2 (by decide) (hT _ hl) rfl rfl hdg kk
theorem B_g_3 (F : CallFix p m c cc nL s args Ts own) (hT : ∀ q ∈ BIG, q ∈ Ts) (hw : Wd G (wB G ad qb cap x) A s H locs) {index : Nat} (hl : Cond.fieldLink own index "java/lang/AbstractStringBuilder" "count" "I" ∈ BIG) (hdg : decode cc pc = .ok (.getfield index, 3)) (kk : W p l e R s m args below meth c H locs cells slots Q (F0 m (pc + 3) ls (.int (x.1 8 3) :: rest))) : W p l e R s m args below meth c H locs cells slots Q (F0 m pc ls (.ref (ad 8) :: rest)) :=
  k_get (T := TJ4) (C := RJ4) (N := 4) F hw (fun q h => hT q (uJ4 q h)) 0 rfl rfl 3 (by decide) (hT _ hl) rfl rfl hdg kk
theorem B_p_3 (F : CallFix p m c cc nL s args Ts own) (hT : ∀ q ∈ BIG, q ∈ Ts) (hw : Wd G (wB G ad qb cap x) A s H locs) {index : Nat} {v : Int32} (hl : Cond.fieldLink own index "java/lang/AbstractStringBuilder" "count" "I" ∈ BIG) (hdg : decode cc pc = .ok (.putfield index, 3)) (kk : ∀ x1 : SX, x1 = si x 8 3 v → ∀ (H1 : Heap) (locs1 : List Loc), Wd G (wB G ad qb cap x1) A s H1 locs1 → W p l e R s m args below meth c H1 locs1 cells slots Q (F0 m (pc + 3) ls rest)) : W p l e R s m args below meth c H locs cells slots Q (F0 m pc ls (.int v :: .ref (ad 8) :: rest)) :=
  k_put (T := TJ4) (C := RJ4) (N := 4) F hw (fun q h => hT q (uJ4 q h)) tyJ4 tyJ4_ok nmJ4 0 rfl rfl 3 (by decide) (hT _ hl) rfl rfl (ty := .int) rfl rfl rfl (Nat.le_of_ble_eq_true rfl) rfl hdg (kk _ rfl)
theorem B_p_2 (F : CallFix p m c cc nL s args Ts own) (hT : ∀ q ∈ BIG, q ∈ Ts) (hw : Wd G (wB G ad qb cap x) A s H locs) {index : Nat} (hl : Cond.fieldLink own index "java/lang/AbstractStringBuilder" "maybeLatin1" "Z" ∈ BIG) (hdg : decode cc pc = .ok (.putfield index, 3)) (kk : ∀ x1 : SX, x1 = si x 8 2 1 → ∀ (H1 : Heap) (locs1 : List Loc), Wd G (wB G ad qb cap x1) A s H1 locs1 → W p l e R s m args below meth c H1 locs1 cells slots Q (F0 m (pc + 3) ls rest)) : W p l e R s m args below meth c H locs cells slots Q (F0 m pc ls (.int 1 :: .ref (ad 8) :: rest)) :=
  k_put (T := TJ4) (C := RJ4) (N := 4) F hw (fun q h => hT q (uJ4 q h)) tyJ4 tyJ4_ok nmJ4 0 rfl rfl 2 (by decide) (hT _ hl) rfl rfl (ty := .boolean) rfl rfl rfl (Nat.le_of_ble_eq_true rfl) rfl hdg (kk _ rfl)
theorem B_l (F : CallFix p m c cc nL s args Ts own) (hw : Wd G (wB G ad qb cap x) A s H locs) {i : Int32} (hin : qin i cap = true) (hdg : decode cc pc = .ok (.baload, 1)) (kk : W p l e R s m args below meth c H locs cells slots Q (F0 m (pc + 1) ls (.int (x.1 9 i.toNatClampNeg) :: rest))) : W p l e R s m args below meth c H locs cells slots Q (F0 m pc ls (.int i :: .ref qb :: rest)) := k_bld F hw 1 rfl hin hdg kk
theorem B_s (F : CallFix p m c cc nL s args Ts own) (hw : Wd G (wB G ad qb cap x) A s H locs) {i v : Int32} (hin : qin i cap = true) (hx : vp_nar .byte v = v) (hdg : decode cc pc = .ok (.bastore, 1)) (kk : ∀ x1 : SX, x1 = si x 9 i.toNatClampNeg v → ∀ (H1 : Heap) (locs1 : List Loc), Wd G (wB G ad qb cap x1) A s H1 locs1 → W p l e R s m args below meth c H1 locs1 cells slots Q (F0 m (pc + 1) ls rest)) : W p l e R s m args below meth c H locs cells slots Q (F0 m pc ls (.int v :: .int i :: .ref qb :: rest)) := k_bst F hw 1 rfl hin hx rfl hdg (kk _ rfl)
theorem B_len (F : CallFix p m c cc nL s args Ts own) (hw : Wd G (wB G ad qb cap x) A s H locs) (hdg : decode cc pc = .ok (.arraylength, 1)) (kk : W p l e R s m args below meth c H locs cells slots Q (F0 m (pc + 1) ls (.int (nI cap) :: rest))) : W p l e R s m args below meth c H locs cells slots Q (F0 m pc ls (.ref qb :: rest)) :=
  va_alen F.1 F.2.1 hw.1 hw.2.1 1 3 (x := (cap, .inl (x.1 9))) rfl rfl (v := nI cap) rfl hdg kk
theorem B_cs (F : CallFix p m c cc nL s args Ts own) (hT : ∀ q ∈ BIG, q ∈ Ts) {w : va_W} (hw : Wd G w A s H locs) (hZ : PrB A s s.heap) {index : Nat} (hl : Cond.fieldLink own index "java/lang/String" "COMPACT_STRINGS" "Z" ∈ BIG) (hdg : decode cc pc = .ok (.getstatic index, 3)) (kk : W p l e R s m args below meth c H locs cells slots Q (F0 m (pc + 3) ls (.int 1 :: rest))) : W p l e R s m args below meth c H locs cells slots Q (F0 m pc ls rest) :=
  va_gets F.1 F.2.1 hZ.1 hw.2.2.2.1 F.2.2.2.1 (F.2.2.2.2 _ (hT _ hl)) (fun _ h => h) hdg kk
end
set_option maxHeartbeats 4000000 in
set_option maxRecDepth 100000 in
theorem t_lat {G : gG} {l : Launch} {ad : Nat → Nat} {qb cap : Nat} {x : SX} (h0 : x.1 8 1 = 0) : MetPI PrB G l yJ5_isLatin1_aae02 cJ5_isLatin1_aae02 1 (some .boolean) 0 0 0 0 [.ref (ad 8)] (wB G ad qb cap x) (wB G ad qb cap x) 1 := by
  refine k_ofPI (by decide) (Nat.le_of_ble_eq_true rfl) ?_
  intro p e s m args below meth c ls A F hr hlk hl hw hZ
  have hx := F.1
  have hb := F.2.1
  have hl : lv_has ls 1 [(0, .ref (ad 8))] := hl
  refine B_cs F ws_in hw hZ fl_J5_18 dJ5_isLatin1_aae02_0 ?_
  refine lv_if_eq (tgt := 17) hx hb dJ5_isLatin1_aae02_3 rfl (fun c9 => absurd c9 (by decide)) (fun c9 => ?_)
  refine lv_aload_n hx hb dJ5_isLatin1_aae02_6 rfl (lv_at hl 0 rfl) ?_
  refine B_g_1 F ws_in hw fl_J5_22 dJ5_isLatin1_aae02_7 ?_
  refine lv_if_ne (tgt := 17) hx hb dJ5_isLatin1_aae02_10 rfl (fun c9 => absurd h0 c9) (fun c9 => ?_)
  refine lv_iconst (v := 1) hx hb dJ5_isLatin1_aae02_13 (by decide) ?_
  refine lv_goto (tgt := 18) hx hb dJ5_isLatin1_aae02_14 rfl ?_
  exact k_zret F hr hlk hw rfl (Nat.le_of_ble_eq_true rfl) (Nat.le_of_ble_eq_true rfl) dJ5_isLatin1_aae02_18
set_option maxHeartbeats 4000000 in
set_option maxRecDepth 100000 in
theorem t_len5 {G : gG} {l : Launch} {ad : Nat → Nat} {qb cap : Nat} {x : SX} : MetPI PrB G l yJ5_length_8abf5 cJ5_length_8abf5 1 (some .int) 0 0 0 0 [.ref (ad 8)] (wB G ad qb cap x) (wB G ad qb cap x) (x.1 8 3) := by
  refine k_ofPI (by decide) (Nat.le_of_ble_eq_true rfl) ?_
  intro p e s m args below meth c ls A F hr hlk hl hw hZ
  have hx := F.1
  have hb := F.2.1
  have hl : lv_has ls 1 [(0, .ref (ad 8))] := hl
  refine lv_aload_n hx hb dJ5_length_8abf5_0 rfl (lv_at hl 0 rfl) ?_
  refine B_g_3 F ws_in hw fl_J5_79 dJ5_length_8abf5_1 ?_
  exact k_iret F hr hlk hw (Nat.le_of_ble_eq_true rfl) (Nat.le_of_ble_eq_true rfl) dJ5_length_8abf5_4
set_option maxHeartbeats 4000000 in
set_option maxRecDepth 100000 in
theorem t_len4 {G : gG} {l : Launch} {ad : Nat → Nat} {qb cap : Nat} {x : SX} : MetPI PrB G l yJ4_length_8abf5 cJ4_length_8abf5 1 (some .int) 1 0 0 30 [.ref (ad 8)] (wB G ad qb cap x) (wB G ad qb cap x) (x.1 8 3) := by
  refine k_ofPI (by decide) (Nat.le_of_ble_eq_true rfl) ?_
  intro p e s m args below meth c ls A F hr hlk hl hw hZ
  have hx := F.1
  have hb := F.2.1
  have hl : lv_has ls 1 [(0, .ref (ad 8))] := hl
  refine lv_aload_n hx hb dJ4_length_8abf5_0 rfl (lv_at hl 0 rfl) ?_
  refine k_goI (wl := []) (w1 := (wB G ad qb cap x)) (wr := []) (rest := []) (va_runSU (As := []) (rest := []) (hw.1.1 1 _ rfl).2 F (t_len5 _) (k_cwSU (n := 0) F ws_in ml_J4_343 sup_J4 cu_J5_length_8abf5 (by decide) ⟨(Nat.le_of_ble_eq_true rfl), (Nat.le_of_ble_eq_true rfl)⟩) (k_preV (wl := []) (w1 := (wB G ad qb cap x)) (wr := []) prB_ok hw hZ 0 rfl rfl) rfl rfl hl.1 rfl (lv_room (Nat.le_of_ble_eq_true rfl)) dJ4_length_8abf5_1 ⟨(Nat.le_of_ble_eq_true rfl), (Nat.le_of_ble_eq_true rfl)⟩) hw (fun H locs hw => ?_)
  have hw : Wd G (wB G ad qb cap x) A s H locs := hw
  exact k_iret F hr hlk hw (Nat.le_of_ble_eq_true rfl) (Nat.le_of_ble_eq_true rfl) dJ4_length_8abf5_4
set_option maxHeartbeats 4000000 in
set_option maxRecDepth 100000 in
theorem t_chkN {G : gG} {l : Launch} {ad : Nat → Nat} {w : va_W} {i k : Int32} (g0 : 0 ≤ i) (g1 : i < k) : MetPI PrB G l yJ3_checkIndex_8e157 cJ3_checkIndex_8e157 3 (some .int) 0 0 0 0 [.int i, .int k, .null] w w i := by
  refine k_ofPI (by decide) (Nat.le_of_ble_eq_true rfl) ?_
  intro p e s m args below meth c ls A F hr hlk hl hw hZ
  have hx := F.1
  have hb := F.2.1
  have hl : lv_has ls 3 [(0, .int i), (1, .int k), (2, .null)] := hl
  refine lv_iload_n hx hb dJ3_checkIndex_8e157_0 rfl (lv_at hl 0 rfl) ?_
  refine lv_if_lt (tgt := 9) hx hb dJ3_checkIndex_8e157_1 rfl (fun c9 => absurd c9 (Int32.not_lt.mpr g0)) (fun c9 => ?_)
  refine lv_iload_n hx hb dJ3_checkIndex_8e157_4 rfl (lv_at hl 0 rfl) ?_
  refine lv_iload_n hx hb dJ3_checkIndex_8e157_5 rfl (lv_at hl 1 rfl) ?_
  refine lv_icmp_lt (tgt := 16) hx hb dJ3_checkIndex_8e157_6 rfl (fun c9 => ?_) (fun c9 => absurd g1 c9)
  refine lv_iload_n hx hb dJ3_checkIndex_8e157_16 rfl (lv_at hl 0 rfl) ?_
  exact k_iret F hr hlk hw (Nat.le_of_ble_eq_true rfl) (Nat.le_of_ble_eq_true rfl) dJ3_checkIndex_8e157_17
set_option maxHeartbeats 4000000 in
set_option maxRecDepth 100000 in
theorem t_chkR {G : gG} {l : Launch} {ad : Nat → Nat} {w : va_W} {i k : Int32} {t9 : Nat} (g0 : 0 ≤ i) (g1 : i < k) : MetPI PrB G l yJ3_checkIndex_8e157 cJ3_checkIndex_8e157 3 (some .int) 0 0 0 0 [.int i, .int k, .ref t9] w w i := by
  refine k_ofPI (by decide) (Nat.le_of_ble_eq_true rfl) ?_
  intro p e s m args below meth c ls A F hr hlk hl hw hZ
  have hx := F.1
  have hb := F.2.1
  have hl : lv_has ls 3 [(0, .int i), (1, .int k), (2, .ref t9)] := hl
  refine lv_iload_n hx hb dJ3_checkIndex_8e157_0 rfl (lv_at hl 0 rfl) ?_
  refine lv_if_lt (tgt := 9) hx hb dJ3_checkIndex_8e157_1 rfl (fun c9 => absurd c9 (Int32.not_lt.mpr g0)) (fun c9 => ?_)
  refine lv_iload_n hx hb dJ3_checkIndex_8e157_4 rfl (lv_at hl 0 rfl) ?_
  refine lv_iload_n hx hb dJ3_checkIndex_8e157_5 rfl (lv_at hl 1 rfl) ?_
  refine lv_icmp_lt (tgt := 16) hx hb dJ3_checkIndex_8e157_6 rfl (fun c9 => ?_) (fun c9 => absurd g1 c9)
  refine lv_iload_n hx hb dJ3_checkIndex_8e157_16 rfl (lv_at hl 0 rfl) ?_
  exact k_iret F hr hlk hw (Nat.le_of_ble_eq_true rfl) (Nat.le_of_ble_eq_true rfl) dJ3_checkIndex_8e157_17
set_option maxHeartbeats 4000000 in
set_option maxRecDepth 100000 in
theorem t_chk {G : gG} {l : Launch} {ad : Nat → Nat} {w : va_W} {i k : Int32} (g0 : 0 ≤ i) (g1 : i < k) : MetPU PrB G l yJ0_checkIndex_df160 cJ0_checkIndex_df160 2 none 1 0 0 40 [.int i, .int k] w (fun _ => w) := by
  refine k_ofPU (by decide) (Nat.le_of_ble_eq_true rfl) ?_
  intro p e s m args below meth c ls A F hr hlk hl hw hZ
  have hx := F.1
  have hb := F.2.1
  have hl : lv_has ls 2 [(0, .int i), (1, .int k)] := hl
  refine lv_iload_n hx hb dJ0_checkIndex_df160_0 rfl (lv_at hl 0 rfl) ?_
  refine lv_iload_n hx hb dJ0_checkIndex_df160_1 rfl (lv_at hl 1 rfl) ?_
  rcases hZ.2.1 with hq | ⟨t9, hq⟩
  · refine va_gets hx hb hq hw.2.2.2.1 F.2.2.2.1 (F.2.2.2.2 _ (ws_in _ fl_J0_1053)) (fun _ h => h) dJ0_checkIndex_df160_2 ?_
    refine k_goI (wl := []) (w1 := w) (wr := []) (rest := []) (va_runS (As := [.int i, .int k, .null]) (rest := []) F (t_chkN (ad := ad) g0 g1 _) (k_cwS (rm := rmk 0 0 0 0) F.2.2.2.2 ws_in ml_J0_1059 cs_J3_checkIndex_8e157 ⟨(Nat.le_of_ble_eq_true rfl), (Nat.le_of_ble_eq_true rfl)⟩) (k_preS (wl := []) (w1 := w) (wr := []) prB_ok (by rw [List.append_nil]; exact hw) hZ) rfl rfl hl.1 rfl (lv_room (Nat.le_of_ble_eq_true rfl)) dJ0_checkIndex_df160_5 ⟨(Nat.le_of_ble_eq_true rfl), (Nat.le_of_ble_eq_true rfl)⟩) (by rw [List.append_nil]; exact hw) (fun H locs hw => ?_)
    refine lv_pop hx hb dJ0_checkIndex_df160_8 rfl ?_
    have hw : Wd G w A s H locs := by have h := hw; rw [List.append_nil] at h; exact h
    exact k_uret F hr hlk 0 hw (Nat.le_of_ble_eq_true rfl) (Nat.le_of_ble_eq_true rfl) dJ0_checkIndex_df160_9
  · refine va_gets hx hb hq hw.2.2.2.1 F.2.2.2.1 (F.2.2.2.2 _ (ws_in _ fl_J0_1053)) (fun _ h => h) dJ0_checkIndex_df160_2 ?_
    refine k_goI (wl := []) (w1 := w) (wr := []) (rest := []) (va_runS (As := [.int i, .int k, .ref t9]) (rest := []) F (t_chkR (ad := ad) g0 g1 _) (k_cwS (rm := rmk 0 0 0 0) F.2.2.2.2 ws_in ml_J0_1059 cs_J3_checkIndex_8e157 ⟨(Nat.le_of_ble_eq_true rfl), (Nat.le_of_ble_eq_true rfl)⟩) (k_preS (wl := []) (w1 := w) (wr := []) prB_ok (by rw [List.append_nil]; exact hw) hZ) rfl rfl hl.1 rfl (lv_room (Nat.le_of_ble_eq_true rfl)) dJ0_checkIndex_df160_5 ⟨(Nat.le_of_ble_eq_true rfl), (Nat.le_of_ble_eq_true rfl)⟩) (by rw [List.append_nil]; exact hw) (fun H locs hw => ?_)
    refine lv_pop hx hb dJ0_checkIndex_df160_8 rfl ?_
    have hw : Wd G w A s H locs := by have h := hw; rw [List.append_nil] at h; exact h
    exact k_uret F hr hlk 0 hw (Nat.le_of_ble_eq_true rfl) (Nat.le_of_ble_eq_true rfl) dJ0_checkIndex_df160_9
set_option maxHeartbeats 4000000 in
set_option maxRecDepth 100000 in
theorem t_chr5 {G : gG} {l : Launch} {ad : Nat → Nat} {qb cap : Nat} {x : SX} {i : Int32} (h0 : x.1 8 1 = 0) (g0 : 0 ≤ i) (g1 : i < (if ((nI cap) >>> ((x.1 8 1) &&& 31)) < (x.1 8 3) then ((nI cap) >>> ((x.1 8 1) &&& 31)) else (x.1 8 3))) (g2 : qin i cap = true) : MetPI PrB G l yJ5_charAt_5068e cJ5_charAt_5068e 5 (some .char) 2 0 0 70 [.ref (ad 8), .int i] (wB G ad qb cap x) (wB G ad qb cap x) ((((x.1 9 i.toNatClampNeg) &&& (255 : Int32)).toUInt32 % 65536).toInt32) := by
  refine k_ofPI (by decide) (Nat.le_of_ble_eq_true rfl) ?_
  intro p e s m args below meth c ls A F hr hlk hl hw hZ
  have hx := F.1
  have hb := F.2.1
  have hl : lv_has ls 5 [(0, .ref (ad 8)), (1, .int i)] := hl
  refine lv_aload_n hx hb dJ5_charAt_5068e_0 rfl (lv_at hl 0 rfl) ?_
  refine B_g_1 F ws_in hw fl_J5_22 dJ5_charAt_5068e_1 ?_
  refine lv_istore_n (lv' := [(2, .int (x.1 8 1)), (0, .ref (ad 8)), (1, .int i)]) hx hb dJ5_charAt_5068e_4 rfl hl (Nat.le_of_ble_eq_true rfl) rfl (fun ls hl => ?_)
  refine lv_aload_n hx hb dJ5_charAt_5068e_5 rfl (lv_at hl 1 rfl) ?_
  refine B_g_0 F ws_in hw fl_J5_15 dJ5_charAt_5068e_6 ?_
  refine lv_astore_n (lv' := [(3, .ref qb), (2, .int (x.1 8 1)), (0, .ref (ad 8)), (1, .int i)]) hx hb dJ5_charAt_5068e_9 rfl hl (Nat.le_of_ble_eq_true rfl) rfl (fun ls hl => ?_)
  refine lv_aload_n hx hb dJ5_charAt_5068e_10 rfl (lv_at hl 2 rfl) ?_
  refine B_g_3 F ws_in hw fl_J5_79 dJ5_charAt_5068e_11 ?_
  refine lv_aload_n hx hb dJ5_charAt_5068e_14 rfl (lv_at hl 0 rfl) ?_
  refine B_len F hw dJ5_charAt_5068e_15 ?_
  refine lv_iload_n hx hb dJ5_charAt_5068e_16 rfl (lv_at hl 1 rfl) ?_
  refine lv_ishr hx hb dJ5_charAt_5068e_17 ?_
  refine k_mmin F ws_in ml_J5_138 cm_min hl.1 ⟨(Nat.le_of_ble_eq_true rfl), (Nat.le_of_ble_eq_true rfl), (Nat.le_of_ble_eq_true rfl), (Nat.le_of_ble_eq_true rfl)⟩ dJ5_charAt_5068e_18 ?_
  refine lv_istore (lv' := [(4, .int (if ((nI cap) >>> ((x.1 8 1) &&& 31)) < (x.1 8 3) then ((nI cap) >>> ((x.1 8 1) &&& 31)) else (x.1 8 3))), (3, .ref qb), (2, .int (x.1 8 1)), (0, .ref (ad 8)), (1, .int i)]) hx hb dJ5_charAt_5068e_21 hl (Nat.le_of_ble_eq_true rfl) rfl (fun ls hl => ?_)
  refine lv_iload_n hx hb dJ5_charAt_5068e_23 rfl (lv_at hl 4 rfl) ?_
  refine lv_iload hx hb dJ5_charAt_5068e_24 (lv_at hl 0 rfl) ?_
  refine k_goU (wl := []) (w1 := (wB G ad qb cap x)) (wr := []) (rest := []) (va_runS (As := [.int i, .int (if ((nI cap) >>> ((x.1 8 1) &&& 31)) < (x.1 8 3) then ((nI cap) >>> ((x.1 8 1) &&& 31)) else (x.1 8 3))]) (rest := []) F (t_chk (ad := ad) (w := (wB G ad qb cap x)) g0 g1 _) (k_cwS (rm := rmk 1 0 0 40) F.2.2.2.2 ws_in ml_J5_144 cs_J0_checkIndex_df160 ⟨(Nat.le_of_ble_eq_true rfl), (Nat.le_of_ble_eq_true rfl)⟩) (k_preS (wl := []) (w1 := (wB G ad qb cap x)) (wr := []) prB_ok hw hZ) rfl rfl hl.1 rfl (lv_room (Nat.le_of_ble_eq_true rfl)) dJ5_charAt_5068e_26 ⟨(Nat.le_of_ble_eq_true rfl), (Nat.le_of_ble_eq_true rfl)⟩) hw (fun _ H locs hw => ?_)
  have hw : Wd G (wB G ad qb cap x) A s H locs := hw
  refine lv_iload_n hx hb dJ5_charAt_5068e_29 rfl (lv_at hl 2 rfl) ?_
  refine lv_if_ne (tgt := 42) hx hb dJ5_charAt_5068e_30 rfl (fun c9 => absurd h0 c9) (fun c9 => ?_)
  refine lv_aload_n hx hb dJ5_charAt_5068e_33 rfl (lv_at hl 1 rfl) ?_
  refine lv_iload_n hx hb dJ5_charAt_5068e_34 rfl (lv_at hl 4 rfl) ?_
  refine B_l F hw g2 dJ5_charAt_5068e_35 ?_
  refine lv_sipush (v := 255) hx hb dJ5_charAt_5068e_36 (by decide) ?_
  refine lv_iand hx hb dJ5_charAt_5068e_39 ?_
  refine lv_i2c hx hb dJ5_charAt_5068e_40 rfl ?_
  exact k_zret F hr hlk hw (pk_nc _) (Nat.le_of_ble_eq_true rfl) (Nat.le_of_ble_eq_true rfl) dJ5_charAt_5068e_41
set_option maxHeartbeats 4000000 in
set_option maxRecDepth 100000 in
theorem t_chr4 {G : gG} {l : Launch} {ad : Nat → Nat} {qb cap : Nat} {x : SX} {i : Int32} (h0 : x.1 8 1 = 0) (g0 : 0 ≤ i) (g1 : i < (if ((nI cap) >>> ((x.1 8 1) &&& 31)) < (x.1 8 3) then ((nI cap) >>> ((x.1 8 1) &&& 31)) else (x.1 8 3))) (g2 : qin i cap = true) : MetPI PrB G l yJ4_charAt_5068e cJ4_charAt_5068e 2 (some .char) 3 0 0 100 [.ref (ad 8), .int i] (wB G ad qb cap x) (wB G ad qb cap x) ((((x.1 9 i.toNatClampNeg) &&& (255 : Int32)).toUInt32 % 65536).toInt32) := by
  refine k_ofPI (by decide) (Nat.le_of_ble_eq_true rfl) ?_
  intro p e s m args below meth c ls A F hr hlk hl hw hZ
  have hx := F.1
  have hb := F.2.1
  have hl : lv_has ls 2 [(0, .ref (ad 8)), (1, .int i)] := hl
  refine lv_aload_n hx hb dJ4_charAt_5068e_0 rfl (lv_at hl 0 rfl) ?_
  refine lv_iload_n hx hb dJ4_charAt_5068e_1 rfl (lv_at hl 1 rfl) ?_
  refine k_goI (wl := []) (w1 := (wB G ad qb cap x)) (wr := []) (rest := []) (va_runSU (As := [.int i]) (rest := []) (hw.1.1 1 _ rfl).2 F (t_chr5 h0 g0 g1 g2 _) (k_cwSU (n := 1) F ws_in ml_J4_329 sup_J4 cu_J5_charAt_5068e (by decide) ⟨(Nat.le_of_ble_eq_true rfl), (Nat.le_of_ble_eq_true rfl)⟩) (k_preV (wl := []) (w1 := (wB G ad qb cap x)) (wr := []) prB_ok hw hZ 0 rfl rfl) rfl rfl hl.1 rfl (lv_room (Nat.le_of_ble_eq_true rfl)) dJ4_charAt_5068e_2 ⟨(Nat.le_of_ble_eq_true rfl), (Nat.le_of_ble_eq_true rfl)⟩) hw (fun H locs hw => ?_)
  have hw : Wd G (wB G ad qb cap x) A s H locs := hw
  exact k_zret F hr hlk hw (pk_nc _) (Nat.le_of_ble_eq_true rfl) (Nat.le_of_ble_eq_true rfl) dJ4_charAt_5068e_5
