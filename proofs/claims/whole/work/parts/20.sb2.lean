/-! ===== the StringBuilder, 2: its growth ===== -/
set_option maxHeartbeats 4000000 in
set_option maxRecDepth 100000 in
theorem t_ncap {G : gG} {l : Launch} {ad : Nat → Nat} {qb cap nn : Nat} {x : SX} {a1 r : Int32} (hr1 : f_J8_newLength_cabcc nn (nI cap) ((a1 <<< ((x.1 8 1) &&& 31)) - (nI cap)) ((nI cap) + ((2 : Int32) <<< ((x.1 8 1) &&& 31))) = some r) (hne : ¬ r = 2147483647) : MetPI PrB G l yJ5_newCapacity_0f7a4 cJ5_newCapacity_0f7a4 6 (some .int) 2 0 0 53 [.ref (ad 8), .int a1] (wB G ad qb cap x) (wB G ad qb cap x) (r >>> ((x.1 8 1) &&& 31)) := by
  refine k_ofPI (by decide) (Nat.le_of_ble_eq_true rfl) ?_
  intro p e s m args below meth c ls A F hr hlk hl hw hZ
  have hx := F.1
  have hb := F.2.1
  have hl : lv_has ls 6 [(0, .ref (ad 8)), (1, .int a1)] := hl
  refine lv_aload_n hx hb dJ5_newCapacity_0f7a4_0 rfl (lv_at hl 0 rfl) ?_
  refine B_g_0 F ws_in hw fl_J5_15 dJ5_newCapacity_0f7a4_1 ?_
  refine B_len F hw dJ5_newCapacity_0f7a4_4 ?_
  refine lv_istore_n (lv' := [(2, .int (nI cap)), (0, .ref (ad 8)), (1, .int a1)]) hx hb dJ5_newCapacity_0f7a4_5 rfl hl (Nat.le_of_ble_eq_true rfl) rfl (fun ls hl => ?_)
  refine lv_iload_n hx hb dJ5_newCapacity_0f7a4_6 rfl (lv_at hl 2 rfl) ?_
  refine lv_aload_n hx hb dJ5_newCapacity_0f7a4_7 rfl (lv_at hl 1 rfl) ?_
  refine B_g_1 F ws_in hw fl_J5_22 dJ5_newCapacity_0f7a4_8 ?_
  refine lv_ishl hx hb dJ5_newCapacity_0f7a4_11 ?_
  refine lv_istore_n (lv' := [(3, .int (a1 <<< ((x.1 8 1) &&& 31))), (2, .int (nI cap)), (0, .ref (ad 8)), (1, .int a1)]) hx hb dJ5_newCapacity_0f7a4_12 rfl hl (Nat.le_of_ble_eq_true rfl) rfl (fun ls hl => ?_)
  refine lv_iload_n hx hb dJ5_newCapacity_0f7a4_13 rfl (lv_at hl 0 rfl) ?_
  refine lv_iload_n hx hb dJ5_newCapacity_0f7a4_14 rfl (lv_at hl 1 rfl) ?_
  refine lv_isub hx hb dJ5_newCapacity_0f7a4_15 ?_
  refine lv_istore (lv' := [(4, .int ((a1 <<< ((x.1 8 1) &&& 31)) - (nI cap))), (3, .int (a1 <<< ((x.1 8 1) &&& 31))), (2, .int (nI cap)), (0, .ref (ad 8)), (1, .int a1)]) hx hb dJ5_newCapacity_0f7a4_16 hl (Nat.le_of_ble_eq_true rfl) rfl (fun ls hl => ?_)
  refine lv_iload_n hx hb dJ5_newCapacity_0f7a4_18 rfl (lv_at hl 2 rfl) ?_
  refine lv_iload hx hb dJ5_newCapacity_0f7a4_19 (lv_at hl 0 rfl) ?_
  refine lv_iload_n hx hb dJ5_newCapacity_0f7a4_21 rfl (lv_at hl 2 rfl) ?_
  refine lv_iconst (v := 2) hx hb dJ5_newCapacity_0f7a4_22 (by decide) ?_
  refine lv_aload_n hx hb dJ5_newCapacity_0f7a4_23 rfl (lv_at hl 3 rfl) ?_
  refine B_g_1 F ws_in hw fl_J5_22 dJ5_newCapacity_0f7a4_24 ?_
  refine lv_ishl hx hb dJ5_newCapacity_0f7a4_27 ?_
  refine lv_iadd hx hb dJ5_newCapacity_0f7a4_28 ?_
  refine k_callPi (rest := []) (As := [.int (nI cap), .int ((a1 <<< ((x.1 8 1) &&& 31)) - (nI cap)), .int ((nI cap) + ((2 : Int32) <<< ((x.1 8 1) &&& 31)))]) F ws_in (t_J8_newLength_cabcc hr1) cs_J8_newLength_cabcc ml_J5_114 hw rfl hl.1 rfl (Nat.le_of_ble_eq_true rfl) ⟨(Nat.le_of_ble_eq_true rfl), (Nat.le_of_ble_eq_true rfl)⟩ ⟨(Nat.le_of_ble_eq_true rfl), (Nat.le_of_ble_eq_true rfl)⟩ dJ5_newCapacity_0f7a4_29 (fun H locs hw => ?_)
  refine lv_istore (lv' := [(5, .int r), (4, .int ((a1 <<< ((x.1 8 1) &&& 31)) - (nI cap))), (3, .int (a1 <<< ((x.1 8 1) &&& 31))), (2, .int (nI cap)), (0, .ref (ad 8)), (1, .int a1)]) hx hb dJ5_newCapacity_0f7a4_32 hl (Nat.le_of_ble_eq_true rfl) rfl (fun ls hl => ?_)
  refine lv_iload hx hb dJ5_newCapacity_0f7a4_34 (lv_at hl 0 rfl) ?_
  refine lv_ldc (v := 2147483647) hx hb F.2.2.2.1 (F.2.2.2.2 _ (ws_in _ ct_J5_39)) dJ5_newCapacity_0f7a4_36 ?_
  refine lv_icmp_ne (tgt := 51) hx hb dJ5_newCapacity_0f7a4_38 rfl (fun c9 => ?_) (fun c9 => absurd c9 hne)
  refine lv_iload hx hb dJ5_newCapacity_0f7a4_51 (lv_at hl 0 rfl) ?_
  refine lv_aload_n hx hb dJ5_newCapacity_0f7a4_53 rfl (lv_at hl 4 rfl) ?_
  refine B_g_1 F ws_in hw fl_J5_22 dJ5_newCapacity_0f7a4_54 ?_
  refine lv_ishr hx hb dJ5_newCapacity_0f7a4_57 ?_
  exact k_iret F hr hlk hw (Nat.le_of_ble_eq_true rfl) (Nat.le_of_ble_eq_true rfl) dJ5_newCapacity_0f7a4_58
theorem k_copyb {p : Program} {l : Launch} {e : Env} {R : Room} {s : State} {m : MethodId} {args : Array Value} {below : List Frame} {meth : Method} {c : Code} {H : Heap} {locs : List Loc} {cells slots : Nat} {Q : State → Prop} {cc : ByteArray} {pc : Nat} {ls : Array Slot} {rest : List Value} {nL : Nat} {Ts : List Cond} {own : String} {G : gG} {A : Nat → Prop} {w w' : va_W} {a a0 nX nY : Nat} {f g : Nat → Int32} (F : CallFix p m c cc nL s args Ts own) (hT : ∀ q ∈ BIG, q ∈ Ts) (hw : Wd G w A s H locs) {index : Nat} (hl : Cond.methodLink own index arraycopyName ∈ BIG) (hls : ls.size = nL) (q0 q1 : Nat) (ha0 : w[q0]? = some (a0, .inl (G.2 3, nX, .inl f))) (ha1 : w[q1]? = some (a, .inl (G.2 3, nY, .inl g))) {k : Nat} (hk : k < 2 ^ 31) (hX : k ≤ nX) (hY : k ≤ nY) (hfit : sb_Fit f) (hR : 1 ≤ R.frames ∧ (rest.map fun v => v.category).sum + (nativeFrameWords "java/lang/System" "arraycopy" 5 + 11) ≤ R.locals)
    (hw' : w.set q1 (a, .inl (G.2 3, nY, .inl (va_cpy f g 0 0 k))) = w') (hdg : decode cc pc = .ok (.invokestatic index, 3))
    (kk : ∀ (H1 : Heap) (locs1 : List Loc), Wd G w' A s H1 locs1 → W p l e R s m args below meth c H1 locs1 cells slots Q (F0 m (pc + 3) ls rest)) : W p l e R s m args below meth c H locs cells slots Q (F0 m pc ls (.int (nI k) :: .int 0 :: .ref a :: .int 0 :: .ref a0 :: rest)) := by
  obtain ⟨hK, hP, hD, hS, hA⟩ := hw
  have ek : (nI k).toNatClampNeg = k := nI_clamp hk
  refine va_copyi F.1 F.2.1 (by rw [F.2.2.1, hls]) F.2.2.2.1 (F.2.2.2.2 _ (hT _ hl)) (F.2.2.2.2 _ (hT _ cm_copy.1)) (F.2.2.2.2 _ (hT _ cm_copy.2.1)) (F.2.2.2.2 _ (hT _ cm_copy.2.2)) hK hP hD hS q0 q1 3 3 ha0 ha1 rfl rfl rfl (by decide) (by decide) (nI_pos hk) (by rw [ek, sb_cl0]; omega) (by rw [ek, sb_cl0]; omega) (fun i _ => hfit _) hR.1 hR.2 hdg (fun H1 locs1 h1 h2 h3 => ?_)
  rw [ek, sb_cl0] at h1 h2
  exact kk H1 locs1 ⟨hK, hw' ▸ h1, hw' ▸ h2, h3, hA⟩
set_option maxHeartbeats 4000000 in
set_option maxRecDepth 100000 in
theorem t_cpof {G : gG} {l : Launch} {ad : Nat → Nat} {qb cap N : Nat} {f : Nat → Int32} {a1 : Int32} (hne : ¬ a1 = nI cap) (hn0 : ¬ a1 < 0) (hN : a1.toNatClampNeg = N) (hbytes : N * componentBytes .byte ≤ 536870912) (hmin : (if a1 < nI cap then a1 else nI cap) = nI cap) (hcap : cap < 2 ^ 31) (hcN : cap ≤ N) (hfit : sb_Fit f) : MetPR PrB G l yJ7_copyOf_9075b cJ7_copyOf_9075b 3 (some (.array .byte)) 2 1 N 80 [.ref qb, .int a1] [(qb, .inl (G.2 3, cap, .inl f))] (fun u => [(qb, .inl (G.2 3, cap, .inl f)), (u, .inl (G.2 3, N, .inl (va_cpy f (fun _ => 0) 0 0 cap)))]) (fun u => u) := by
  refine k_ofPR (by decide) (Nat.le_of_ble_eq_true rfl) ?_
  intro p e s m args below meth c ls A F hr hlk hl hw hZ
  have hx := F.1
  have hb := F.2.1
  have hl : lv_has ls 3 [(0, .ref qb), (1, .int a1)] := hl
  refine lv_iload_n hx hb dJ7_copyOf_9075b_0 rfl (lv_at hl 1 rfl) ?_
  refine lv_aload_n hx hb dJ7_copyOf_9075b_1 rfl (lv_at hl 0 rfl) ?_
  refine va_alen hx hb hw.1 hw.2.1 0 3 (x := (cap, .inl f)) rfl rfl (v := nI cap) rfl dJ7_copyOf_9075b_2 ?_
  refine lv_icmp_ne (tgt := 14) hx hb dJ7_copyOf_9075b_3 rfl (fun c9 => ?_) (fun c9 => absurd c9 hne)
  refine lv_iload_n hx hb dJ7_copyOf_9075b_14 rfl (lv_at hl 1 rfl) ?_
  refine k_newa (atype := .byte) F ws_in hw 3 rfl rfl (fun _ h => h) ac_byte (N := N) (a0 := (N, .inl (fun _ => 0))) (fun _ => rfl) hn0 hN hbytes (by show 0 + 1 ≤ 1; omega) (by show 0 + N ≤ N; omega) dJ7_copyOf_9075b_15 (fun u H hw => ?_)
  have hw : Wd G ([(qb, .inl (G.2 3, cap, .inl f)), (u, .inl (G.2 3, N, .inl (fun _ => 0)))] : va_W) A s H _ := hw
  refine lv_astore_n (lv' := [(2, .ref u), (0, .ref qb), (1, .int a1)]) hx hb dJ7_copyOf_9075b_17 rfl hl (Nat.le_of_ble_eq_true rfl) rfl (fun ls hl => ?_)
  refine lv_aload_n hx hb dJ7_copyOf_9075b_18 rfl (lv_at hl 1 rfl) ?_
  refine lv_iconst (v := 0) hx hb dJ7_copyOf_9075b_19 (by decide) ?_
  refine lv_aload_n hx hb dJ7_copyOf_9075b_20 rfl (lv_at hl 0 rfl) ?_
  refine lv_iconst (v := 0) hx hb dJ7_copyOf_9075b_21 (by decide) ?_
  refine lv_aload_n hx hb dJ7_copyOf_9075b_22 rfl (lv_at hl 1 rfl) ?_
  refine va_alen hx hb hw.1 hw.2.1 0 3 (x := (cap, .inl f)) rfl rfl (v := nI cap) rfl dJ7_copyOf_9075b_23 ?_
  refine lv_iload_n hx hb dJ7_copyOf_9075b_24 rfl (lv_at hl 2 rfl) ?_
  refine k_mmin F ws_in ml_J7_304 cm_min hl.1 ⟨(Nat.le_of_ble_eq_true rfl), (Nat.le_of_ble_eq_true rfl), (by show 0 + 1 ≤ 1; omega), (by show 0 + N ≤ N; omega)⟩ dJ7_copyOf_9075b_25 ?_
  rw [hmin]
  refine k_copyb (w' := [(qb, .inl (G.2 3, cap, .inl f)), (u, .inl (G.2 3, N, .inl (va_cpy f (fun _ => 0) 0 0 cap)))]) F ws_in hw ml_J7_150 hl.1 0 1 rfl rfl hcap (Nat.le_refl _) hcN hfit ⟨(Nat.le_of_ble_eq_true rfl), (Nat.le_of_ble_eq_true rfl)⟩ rfl dJ7_copyOf_9075b_28 (fun H locs hw => ?_)
  refine lv_aload_n hx hb dJ7_copyOf_9075b_31 rfl (lv_at hl 0 rfl) ?_
  exact k_rret (ra := fun u => u) F hr (Or.inr ⟨_, rfl⟩) hlk u hw (by omega) (by omega) dJ7_copyOf_9075b_32
set_option maxHeartbeats 4000000 in
set_option maxRecDepth 100000 in
theorem t_ensN {G : gG} {l : Launch} {ad : Nat → Nat} {qb cap mc ms : Nat} {x : SX} {a1 : Int32} (hle : (a1 - ((nI cap) >>> ((x.1 8 1) &&& 31))) ≤ 0) : MetPU PrB G l yJ5_ensureCapacityInternal_d00df cJ5_ensureCapacityInternal_d00df 3 none 4 mc ms 130 [.ref (ad 8), .int a1] (wB G ad qb cap x) (fun _ => (wB G ad qb cap x)) := by
  refine k_ofPU (by decide) (Nat.le_of_ble_eq_true rfl) ?_
  intro p e s m args below meth c ls A F hr hlk hl hw hZ
  have hx := F.1
  have hb := F.2.1
  have hl : lv_has ls 3 [(0, .ref (ad 8)), (1, .int a1)] := hl
  refine lv_aload_n hx hb dJ5_ensureCapacityInternal_d00df_0 rfl (lv_at hl 0 rfl) ?_
  refine B_g_0 F ws_in hw fl_J5_15 dJ5_ensureCapacityInternal_d00df_1 ?_
  refine B_len F hw dJ5_ensureCapacityInternal_d00df_4 ?_
  refine lv_aload_n hx hb dJ5_ensureCapacityInternal_d00df_5 rfl (lv_at hl 0 rfl) ?_
  refine B_g_1 F ws_in hw fl_J5_22 dJ5_ensureCapacityInternal_d00df_6 ?_
  refine lv_ishr hx hb dJ5_ensureCapacityInternal_d00df_9 ?_
  refine lv_istore_n (lv' := [(2, .int ((nI cap) >>> ((x.1 8 1) &&& 31))), (0, .ref (ad 8)), (1, .int a1)]) hx hb dJ5_ensureCapacityInternal_d00df_10 rfl hl (Nat.le_of_ble_eq_true rfl) rfl (fun ls hl => ?_)
  refine lv_iload_n hx hb dJ5_ensureCapacityInternal_d00df_11 rfl (lv_at hl 2 rfl) ?_
  refine lv_iload_n hx hb dJ5_ensureCapacityInternal_d00df_12 rfl (lv_at hl 0 rfl) ?_
  refine lv_isub hx hb dJ5_ensureCapacityInternal_d00df_13 ?_
  refine lv_if_le (tgt := 38) hx hb dJ5_ensureCapacityInternal_d00df_14 rfl (fun c9 => ?_) (fun c9 => absurd hle c9)
  exact k_uret F hr hlk 0 hw (Nat.zero_le _) (Nat.zero_le _) dJ5_ensureCapacityInternal_d00df_38
set_option maxHeartbeats 4000000 in
set_option maxRecDepth 100000 in
theorem t_ensG {G : gG} {l : Launch} {ad : Nat → Nat} {qb cap nn N mc ms : Nat} {x : SX} {a1 r : Int32} (hle : ¬ (a1 - ((nI cap) >>> ((x.1 8 1) &&& 31))) ≤ 0) (hr1 : f_J8_newLength_cabcc nn (nI cap) ((a1 <<< ((x.1 8 1) &&& 31)) - (nI cap)) ((nI cap) + ((2 : Int32) <<< ((x.1 8 1) &&& 31))) = some r) (hne : ¬ r = 2147483647) (hA1 : ¬ ((r >>> ((x.1 8 1) &&& 31)) <<< ((x.1 8 1) &&& 31)) = nI cap) (hA2 : ¬ ((r >>> ((x.1 8 1) &&& 31)) <<< ((x.1 8 1) &&& 31)) < 0) (hA3 : ((r >>> ((x.1 8 1) &&& 31)) <<< ((x.1 8 1) &&& 31)).toNatClampNeg = N) (hbytes : N * componentBytes .byte ≤ 536870912) (hmin : (if ((r >>> ((x.1 8 1) &&& 31)) <<< ((x.1 8 1) &&& 31)) < nI cap then ((r >>> ((x.1 8 1) &&& 31)) <<< ((x.1 8 1) &&& 31)) else nI cap) = nI cap) (hcap : cap < 2 ^ 31) (hcN : cap ≤ N) (hfit : sb_Fit (x.1 9)) (hmc : 1 ≤ mc) (hms : N ≤ ms) : MetPU PrB G l yJ5_ensureCapacityInternal_d00df cJ5_ensureCapacityInternal_d00df 3 none 4 mc ms 130 [.ref (ad 8), .int a1] (wB G ad qb cap x) (fun u => wB G ad u N (sr x 9 (va_cpy (x.1 9) (fun _ => 0) 0 0 cap))) := by
  refine k_ofPU (by decide) (Nat.le_of_ble_eq_true rfl) ?_
  intro p e s m args below meth c ls A F hr hlk hl hw hZ
  have hx := F.1
  have hb := F.2.1
  have hl : lv_has ls 3 [(0, .ref (ad 8)), (1, .int a1)] := hl
  refine lv_aload_n hx hb dJ5_ensureCapacityInternal_d00df_0 rfl (lv_at hl 0 rfl) ?_
  refine B_g_0 F ws_in hw fl_J5_15 dJ5_ensureCapacityInternal_d00df_1 ?_
  refine B_len F hw dJ5_ensureCapacityInternal_d00df_4 ?_
  refine lv_aload_n hx hb dJ5_ensureCapacityInternal_d00df_5 rfl (lv_at hl 0 rfl) ?_
  refine B_g_1 F ws_in hw fl_J5_22 dJ5_ensureCapacityInternal_d00df_6 ?_
  refine lv_ishr hx hb dJ5_ensureCapacityInternal_d00df_9 ?_
  refine lv_istore_n (lv' := [(2, .int ((nI cap) >>> ((x.1 8 1) &&& 31))), (0, .ref (ad 8)), (1, .int a1)]) hx hb dJ5_ensureCapacityInternal_d00df_10 rfl hl (Nat.le_of_ble_eq_true rfl) rfl (fun ls hl => ?_)
  refine lv_iload_n hx hb dJ5_ensureCapacityInternal_d00df_11 rfl (lv_at hl 2 rfl) ?_
  refine lv_iload_n hx hb dJ5_ensureCapacityInternal_d00df_12 rfl (lv_at hl 0 rfl) ?_
  refine lv_isub hx hb dJ5_ensureCapacityInternal_d00df_13 ?_
  refine lv_if_le (tgt := 38) hx hb dJ5_ensureCapacityInternal_d00df_14 rfl (fun c9 => absurd c9 hle) (fun c9 => ?_)
  refine lv_aload_n hx hb dJ5_ensureCapacityInternal_d00df_17 rfl (lv_at hl 1 rfl) ?_
  refine lv_aload_n hx hb dJ5_ensureCapacityInternal_d00df_18 rfl (lv_at hl 1 rfl) ?_
  refine B_g_0 F ws_in hw fl_J5_15 dJ5_ensureCapacityInternal_d00df_19 ?_
  refine lv_aload_n hx hb dJ5_ensureCapacityInternal_d00df_22 rfl (lv_at hl 1 rfl) ?_
  refine lv_iload_n hx hb dJ5_ensureCapacityInternal_d00df_23 rfl (lv_at hl 2 rfl) ?_
  refine k_goI (wl := []) (w1 := (wB G ad qb cap x)) (wr := []) (rest := [.ref qb, .ref (ad 8)]) (va_runU (As := [.int a1]) (rest := [.ref qb, .ref (ad 8)]) F (t_ncap hr1 hne _) (k_cwU (n := 1) F ws_in ml_J5_104 cu_J5_newCapacity_0f7a4 (va_Nw.use rfl hZ.2.2.2.2.2) (by decide) ⟨(Nat.le_of_ble_eq_true rfl), (Nat.le_of_ble_eq_true rfl)⟩) (k_preV (wl := []) (w1 := (wB G ad qb cap x)) (wr := []) prB_ok hw hZ 0 rfl rfl) rfl rfl hl.1 rfl (lv_room (Nat.le_of_ble_eq_true rfl)) dJ5_ensureCapacityInternal_d00df_24 ⟨Nat.zero_le _, Nat.zero_le _⟩) hw (fun H locs hw => ?_)
  have hw : Wd G (wB G ad qb cap x) A s H locs := hw
  refine lv_aload_n hx hb dJ5_ensureCapacityInternal_d00df_27 rfl (lv_at hl 1 rfl) ?_
  refine B_g_1 F ws_in hw fl_J5_22 dJ5_ensureCapacityInternal_d00df_28 ?_
  refine lv_ishl hx hb dJ5_ensureCapacityInternal_d00df_31 ?_
  refine k_goR (wl := [(ad 8, .inr (1, [.ref qb, .int (x.1 8 1), .int (x.1 8 2), .int (x.1 8 3)]))]) (w1 := [(qb, .inl (G.2 3, cap, .inl (x.1 9)))]) (wr := []) (rest := [.ref (ad 8)]) (va_runS (As := [.ref qb, .int ((r >>> ((x.1 8 1) &&& 31)) <<< ((x.1 8 1) &&& 31))]) (rest := [.ref (ad 8)]) F (t_cpof (ad := ad) hA1 hA2 hA3 hbytes hmin hcap hcN hfit _) (k_cwS (rm := rmk 2 1 N 80) F.2.2.2.2 ws_in ml_J5_108 cs_J7_copyOf_9075b ⟨(Nat.le_of_ble_eq_true rfl), (Nat.le_of_ble_eq_true rfl)⟩) (k_preS (wl := [(ad 8, .inr (1, [.ref qb, .int (x.1 8 1), .int (x.1 8 2), .int (x.1 8 3)]))]) (w1 := [(qb, .inl (G.2 3, cap, .inl (x.1 9)))]) (wr := []) prB_ok hw hZ) rfl rfl hl.1 rfl (lv_room (Nat.le_of_ble_eq_true rfl)) dJ5_ensureCapacityInternal_d00df_32 ⟨by show 0 + 0 + 1 ≤ mc; omega, by show 0 + 0 + N ≤ ms; omega⟩) hw (fun u H locs hw => ?_)
  have hw : Wd G ([(ad 8, .inr (1, [.ref qb, .int (x.1 8 1), .int (x.1 8 2), .int (x.1 8 3)])), (qb, .inl (G.2 3, cap, .inl (x.1 9))), (u, .inl (G.2 3, N, .inl (va_cpy (x.1 9) (fun _ => 0) 0 0 cap)))] : va_W) A s H locs := hw
  refine k_put (w' := [(ad 8, .inr (1, [.ref u, .int (x.1 8 1), .int (x.1 8 2), .int (x.1 8 3)])), (qb, .inl (G.2 3, cap, .inl (x.1 9))), (u, .inl (G.2 3, N, .inl (va_cpy (x.1 9) (fun _ => 0) 0 0 cap)))]) (T := TJ4) (C := RJ4) (N := 4) F hw (fun q h => ws_in q (uJ4 q h)) tyJ4 tyJ4_ok nmJ4 0 rfl rfl 0 (by decide) (ws_in _ fl_J5_15) rfl rfl (ty := .array .byte) rfl rfl rfl (Nat.le_of_ble_eq_true rfl) rfl dJ5_ensureCapacityInternal_d00df_35 (fun H locs hw => ?_)
  have hw : Wd G (wB G ad u N (sr x 9 (va_cpy (x.1 9) (fun _ => 0) 0 0 cap))) A s H locs := k_perm hw [0, 2] (by decide) rfl rfl
  exact k_uret F hr hlk u hw (by show 0 + 0 + 1 ≤ mc; omega) (by show 0 + 0 + N ≤ ms; omega) dJ5_ensureCapacityInternal_d00df_38
/-- the state behind ensureCapacityInternal of m at capacity cap -/
def eX (m cap : Nat) (x : SX) : SX := if m ≤ cap then x else sr x 9 (va_cpy (x.1 9) (fun _ => 0) 0 0 cap)
theorem eX_8 {m cap : Nat} {x : SX} : (eX m cap x).1 8 = x.1 8 := by
  unfold eX
  split <;> rfl
def eQ (m cap qb u : Nat) : Nat := if m ≤ cap then qb else u

