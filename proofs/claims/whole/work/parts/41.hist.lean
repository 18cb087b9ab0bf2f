/-! ===== writeRun, writeHistory ===== -/
theorem k_left {G : gG} {a b : va_W} {A : Nat → Prop} {s : State} {H : Heap} {locs : List Loc} (hw : Wd G (a ++ b) A s H locs) : Wd G a A s H locs := ⟨hw.1, k_Pl hw.2.1, k_Dl hw.2.2.1, hw.2.2.2.1, hw.2.2.2.2⟩
section
variable {p : Program} {l : Launch} {e : Env} {R : Room} {s : State} {m : MethodId} {args : Array Value} {below : List Frame} {meth : Method} {c : Code} {H : Heap} {locs : List Loc} {cells slots : Nat} {Q : State → Prop}
variable {cc : ByteArray} {pc : Nat} {ls : Array Slot} {rest : List Value} {nL : Nat} {Ts : List Cond} {own : String} {G : gG} {A : Nat → Prop} {w w' : va_W} {a n : Nat}
theorem k_pvI {Pr : (Nat → Prop) → State → Heap → Prop} (hPr : PrOk Pr) (F : CallFix p m c cc nL s args Ts own) (hT : ∀ q ∈ BIG, q ∈ Ts) {y : MethodName} {bytes : ByteArray} {mL : Nat} {ret : Option FieldType} {fr mc ms lo : Nat} {As : List Value} {index nn : Nat} {b : Nat} {ci : Nat} {fs : List Value} {T : u_T} {N : Nat} {w1 wl wr : va_W} {st0 : List Value} {w2 : va_W} {rv : Int32} (hM : MetPI Pr G l y bytes mL ret fr mc ms lo (.ref b :: As) w1 w2 rv) (hc : CalV y bytes mL ret nn) (hl : Cond.methodLink own index y ∈ BIG) (hZ : Pr A s s.heap) (hw : Wd G (wl ++ (w1 ++ wr)) A s H locs) (q0 : Nat) (he : w1[q0]? = some (b, .inr (ci, fs))) (hci : vwCl[ci]? = some (y.cls, T, N)) (hn : As.length = nn) (hls : ls.size = nL) (hst : st0 = As.reverse ++ .ref b :: rest) (hcat : (rest.map fun v => v.category).sum ≤ 8) (hR : fr + 1 ≤ R.frames ∧ 8 + (mL + 11) + lo ≤ R.locals) (hf : cells + mc ≤ R.cells ∧ slots + ms ≤ R.slots) (hdg : decode cc pc = .ok (.invokevirtual index, 3))
    (kk : ∀ (H1 : Heap) (locs1 : List Loc), Wd G (wl ++ (w2 ++ wr)) A s H1 locs1 → W p l e R s m args below meth c H1 locs1 (cells + mc) (slots + ms) Q (F0 m (pc + 3) ls (.int rv :: rest))) : W p l e R s m args below meth c H locs cells slots Q (F0 m pc ls st0) := by
  subst hst
  exact k_goI (va_runV (As := As) (rest := rest) F (hM H.size) (k_cwV (rm := rmk fr mc ms lo) F.2.2.2.2 hT hl hc hR) (k_preV hPr hw hZ q0 he hci) rfl hn hls rfl (lv_room hcat) hdg hf) hw kk
theorem k_pvIU {Pr : (Nat → Prop) → State → Heap → Prop} (hPr : PrOk Pr) (F : CallFix p m c cc nL s args Ts own) (hT : ∀ q ∈ BIG, q ∈ Ts) {y : MethodName} {bytes : ByteArray} {mL : Nat} {ret : Option FieldType} {fr mc ms lo : Nat} {As : List Value} {index nn : Nat} {b : Nat} {ci : Nat} {fs : List Value} {T : u_T} {N : Nat} {w1 wl wr : va_W} {st0 : List Value} {w2 : Nat → va_W} {rv : Int32} (hM : MetPIU Pr G l y bytes mL ret fr mc ms lo (.ref b :: As) w1 w2 rv) (hc : CalV y bytes mL ret nn) (hl : Cond.methodLink own index y ∈ BIG) (hZ : Pr A s s.heap) (hw : Wd G (wl ++ (w1 ++ wr)) A s H locs) (q0 : Nat) (he : w1[q0]? = some (b, .inr (ci, fs))) (hci : vwCl[ci]? = some (y.cls, T, N)) (hn : As.length = nn) (hls : ls.size = nL) (hst : st0 = As.reverse ++ .ref b :: rest) (hcat : (rest.map fun v => v.category).sum ≤ 8) (hR : fr + 1 ≤ R.frames ∧ 8 + (mL + 11) + lo ≤ R.locals) (hf : cells + mc ≤ R.cells ∧ slots + ms ≤ R.slots) (hdg : decode cc pc = .ok (.invokevirtual index, 3))
    (kk : ∀ (u : Nat) (H1 : Heap) (locs1 : List Loc), Wd G (wl ++ (w2 u ++ wr)) A s H1 locs1 → W p l e R s m args below meth c H1 locs1 (cells + mc) (slots + ms) Q (F0 m (pc + 3) ls (.int rv :: rest))) : W p l e R s m args below meth c H locs cells slots Q (F0 m pc ls st0) := by
  subst hst
  exact k_goIU (va_runV (As := As) (rest := rest) F (hM H.size) (k_cwV (rm := rmk fr mc ms lo) F.2.2.2.2 hT hl hc hR) (k_preV hPr hw hZ q0 he hci) rfl hn hls rfl (lv_room hcat) hdg hf) hw kk
theorem k_pvU {Pr : (Nat → Prop) → State → Heap → Prop} (hPr : PrOk Pr) (F : CallFix p m c cc nL s args Ts own) (hT : ∀ q ∈ BIG, q ∈ Ts) {y : MethodName} {bytes : ByteArray} {mL : Nat} {ret : Option FieldType} {fr mc ms lo : Nat} {As : List Value} {index nn : Nat} {b : Nat} {ci : Nat} {fs : List Value} {T : u_T} {N : Nat} {w1 wl wr : va_W} {st0 : List Value} {w2 : Nat → va_W} (hM : MetPU Pr G l y bytes mL ret fr mc ms lo (.ref b :: As) w1 w2) (hc : CalV y bytes mL ret nn) (hl : Cond.methodLink own index y ∈ BIG) (hZ : Pr A s s.heap) (hw : Wd G (wl ++ (w1 ++ wr)) A s H locs) (q0 : Nat) (he : w1[q0]? = some (b, .inr (ci, fs))) (hci : vwCl[ci]? = some (y.cls, T, N)) (hn : As.length = nn) (hls : ls.size = nL) (hst : st0 = As.reverse ++ .ref b :: rest) (hcat : (rest.map fun v => v.category).sum ≤ 8) (hR : fr + 1 ≤ R.frames ∧ 8 + (mL + 11) + lo ≤ R.locals) (hf : cells + mc ≤ R.cells ∧ slots + ms ≤ R.slots) (hdg : decode cc pc = .ok (.invokevirtual index, 3))
    (kk : ∀ (u : Nat) (H1 : Heap) (locs1 : List Loc), Wd G (wl ++ (w2 u ++ wr)) A s H1 locs1 → W p l e R s m args below meth c H1 locs1 (cells + mc) (slots + ms) Q (F0 m (pc + 3) ls rest)) : W p l e R s m args below meth c H locs cells slots Q (F0 m pc ls st0) := by
  subst hst
  exact k_goU (va_runV (As := As) (rest := rest) F (hM H.size) (k_cwV (rm := rmk fr mc ms lo) F.2.2.2.2 hT hl hc hR) (k_preV hPr hw hZ q0 he hci) rfl hn hls rfl (lv_room hcat) hdg hf) hw kk
theorem k_pvR {Pr : (Nat → Prop) → State → Heap → Prop} (hPr : PrOk Pr) (F : CallFix p m c cc nL s args Ts own) (hT : ∀ q ∈ BIG, q ∈ Ts) {y : MethodName} {bytes : ByteArray} {mL : Nat} {ret : Option FieldType} {fr mc ms lo : Nat} {As : List Value} {index nn : Nat} {b : Nat} {ci : Nat} {fs : List Value} {T : u_T} {N : Nat} {w1 wl wr : va_W} {st0 : List Value} {w2 : Nat → va_W} {ra : Nat → Nat} (hM : MetPR Pr G l y bytes mL ret fr mc ms lo (.ref b :: As) w1 w2 ra) (hc : CalV y bytes mL ret nn) (hl : Cond.methodLink own index y ∈ BIG) (hZ : Pr A s s.heap) (hw : Wd G (wl ++ (w1 ++ wr)) A s H locs) (q0 : Nat) (he : w1[q0]? = some (b, .inr (ci, fs))) (hci : vwCl[ci]? = some (y.cls, T, N)) (hn : As.length = nn) (hls : ls.size = nL) (hst : st0 = As.reverse ++ .ref b :: rest) (hcat : (rest.map fun v => v.category).sum ≤ 8) (hR : fr + 1 ≤ R.frames ∧ 8 + (mL + 11) + lo ≤ R.locals) (hf : cells + mc ≤ R.cells ∧ slots + ms ≤ R.slots) (hdg : decode cc pc = .ok (.invokevirtual index, 3))
    (kk : ∀ (u : Nat) (H1 : Heap) (locs1 : List Loc), Wd G (wl ++ (w2 u ++ wr)) A s H1 locs1 → W p l e R s m args below meth c H1 locs1 (cells + mc) (slots + ms) Q (F0 m (pc + 3) ls (.ref (ra u) :: rest))) : W p l e R s m args below meth c H locs cells slots Q (F0 m pc ls st0) := by
  subst hst
  exact k_goR (va_runV (As := As) (rest := rest) F (hM H.size) (k_cwV (rm := rmk fr mc ms lo) F.2.2.2.2 hT hl hc hR) (k_preV hPr hw hZ q0 he hci) rfl hn hls rfl (lv_room hcat) hdg hf) hw kk
theorem k_blk (F : CallFix p m c cc nL s args Ts own) (hT : ∀ q ∈ BIG, q ∈ Ts) {ad : Nat → Nat} {x : SX} {r : va_W} (hw : Wd G (wX G ad x ++ r) A s H locs) {index : Nat} (hl : Cond.fieldLink own index "TermReckoner" "output" "Ljava/lang/StringBuilder;" ∈ BIG) (hdg : decode cc pc = .ok (.getfield index, 3)) (kk : W p l e R s m args below meth c H locs cells slots Q (F0 m (pc + 3) ls (.ref (ad 8) :: rest))) : W p l e R s m args below meth c H locs cells slots Q (F0 m pc ls (.ref (ad 0) :: rest)) :=
  X_g_0_7 F hT (k_left hw) hl hdg kk
end
/-- a run of days, told -/
def wrc (a : Int32) : Nat := if a = 2 then 99 else if a = 1 then 108 else 102
def wr1 (t : Nat → Nat) (k : Nat) : Nat → Nat := if 0 < k then sb_cat t k (fun _ => 32) else t
def wk1 (k : Nat) : Nat := if 0 < k then k + 1 else k
def wrT (t : Nat → Nat) (k : Nat) (a : Int32) (d : Nat) : Nat → Nat := sb_cat (sb_cat (wr1 t k) (wk1 k) fun _ => wrc a) (wk1 k + 1) (sb_dec d)
def wrK (k d : Nat) : Nat := wk1 k + 1 + sb_dg d
theorem wrc_lt (a : Int32) : wrc a < 256 := by
  unfold wrc
  split
  · decide
  · split <;> decide
set_option maxHeartbeats 4000000 in
set_option maxRecDepth 100000 in
theorem h_wr {cap k d : Nat} {x y : SX} {t : Nat → Nat} {a1 : Int32} (h : OkT cap y t k) (hk : k + 12 ≤ 2 ^ 16) (hd : d < 2 ^ 31) : ∃ (cap3 : Nat) (y3 : SX), OkT cap3 y3 (wrT t k a1 d) (wrK k d) ∧ cap ≤ cap3 ∧ ∀ (G : gG) (l : Launch) (ad : Nat → Nat) (qb : Nat), MetPU PrB G l yX6_writeRun cX6_writeRun 4 none 7 (cap3 - cap) (2 * (cap3 - cap)) 220 [.ref (ad 0), .int a1, .int (nI d)] (wX G ad x ++ (wB G ad qb cap y ++ [])) (fun u => wX G ad x ++ (wB G ad u cap3 y3 ++ [])) := by
  have A : ∃ (cap1 : Nat) (y1 : SX), OkT cap1 y1 (wr1 t k) (wk1 k) ∧ cap ≤ cap1 ∧ (k = 0 → cap1 = cap ∧ y1 = y) ∧ (0 < k → ∀ (G : gG) (l : Launch) (ad : Nat → Nat) (qb : Nat), MetPR PrB G l yJ4_append_cf468 cJ4_append_cf468 2 (some (.object "java/lang/StringBuilder")) 6 (cap1 - cap) (2 * (cap1 - cap)) 190 [.ref (ad 8), .int (nI 32)] (wB G ad qb cap y) (fun u => wB G ad (eQ (k + 1) cap qb u) cap1 y1) (fun _ => ad 8)) := by
    by_cases h0 : 0 < k
    · obtain ⟨g1, g2, g3⟩ := okt_C (c := 32) h (by omega) (by decide)
      refine ⟨_, _, ?_, g2, fun q => by omega, fun _ => g3⟩
      rw [wr1, wk1, if_pos h0, if_pos h0]
      exact g1
    · refine ⟨cap, y, ?_, Nat.le_refl _, fun _ => ⟨rfl, rfl⟩, fun q => absurd q h0⟩
      rw [wr1, wk1, if_neg h0, if_neg h0]
      exact h
  obtain ⟨cap1, y1, h1, le1, C0, C1⟩ := A
  have hk1 : wk1 k ≤ k + 1 := by unfold wk1; split <;> omega
  generalize ek : wk1 k = k1 at *
  obtain ⟨h2, le2, C2⟩ := okt_C (c := wrc a1) h1 (by omega) (wrc_lt a1)
  generalize ec : sb_cap (k1 + 1) cap1 = cap2 at *
  generalize ey : apC k1 cap1 y1 (nI (wrc a1)) = y2 at *
  obtain ⟨y3, h3, le3, C3⟩ := okt_I (d := d) h2 (by omega) hd
  generalize ec3 : sb_cap (k1 + 1 + sb_dg d) cap2 = cap3 at *
  refine ⟨cap3, y3, by rw [wrT, wrK, ek]; exact h3, by omega, ?_⟩
  intro G l ad qb
  refine k_ofPU (by decide) (Nat.le_of_ble_eq_true rfl) ?_
  intro p e s m args below meth c ls A F hr hlk hl hw hZ
  have hx := F.1
  have hb := F.2.1
  have hl : lv_has ls 4 [(0, .ref (ad 0)), (1, .int a1), (2, .int (nI d))] := hl
  refine lv_aload_n hx hb dX6_writeRun_0 rfl (lv_at hl 0 rfl) ?_
  refine k_blk F ws_in hw fl_X6_53 dX6_writeRun_1 ?_
  refine k_pvI (wl := wX G ad x) (w1 := wB G ad qb cap y) (wr := []) (rest := []) (As := []) prB_ok F ws_in (t_len4) cv_J4_length_8abf5 ml_X6_278 hZ hw 0 rfl rfl rfl hl.1 rfl (Nat.le_of_ble_eq_true rfl) ⟨(Nat.le_of_ble_eq_true rfl), (Nat.le_of_ble_eq_true rfl)⟩ ⟨by show 0 + 0 ≤ (cap3 - cap); omega, by show 0 + 0 ≤ 2 * (cap3 - cap); omega⟩ dX6_writeRun_4 (fun H locs hw => ?_)
  have hw : Wd G (wX G ad x ++ (wB G ad qb cap y ++ [])) A s H locs := hw
  have J20 : ∀ (qb : Nat) (H : Heap) (locs : List Loc) (ls : Array Slot), Wd G (wX G ad x ++ (wB G ad qb cap1 y1 ++ [])) A s H locs → lv_has ls 4 [(0, .ref (ad 0)), (1, .int a1), (2, .int (nI d))] → W p l e (rmk 7 (cap3 - cap) (2 * (cap3 - cap)) 220) s m args below meth c H locs (cap1 - cap) (2 * (cap1 - cap)) (KQPU G below args s A (fun u => wX G ad x ++ (wB G ad u cap3 y3 ++ [])) (cap3 - cap) (2 * (cap3 - cap))) (F0 m 20 ls []) := by
    intro qb H locs ls hw hl
    have J42 : ∀ (H : Heap) (locs : List Loc) (ls : Array Slot), Wd G (wX G ad x ++ (wB G ad qb cap1 y1 ++ [])) A s H locs → lv_has ls 4 [(0, .ref (ad 0)), (1, .int a1), (2, .int (nI d))] → W p l e (rmk 7 (cap3 - cap) (2 * (cap3 - cap)) 220) s m args below meth c H locs (cap1 - cap) (2 * (cap1 - cap)) (KQPU G below args s A (fun u => wX G ad x ++ (wB G ad u cap3 y3 ++ [])) (cap3 - cap) (2 * (cap3 - cap))) (F0 m 42 ls [.int (nI (wrc a1))]) := by
      intro H locs ls hw hl
      refine lv_istore_n (lv' := [(3, .int (nI (wrc a1))), (0, .ref (ad 0)), (1, .int a1), (2, .int (nI d))]) hx hb dX6_writeRun_42 rfl hl (Nat.le_of_ble_eq_true rfl) rfl (fun ls hl => ?_)
      refine lv_aload_n hx hb dX6_writeRun_43 rfl (lv_at hl 1 rfl) ?_
      refine k_blk F ws_in hw fl_X6_53 dX6_writeRun_44 ?_
      refine lv_iload_n hx hb dX6_writeRun_47 rfl (lv_at hl 0 rfl) ?_
      refine k_pvR (wl := wX G ad x) (w1 := wB G ad qb cap1 y1) (wr := []) (rest := []) (As := [.int (nI (wrc a1))]) prB_ok F ws_in (C2 G l ad qb) cv_J4_append_cf468 ml_X6_358 hZ hw 0 rfl rfl rfl hl.1 rfl (Nat.le_of_ble_eq_true rfl) ⟨(Nat.le_of_ble_eq_true rfl), (Nat.le_of_ble_eq_true rfl)⟩ ⟨by show (cap1 - cap) + (cap2 - cap1) ≤ (cap3 - cap); omega, by show 2 * (cap1 - cap) + 2 * (cap2 - cap1) ≤ 2 * (cap3 - cap); omega⟩ dX6_writeRun_48 (fun u H locs hw => ?_)
      have hw : Wd G (wX G ad x ++ (wB G ad (eQ (k1 + 1) cap1 qb u) cap2 y2 ++ [])) A s H locs := hw
      refine lv_pop hx hb dX6_writeRun_51 rfl ?_
      refine lv_aload_n hx hb dX6_writeRun_52 rfl (lv_at hl 1 rfl) ?_
      refine k_blk F ws_in hw fl_X6_53 dX6_writeRun_53 ?_
      refine lv_iload_n hx hb dX6_writeRun_56 rfl (lv_at hl 3 rfl) ?_
      refine k_pvR (wl := wX G ad x) (w1 := wB G ad (eQ (k1 + 1) cap1 qb u) cap2 y2) (wr := []) (rest := []) (As := [.int (nI d)]) prB_ok F ws_in (C3 G l ad _) cv_J4_append_bf812 ml_X6_362 hZ hw 0 rfl rfl rfl hl.1 rfl (Nat.le_of_ble_eq_true rfl) ⟨(Nat.le_of_ble_eq_true rfl), (Nat.le_of_ble_eq_true rfl)⟩ ⟨by show (cap1 - cap) + (cap2 - cap1) + (cap3 - cap2) ≤ (cap3 - cap); omega, by show 2 * (cap1 - cap) + 2 * (cap2 - cap1) + 2 * (cap3 - cap2) ≤ 2 * (cap3 - cap); omega⟩ dX6_writeRun_57 (fun u2 H locs hw => ?_)
      have hw : Wd G (wX G ad x ++ (wB G ad (eQ (k1 + 1 + sb_dg d) cap2 (eQ (k1 + 1) cap1 qb u) u2) cap3 y3 ++ [])) A s H locs := hw
      refine lv_pop hx hb dX6_writeRun_60 rfl ?_
      exact k_uret F hr hlk _ hw (by show (cap1 - cap) + (cap2 - cap1) + (cap3 - cap2) ≤ cap3 - cap; omega) (by show 2 * (cap1 - cap) + 2 * (cap2 - cap1) + 2 * (cap3 - cap2) ≤ 2 * (cap3 - cap); omega) dX6_writeRun_61
    refine lv_iload_n hx hb dX6_writeRun_20 rfl (lv_at hl 1 rfl) ?_
    refine lv_iconst (v := 2) hx hb dX6_writeRun_21 (by decide) ?_
    refine lv_icmp_ne (tgt := 30) hx hb dX6_writeRun_22 rfl (fun c9 => ?_) (fun c9 => ?_)
    · refine lv_iload_n hx hb dX6_writeRun_30 rfl (lv_at hl 1 rfl) ?_
      refine lv_iconst (v := 1) hx hb dX6_writeRun_31 (by decide) ?_
      refine lv_icmp_ne (tgt := 40) hx hb dX6_writeRun_32 rfl (fun c8 => ?_) (fun c8 => ?_)
      · refine lv_bipush (v := 102) hx hb dX6_writeRun_40 (by decide) ?_
        have h := J42 H locs ls hw hl
        rw [wrc, if_neg c9, if_neg c8] at h
        exact h
      · refine lv_bipush (v := 108) hx hb dX6_writeRun_35 (by decide) ?_
        refine lv_goto (tgt := 42) hx hb dX6_writeRun_37 rfl ?_
        have h := J42 H locs ls hw hl
        rw [wrc, if_neg c9, if_pos c8] at h
        exact h
    · refine lv_bipush (v := 99) hx hb dX6_writeRun_25 (by decide) ?_
      refine lv_goto (tgt := 42) hx hb dX6_writeRun_27 rfl ?_
      have h := J42 H locs ls hw hl
      rw [wrc, if_pos c9] at h
      exact h
  refine lv_if_le (tgt := 20) hx hb dX6_writeRun_7 rfl (fun c9 => ?_) (fun c9 => ?_)
  · have k0 : k = 0 := by
      rw [h.2.1] at c9
      exact Nat.eq_zero_of_not_pos fun q => nI_nle q (by have := h.2.2.1; have := h.2.2.2.1; omega) c9
    obtain ⟨rfl, rfl⟩ := C0 k0
    refine W.widen (k := cap1 - cap1) (n := 2 * (cap1 - cap1)) (Nat.zero_le _) (Nat.zero_le _) ?_
    exact J20 qb H locs ls hw hl
  · have c9 : 0 < k := Nat.pos_of_ne_zero fun q => c9 (by rw [h.2.1, q]; decide)
    refine lv_aload_n hx hb dX6_writeRun_10 rfl (lv_at hl 0 rfl) ?_
    refine k_blk F ws_in hw fl_X6_53 dX6_writeRun_11 ?_
    refine lv_bipush (v := 32) hx hb dX6_writeRun_14 (by decide) ?_
    refine k_pvR (wl := wX G ad x) (w1 := wB G ad qb cap y) (wr := []) (rest := []) (As := [.int (32 : Int32)]) prB_ok F ws_in (C1 c9 G l ad qb) cv_J4_append_cf468 ml_X6_358 hZ hw 0 rfl rfl rfl hl.1 rfl (Nat.le_of_ble_eq_true rfl) ⟨(Nat.le_of_ble_eq_true rfl), (Nat.le_of_ble_eq_true rfl)⟩ ⟨by show 0 + (cap1 - cap) ≤ (cap3 - cap); omega, by show 0 + 2 * (cap1 - cap) ≤ 2 * (cap3 - cap); omega⟩ dX6_writeRun_16 (fun u H locs hw => ?_)
    have hw : Wd G (wX G ad x ++ (wB G ad (eQ (k + 1) cap qb u) cap1 y1 ++ [])) A s H locs := hw
    refine lv_pop hx hb dX6_writeRun_19 rfl ?_
    have h := J20 _ H locs ls hw hl
    refine W.widen (k := cap1 - cap) (n := 2 * (cap1 - cap)) (by show 0 + (cap1 - cap) ≤ _; omega) (by show 0 + 2 * (cap1 - cap) ≤ _; omega) ?_
    exact h
