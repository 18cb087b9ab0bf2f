/-! ===== writeHistory ===== -/
/-- after j days: where the run began, its status, the signs, how many -/
def hs (ps : Nat → Int32) : Nat → Nat × Int32 × (Nat → Nat) × Nat
  | 0 => (0, 0, (fun _ => 0), 0)
  | j + 1 => if ps j ≠ (hs ps j).2.1 ∧ (hs ps j).1 < j then (j, ps j, wrT (hs ps j).2.2.1 (hs ps j).2.2.2 (hs ps j).2.1 (j - (hs ps j).1), wrK (hs ps j).2.2.2 (j - (hs ps j).1)) else ((hs ps j).1, ps j, (hs ps j).2.2.1, (hs ps j).2.2.2)
def hsT (ps : Nat → Int32) (D : Nat) : Nat → Nat := if 0 < D then wrT (hs ps D).2.2.1 (hs ps D).2.2.2 (hs ps D).2.1 (D - (hs ps D).1) else (hs ps D).2.2.1
def hsK (ps : Nat → Int32) (D : Nat) : Nat := if 0 < D then wrK (hs ps D).2.2.2 (D - (hs ps D).1) else (hs ps D).2.2.2
theorem dg_le {d : Nat} (h : 1 ≤ d) : sb_dg d ≤ d := by
  unfold sb_dg
  repeat' split
  all_goals omega
theorem hs_inv (ps : Nat → Int32) (j : Nat) : (hs ps j).1 ≤ j ∧ (hs ps j).2.2.2 ≤ 3 * (hs ps j).1 := by
  induction j with
  | zero => exact ⟨Nat.le_refl _, Nat.le_refl _⟩
  | succ j ih =>
    rw [hs]
    split
    · rename_i c
      refine ⟨Nat.le_succ _, ?_⟩
      show wrK _ _ ≤ 3 * j
      have := dg_le (d := j - (hs ps j).1) (by omega)
      unfold wrK wk1
      split <;> omega
    · exact ⟨Nat.le_succ_of_le ih.1, ih.2⟩
set_option maxHeartbeats 4000000 in
set_option maxRecDepth 100000 in
theorem h_end {ps : Nat → Int32} {D j cap1 : Nat} {x y1 : SX} (hD : x.1 0 8 = nI D) (hD2 : D ≤ 14609) (hj : j = D) (h : OkT cap1 y1 (hs ps j).2.2.1 (hs ps j).2.2.2) : ∃ (capF : Nat) (yF : SX), OkT capF yF (hsT ps D) (hsK ps D) ∧ cap1 ≤ capF ∧ ∀ (G : gG) (l : Launch) (ad : Nat → Nat) (p : Program) (e : Env) (R : Room) (s : State) (m : MethodId) (args : Array Value) (below : List Frame) (meth : Method) (c : Code) (A : Nat → Prop) (H : Heap) (locs : List Loc) (ls : Array Slot) (cells slots qb mc ms : Nat), CallFix p m c cX6_writeHistory 5 s args (WS yX6_writeHistory cX6_writeHistory 5 (some .int)) yX6_writeHistory.cls → meth.sig.returnType = some .int → meth.locks = false → PrB A s s.heap → 8 ≤ R.frames ∧ 250 ≤ R.locals → cells + (capF - cap1) ≤ R.cells ∧ slots + 2 * (capF - cap1) ≤ R.slots → cells + (capF - cap1) ≤ mc ∧ slots + 2 * (capF - cap1) ≤ ms → Wd G (wX G ad x ++ (wB G ad qb cap1 y1 ++ [])) A s H locs → lv_has ls 5 [(0, .ref (ad 0)), (1, .int (nI (hs ps j).1)), (2, .int (hs ps j).2.1), (3, .int (nI j))] → W p l e R s m args below meth c H locs cells slots (KQPIU G below args s A (fun u => wX G ad x ++ (wB G ad u capF yF ++ [])) (nI (hsK ps D)) mc ms) (F0 m 14 ls []) := by
  subst hj
  obtain ⟨i1, i2⟩ := hs_inv ps j
  have hD := hD
  by_cases h0 : 0 < j
  · obtain ⟨capF, yF, hF, le1, h3⟩ := h_wr (x := x) (d := j - (hs ps j).1) (a1 := (hs ps j).2.1) h (by omega) (by omega)
    have e : wrT (hs ps j).2.2.1 (hs ps j).2.2.2 (hs ps j).2.1 (j - (hs ps j).1) = hsT ps j := by rw [hsT, if_pos h0]
    have e2 : wrK (hs ps j).2.2.2 (j - (hs ps j).1) = hsK ps j := by rw [hsK, if_pos h0]
    rw [e, e2] at hF
    refine ⟨capF, yF, hF, le1, ?_⟩
    intro G l ad p e R s m args below meth c A H locs ls cells slots qb mc ms F hr hlk hZ hR hc hm hw hl
    have hx := F.1
    have hb := F.2.1
    refine lv_iload_n hx hb dX6_writeHistory_14 rfl (lv_at hl 3 rfl) ?_
    refine lv_aload_n hx hb dX6_writeHistory_15 rfl (lv_at hl 0 rfl) ?_
    refine X_g_0_8 F ws_in (k_left hw) fl_X6_92 dX6_writeHistory_16 ?_
    rw [hD]
    refine lv_icmp_ge (tgt := 59) hx hb dX6_writeHistory_19 rfl (fun c9 => ?_) (fun c9 => absurd (Int32.le_refl _) c9)
    refine lv_aload_n hx hb dX6_writeHistory_59 rfl (lv_at hl 0 rfl) ?_
    refine X_g_0_8 F ws_in (k_left hw) fl_X6_92 dX6_writeHistory_60 ?_
    rw [hD]
    refine lv_if_le (tgt := 77) hx hb dX6_writeHistory_63 rfl (fun c9 => absurd c9 (nI_nle h0 (by omega))) (fun c9 => ?_)
    refine lv_aload_n hx hb dX6_writeHistory_66 rfl (lv_at hl 0 rfl) ?_
    refine lv_iload_n hx hb dX6_writeHistory_67 rfl (lv_at hl 2 rfl) ?_
    refine lv_aload_n hx hb dX6_writeHistory_68 rfl (lv_at hl 0 rfl) ?_
    refine X_g_0_8 F ws_in (k_left hw) fl_X6_92 dX6_writeHistory_69 ?_
    rw [hD]
    refine lv_iload_n hx hb dX6_writeHistory_72 rfl (lv_at hl 1 rfl) ?_
    refine lv_isub hx hb dX6_writeHistory_73 ?_
    rw [pk_sub i1]
    refine k_pvU (wl := []) (w1 := wX G ad x ++ (wB G ad qb cap1 y1 ++ [])) (wr := []) (rest := []) (As := [.int (hs ps j).2.1, .int (nI (j - (hs ps j).1))]) prB_ok F ws_in (h3 G l ad qb) cv_X6_writeRun ml_X6_275 hZ hw 0 rfl rfl rfl hl.1 rfl (Nat.le_of_ble_eq_true rfl) ⟨Nat.le_trans (Nat.le_of_ble_eq_true rfl) hR.1, Nat.le_trans (Nat.le_of_ble_eq_true rfl) hR.2⟩ ⟨by omega, by omega⟩ dX6_writeHistory_74 (fun u H locs hw => ?_)
    have hw : Wd G (wX G ad x ++ (wB G ad u capF yF ++ [])) A s H locs := hw
    refine lv_aload_n hx hb dX6_writeHistory_77 rfl (lv_at hl 0 rfl) ?_
    refine k_blk F ws_in hw fl_X6_53 dX6_writeHistory_78 ?_
    refine k_pvI (wl := wX G ad x) (w1 := wB G ad u capF yF) (wr := []) (rest := []) (As := []) prB_ok F ws_in (t_len4) cv_J4_length_8abf5 ml_X6_278 hZ hw 0 rfl rfl rfl hl.1 rfl (Nat.le_of_ble_eq_true rfl) ⟨Nat.le_trans (Nat.le_of_ble_eq_true rfl) hR.1, Nat.le_trans (Nat.le_of_ble_eq_true rfl) hR.2⟩ ⟨by omega, by omega⟩ dX6_writeHistory_81 (fun H locs hw => ?_)
    have hw : Wd G (wX G ad x ++ (wB G ad u capF yF ++ [])) A s H locs := hw
    rw [hF.2.1]
    exact k_iuret F hr hlk _ hw (by omega) (by omega) dX6_writeHistory_84
  · have hj0 : j = 0 := by omega
    have hF : OkT cap1 y1 (hsT ps j) (hsK ps j) := by
      rw [hsT, hsK, if_neg h0, if_neg h0]
      exact h
    refine ⟨cap1, y1, hF, Nat.le_refl _, ?_⟩
    intro G l ad p e R s m args below meth c A H locs ls cells slots qb mc ms F hr hlk hZ hR hc hm hw hl
    have hx := F.1
    have hb := F.2.1
    refine lv_iload_n hx hb dX6_writeHistory_14 rfl (lv_at hl 3 rfl) ?_
    refine lv_aload_n hx hb dX6_writeHistory_15 rfl (lv_at hl 0 rfl) ?_
    refine X_g_0_8 F ws_in (k_left hw) fl_X6_92 dX6_writeHistory_16 ?_
    rw [hD]
    refine lv_icmp_ge (tgt := 59) hx hb dX6_writeHistory_19 rfl (fun c9 => ?_) (fun c9 => absurd (Int32.le_refl _) c9)
    refine lv_aload_n hx hb dX6_writeHistory_59 rfl (lv_at hl 0 rfl) ?_
    refine X_g_0_8 F ws_in (k_left hw) fl_X6_92 dX6_writeHistory_60 ?_
    rw [hD]
    refine lv_if_le (tgt := 77) hx hb dX6_writeHistory_63 rfl (fun c9 => ?_) (fun c9 => absurd (by rw [hj0]; decide) c9)
    refine lv_aload_n hx hb dX6_writeHistory_77 rfl (lv_at hl 0 rfl) ?_
    refine k_blk F ws_in hw fl_X6_53 dX6_writeHistory_78 ?_
    refine k_pvI (wl := wX G ad x) (w1 := wB G ad qb cap1 y1) (wr := []) (rest := []) (As := []) prB_ok F ws_in (t_len4) cv_J4_length_8abf5 ml_X6_278 hZ hw 0 rfl rfl rfl hl.1 rfl (Nat.le_of_ble_eq_true rfl) ⟨Nat.le_trans (Nat.le_of_ble_eq_true rfl) hR.1, Nat.le_trans (Nat.le_of_ble_eq_true rfl) hR.2⟩ ⟨by omega, by omega⟩ dX6_writeHistory_81 (fun H locs hw => ?_)
    have hw : Wd G (wX G ad x ++ (wB G ad qb cap1 y1 ++ [])) A s H locs := hw
    rw [hF.2.1]
    exact k_iuret F hr hlk _ hw (by omega) (by omega) dX6_writeHistory_84
set_option maxHeartbeats 4000000 in
set_option maxRecDepth 100000 in
theorem h_step {ps : Nat → Int32} {n D j cap1 : Nat} {x y1 : SX} (hD : x.1 0 8 = nI D) (hD2 : D ≤ 14609) (hps : ∀ j, j < D → f_X6_pastStatus n x (nI j) = some (ps j)) (hj : j < D) (h : OkT cap1 y1 (hs ps j).2.2.1 (hs ps j).2.2.2)
    (ih : ∀ (cap1 : Nat) (y1 : SX), OkT cap1 y1 (hs ps (j + 1)).2.2.1 (hs ps (j + 1)).2.2.2 → ∃ (capF : Nat) (yF : SX), OkT capF yF (hsT ps D) (hsK ps D) ∧ cap1 ≤ capF ∧ ∀ (G : gG) (l : Launch) (ad : Nat → Nat) (p : Program) (e : Env) (R : Room) (s : State) (m : MethodId) (args : Array Value) (below : List Frame) (meth : Method) (c : Code) (A : Nat → Prop) (H : Heap) (locs : List Loc) (ls : Array Slot) (cells slots qb mc ms : Nat), CallFix p m c cX6_writeHistory 5 s args (WS yX6_writeHistory cX6_writeHistory 5 (some .int)) yX6_writeHistory.cls → meth.sig.returnType = some .int → meth.locks = false → PrB A s s.heap → 8 ≤ R.frames ∧ 250 ≤ R.locals → cells + (capF - cap1) ≤ R.cells ∧ slots + 2 * (capF - cap1) ≤ R.slots → cells + (capF - cap1) ≤ mc ∧ slots + 2 * (capF - cap1) ≤ ms → Wd G (wX G ad x ++ (wB G ad qb cap1 y1 ++ [])) A s H locs → lv_has ls 5 [(0, .ref (ad 0)), (1, .int (nI (hs ps (j + 1)).1)), (2, .int (hs ps (j + 1)).2.1), (3, .int (nI (j + 1)))] → W p l e R s m args below meth c H locs cells slots (KQPIU G below args s A (fun u => wX G ad x ++ (wB G ad u capF yF ++ [])) (nI (hsK ps D)) mc ms) (F0 m 14 ls [])) : ∃ (capF : Nat) (yF : SX), OkT capF yF (hsT ps D) (hsK ps D) ∧ cap1 ≤ capF ∧ ∀ (G : gG) (l : Launch) (ad : Nat → Nat) (p : Program) (e : Env) (R : Room) (s : State) (m : MethodId) (args : Array Value) (below : List Frame) (meth : Method) (c : Code) (A : Nat → Prop) (H : Heap) (locs : List Loc) (ls : Array Slot) (cells slots qb mc ms : Nat), CallFix p m c cX6_writeHistory 5 s args (WS yX6_writeHistory cX6_writeHistory 5 (some .int)) yX6_writeHistory.cls → meth.sig.returnType = some .int → meth.locks = false → PrB A s s.heap → 8 ≤ R.frames ∧ 250 ≤ R.locals → cells + (capF - cap1) ≤ R.cells ∧ slots + 2 * (capF - cap1) ≤ R.slots → cells + (capF - cap1) ≤ mc ∧ slots + 2 * (capF - cap1) ≤ ms → Wd G (wX G ad x ++ (wB G ad qb cap1 y1 ++ [])) A s H locs → lv_has ls 5 [(0, .ref (ad 0)), (1, .int (nI (hs ps j).1)), (2, .int (hs ps j).2.1), (3, .int (nI j))] → W p l e R s m args below meth c H locs cells slots (KQPIU G below args s A (fun u => wX G ad x ++ (wB G ad u capF yF ++ [])) (nI (hsK ps D)) mc ms) (F0 m 14 ls []) := by
  obtain ⟨i1, i2⟩ := hs_inv ps j
  by_cases hc9 : ps j ≠ (hs ps j).2.1 ∧ (hs ps j).1 < j
  · obtain ⟨cap2, y2, h2, le1, h3⟩ := h_wr (x := x) (d := j - (hs ps j).1) (a1 := (hs ps j).2.1) h (by omega) (by omega)
    have ehs : hs ps (j + 1) = (j, ps j, wrT (hs ps j).2.2.1 (hs ps j).2.2.2 (hs ps j).2.1 (j - (hs ps j).1), wrK (hs ps j).2.2.2 (j - (hs ps j).1)) := by rw [hs, if_pos hc9]
    obtain ⟨capF, yF, hF, le2, h5⟩ := ih cap2 y2 (by rw [ehs]; exact h2)
    refine ⟨capF, yF, hF, by omega, ?_⟩
    intro G l ad p e R s m args below meth c A H locs ls cells slots qb mc ms F hr hlk hZ hR hc hm hw hl
    have hx := F.1
    have hb := F.2.1
    refine lv_iload_n hx hb dX6_writeHistory_14 rfl (lv_at hl 3 rfl) ?_
    refine lv_aload_n hx hb dX6_writeHistory_15 rfl (lv_at hl 0 rfl) ?_
    refine X_g_0_8 F ws_in (k_left hw) fl_X6_92 dX6_writeHistory_16 ?_
    rw [hD]
    refine lv_icmp_ge (tgt := 59) hx hb dX6_writeHistory_19 rfl (fun c9 => absurd ((nI_leI (by omega) (by omega)).mp c9) (by omega)) (fun c9 => ?_)
    refine lv_aload_n hx hb dX6_writeHistory_22 rfl (lv_at hl 0 rfl) ?_
    refine lv_iload_n hx hb dX6_writeHistory_23 rfl (lv_at hl 3 rfl) ?_
    refine k_callVi (wl := []) (w1 := wX G ad x) (wr := wB G ad qb cap1 y1 ++ []) (rest := []) (As := [.int (nI j)]) F ws_in (t_X6_pastStatus (hps j hj)) cv_X6_pastStatus ml_X6_269 hw 0 rfl rfl rfl hl.1 rfl (Nat.le_of_ble_eq_true rfl) ⟨Nat.le_trans (Nat.le_of_ble_eq_true rfl) hR.1, Nat.le_trans (Nat.le_of_ble_eq_true rfl) hR.2⟩ ⟨by omega, by omega⟩ dX6_writeHistory_24 (fun H locs hw => ?_)
    have hw : Wd G (wX G ad x ++ (wB G ad qb cap1 y1 ++ [])) A s H locs := hw
    refine lv_istore (lv' := [(4, .int (ps j)), (0, .ref (ad 0)), (1, .int (nI (hs ps j).1)), (2, .int (hs ps j).2.1), (3, .int (nI j))]) hx hb dX6_writeHistory_27 hl (Nat.le_of_ble_eq_true rfl) rfl (fun ls hl => ?_)
    refine lv_iload hx hb dX6_writeHistory_29 (lv_at hl 0 rfl) ?_
    refine lv_iload_n hx hb dX6_writeHistory_31 rfl (lv_at hl 3 rfl) ?_
    refine lv_icmp_eq (tgt := 50) hx hb dX6_writeHistory_32 rfl (fun c9 => absurd c9 hc9.1) (fun c9 => ?_)
    refine lv_iload_n hx hb dX6_writeHistory_35 rfl (lv_at hl 4 rfl) ?_
    refine lv_iload_n hx hb dX6_writeHistory_36 rfl (lv_at hl 2 rfl) ?_
    refine lv_icmp_le (tgt := 50) hx hb dX6_writeHistory_37 rfl (fun c9 => absurd ((nI_leI (by omega) (by omega)).mp c9) (by omega)) (fun c9 => ?_)
    refine lv_aload_n hx hb dX6_writeHistory_40 rfl (lv_at hl 1 rfl) ?_
    refine lv_iload_n hx hb dX6_writeHistory_41 rfl (lv_at hl 3 rfl) ?_
    refine lv_iload_n hx hb dX6_writeHistory_42 rfl (lv_at hl 4 rfl) ?_
    refine lv_iload_n hx hb dX6_writeHistory_43 rfl (lv_at hl 2 rfl) ?_
    refine lv_isub hx hb dX6_writeHistory_44 ?_
    rw [pk_sub i1]
    refine k_pvU (wl := []) (w1 := wX G ad x ++ (wB G ad qb cap1 y1 ++ [])) (wr := []) (rest := []) (As := [.int (hs ps j).2.1, .int (nI (j - (hs ps j).1))]) prB_ok F ws_in (h3 G l ad qb) cv_X6_writeRun ml_X6_275 hZ hw 0 rfl rfl rfl hl.1 rfl (Nat.le_of_ble_eq_true rfl) ⟨Nat.le_trans (Nat.le_of_ble_eq_true rfl) hR.1, Nat.le_trans (Nat.le_of_ble_eq_true rfl) hR.2⟩ ⟨by omega, by omega⟩ dX6_writeHistory_45 (fun u H locs hw => ?_)
    have hw : Wd G (wX G ad x ++ (wB G ad u cap2 y2 ++ [])) A s H locs := hw
    refine lv_iload_n hx hb dX6_writeHistory_48 rfl (lv_at hl 4 rfl) ?_
    refine lv_istore_n (lv' := [(1, .int (nI j)), (4, .int (ps j)), (0, .ref (ad 0)), (2, .int (hs ps j).2.1), (3, .int (nI j))]) hx hb dX6_writeHistory_49 rfl hl (Nat.le_of_ble_eq_true rfl) rfl (fun ls hl => ?_)
    refine lv_iload hx hb dX6_writeHistory_50 (lv_at hl 1 rfl) ?_
    refine lv_istore_n (lv' := [(2, .int (ps j)), (1, .int (nI j)), (4, .int (ps j)), (0, .ref (ad 0)), (3, .int (nI j))]) hx hb dX6_writeHistory_52 rfl hl (Nat.le_of_ble_eq_true rfl) rfl (fun ls hl => ?_)
    refine lv_iinc (v := nI (j + 1)) (lv' := [(3, .int (nI (j + 1))), (2, .int (ps j)), (1, .int (nI j)), (4, .int (ps j)), (0, .ref (ad 0))]) hx hb dX6_writeHistory_53 hl (k := 4) rfl (by rw [← nI_1]; rfl) (Nat.le_of_ble_eq_true rfl) rfl (fun ls hl => ?_)
    refine lv_goto (tgt := 14) hx hb dX6_writeHistory_56 rfl ?_
    have hl := lv_sub hl [4, 2, 1, 0] rfl
    exact h5 G l ad p e R s m args below meth c A H locs ls _ _ _ mc ms F hr hlk hZ hR (by omega) (by omega) hw (by rw [ehs]; exact hl)
  · have ehs : hs ps (j + 1) = ((hs ps j).1, ps j, (hs ps j).2.2.1, (hs ps j).2.2.2) := by rw [hs, if_neg hc9]
    obtain ⟨capF, yF, hF, le2, h5⟩ := ih cap1 y1 (by rw [ehs]; exact h)
    refine ⟨capF, yF, hF, by omega, ?_⟩
    intro G l ad p e R s m args below meth c A H locs ls cells slots qb mc ms F hr hlk hZ hR hc hm hw hl
    have hx := F.1
    have hb := F.2.1
    refine lv_iload_n hx hb dX6_writeHistory_14 rfl (lv_at hl 3 rfl) ?_
    refine lv_aload_n hx hb dX6_writeHistory_15 rfl (lv_at hl 0 rfl) ?_
    refine X_g_0_8 F ws_in (k_left hw) fl_X6_92 dX6_writeHistory_16 ?_
    rw [hD]
    refine lv_icmp_ge (tgt := 59) hx hb dX6_writeHistory_19 rfl (fun c9 => absurd ((nI_leI (by omega) (by omega)).mp c9) (by omega)) (fun c9 => ?_)
    refine lv_aload_n hx hb dX6_writeHistory_22 rfl (lv_at hl 0 rfl) ?_
    refine lv_iload_n hx hb dX6_writeHistory_23 rfl (lv_at hl 3 rfl) ?_
    refine k_callVi (wl := []) (w1 := wX G ad x) (wr := wB G ad qb cap1 y1 ++ []) (rest := []) (As := [.int (nI j)]) F ws_in (t_X6_pastStatus (hps j hj)) cv_X6_pastStatus ml_X6_269 hw 0 rfl rfl rfl hl.1 rfl (Nat.le_of_ble_eq_true rfl) ⟨Nat.le_trans (Nat.le_of_ble_eq_true rfl) hR.1, Nat.le_trans (Nat.le_of_ble_eq_true rfl) hR.2⟩ ⟨by omega, by omega⟩ dX6_writeHistory_24 (fun H locs hw => ?_)
    have hw : Wd G (wX G ad x ++ (wB G ad qb cap1 y1 ++ [])) A s H locs := hw
    refine lv_istore (lv' := [(4, .int (ps j)), (0, .ref (ad 0)), (1, .int (nI (hs ps j).1)), (2, .int (hs ps j).2.1), (3, .int (nI j))]) hx hb dX6_writeHistory_27 hl (Nat.le_of_ble_eq_true rfl) rfl (fun ls hl => ?_)
    refine lv_iload hx hb dX6_writeHistory_29 (lv_at hl 0 rfl) ?_
    refine lv_iload_n hx hb dX6_writeHistory_31 rfl (lv_at hl 3 rfl) ?_
    refine lv_icmp_eq (tgt := 50) hx hb dX6_writeHistory_32 rfl (fun c8 => ?_) (fun c8 => ?_)
    · refine lv_iload hx hb dX6_writeHistory_50 (lv_at hl 0 rfl) ?_
      refine lv_istore_n (lv' := [(2, .int (ps j)), (4, .int (ps j)), (0, .ref (ad 0)), (1, .int (nI (hs ps j).1)), (3, .int (nI j))]) hx hb dX6_writeHistory_52 rfl hl (Nat.le_of_ble_eq_true rfl) rfl (fun ls hl => ?_)
      refine lv_iinc (v := nI (j + 1)) (lv' := [(3, .int (nI (j + 1))), (2, .int (ps j)), (4, .int (ps j)), (0, .ref (ad 0)), (1, .int (nI (hs ps j).1))]) hx hb dX6_writeHistory_53 hl (k := 4) rfl (by rw [← nI_1]; rfl) (Nat.le_of_ble_eq_true rfl) rfl (fun ls hl => ?_)
      refine lv_goto (tgt := 14) hx hb dX6_writeHistory_56 rfl ?_
      have hl := lv_sub hl [3, 4, 1, 0] rfl
      exact h5 G l ad p e R s m args below meth c A H locs ls _ _ _ mc ms F hr hlk hZ hR (by omega) (by omega) hw (by rw [ehs]; exact hl)
    · refine lv_iload_n hx hb dX6_writeHistory_35 rfl (lv_at hl 4 rfl) ?_
      refine lv_iload_n hx hb dX6_writeHistory_36 rfl (lv_at hl 2 rfl) ?_
      refine lv_icmp_le (tgt := 50) hx hb dX6_writeHistory_37 rfl (fun c9 => ?_) (fun c9 => absurd ⟨c8, Nat.lt_of_not_le fun q => c9 (nI_le q (by omega))⟩ hc9)
      refine lv_iload hx hb dX6_writeHistory_50 (lv_at hl 0 rfl) ?_
      refine lv_istore_n (lv' := [(2, .int (ps j)), (4, .int (ps j)), (0, .ref (ad 0)), (1, .int (nI (hs ps j).1)), (3, .int (nI j))]) hx hb dX6_writeHistory_52 rfl hl (Nat.le_of_ble_eq_true rfl) rfl (fun ls hl => ?_)
      refine lv_iinc (v := nI (j + 1)) (lv' := [(3, .int (nI (j + 1))), (2, .int (ps j)), (4, .int (ps j)), (0, .ref (ad 0)), (1, .int (nI (hs ps j).1))]) hx hb dX6_writeHistory_53 hl (k := 4) rfl (by rw [← nI_1]; rfl) (Nat.le_of_ble_eq_true rfl) rfl (fun ls hl => ?_)
      refine lv_goto (tgt := 14) hx hb dX6_writeHistory_56 rfl ?_
      have hl := lv_sub hl [3, 4, 1, 0] rfl
      exact h5 G l ad p e R s m args below meth c A H locs ls _ _ _ mc ms F hr hlk hZ hR (by omega) (by omega) hw (by rw [ehs]; exact hl)
theorem h_loop {ps : Nat → Int32} {n D : Nat} {x : SX} (hD : x.1 0 8 = nI D) (hD2 : D ≤ 14609) (hps : ∀ j, j < D → f_X6_pastStatus n x (nI j) = some (ps j)) : ∀ (r j : Nat), j + r = D → ∀ (cap1 : Nat) (y1 : SX), OkT cap1 y1 (hs ps j).2.2.1 (hs ps j).2.2.2 → ∃ (capF : Nat) (yF : SX), OkT capF yF (hsT ps D) (hsK ps D) ∧ cap1 ≤ capF ∧ ∀ (G : gG) (l : Launch) (ad : Nat → Nat) (p : Program) (e : Env) (R : Room) (s : State) (m : MethodId) (args : Array Value) (below : List Frame) (meth : Method) (c : Code) (A : Nat → Prop) (H : Heap) (locs : List Loc) (ls : Array Slot) (cells slots qb mc ms : Nat), CallFix p m c cX6_writeHistory 5 s args (WS yX6_writeHistory cX6_writeHistory 5 (some .int)) yX6_writeHistory.cls → meth.sig.returnType = some .int → meth.locks = false → PrB A s s.heap → 8 ≤ R.frames ∧ 250 ≤ R.locals → cells + (capF - cap1) ≤ R.cells ∧ slots + 2 * (capF - cap1) ≤ R.slots → cells + (capF - cap1) ≤ mc ∧ slots + 2 * (capF - cap1) ≤ ms → Wd G (wX G ad x ++ (wB G ad qb cap1 y1 ++ [])) A s H locs → lv_has ls 5 [(0, .ref (ad 0)), (1, .int (nI (hs ps j).1)), (2, .int (hs ps j).2.1), (3, .int (nI j))] → W p l e R s m args below meth c H locs cells slots (KQPIU G below args s A (fun u => wX G ad x ++ (wB G ad u capF yF ++ [])) (nI (hsK ps D)) mc ms) (F0 m 14 ls []) := by
  intro r
  induction r with
  | zero =>
    intro j hj cap1 y1 h
    exact h_end hD hD2 hj h
  | succ r ih =>
    intro j hj cap1 y1 h
    exact h_step hD hD2 hps (by omega) h (ih (j + 1) (by omega))
set_option maxHeartbeats 4000000 in
set_option maxRecDepth 100000 in
theorem h_hist {ps : Nat → Int32} {n D cap k : Nat} {x y : SX} {t : Nat → Nat} (hD : x.1 0 8 = nI D) (hD2 : D ≤ 14609) (hps : ∀ j, j < D → f_X6_pastStatus n x (nI j) = some (ps j)) (h : OkT cap y t k) : ∃ (capF : Nat) (yF : SX), OkT capF yF (hsT ps D) (hsK ps D) ∧ cap ≤ capF ∧ ∀ (G : gG) (l : Launch) (ad : Nat → Nat) (qb : Nat), MetPIU PrB G l yX6_writeHistory cX6_writeHistory 5 (some .int) 8 (capF - cap) (2 * (capF - cap)) 250 [.ref (ad 0)] (wX G ad x ++ (wB G ad qb cap y ++ [])) (fun u => wX G ad x ++ (wB G ad u capF yF ++ [])) (nI (hsK ps D)) := by
  have hk : k ≤ cap := h.2.2.1
  have hcap2 : cap ≤ 2 ^ 17 := h.2.2.2.1
  have hcap : cap < 2 ^ 26 := by omega
  have hpos : 0 ≤ y.1 8 3 := by rw [h.2.1]; exact nI_pos' (by omega)
  have hlat : ∀ f : Nat → Int32, sb_Lat (fun _ => 0) 0 f := fun f j hj => absurd hj (Nat.not_lt_zero j)
  by_cases hz : y.1 8 3 ≤ 0
  · have g : OkT cap (si y 8 3 0) (fun _ => 0) 0 := by
      refine ⟨?_, ?_, Nat.zero_le _, hcap2, ?_, hlat _⟩
      · rw [sr_s, pk_un (by decide)]; exact h.1
      · rw [sr_s, pk_us]; rfl
      · rw [sr_n (by decide)]; exact h.2.2.2.2.1
    obtain ⟨capF, yF, hF, leF, h5⟩ := h_loop hD hD2 hps D 0 (Nat.zero_add D) cap _ g
    refine ⟨capF, yF, hF, leF, fun G l ad qb => ?_⟩
    refine k_ofPIU (by decide) (Nat.le_of_ble_eq_true rfl) ?_
    intro p e s m args below meth c ls A F hr hlk hl hw hZ
    have hx := F.1
    have hb := F.2.1
    have hl : lv_has ls 5 [(0, .ref (ad 0))] := hl
    refine lv_aload_n hx hb dX6_writeHistory_0 rfl (lv_at hl 0 rfl) ?_
    refine k_blk F ws_in hw fl_X6_53 dX6_writeHistory_1 ?_
    refine lv_iconst (v := 0) hx hb dX6_writeHistory_4 (by decide) ?_
    refine k_pvU (wl := wX G ad x) (w1 := wB G ad qb cap y) (wr := []) (rest := []) (As := [.int (0 : Int32)]) prB_ok F ws_in (t_set04 h.1 hpos hz hcap h.2.2.2.2.1) cv_J4_setLength_d00df ml_X6_272 hZ hw 0 rfl rfl rfl hl.1 rfl (Nat.le_of_ble_eq_true rfl) ⟨(Nat.le_of_ble_eq_true rfl), (Nat.le_of_ble_eq_true rfl)⟩ ⟨by show 0 + 0 ≤ capF - cap; omega, by show 0 + 0 ≤ 2 * (capF - cap); omega⟩ dX6_writeHistory_5 (fun u H locs hw => ?_)
    have hw : Wd G (wX G ad x ++ (wB G ad qb cap (si y 8 3 0) ++ [])) A s H locs := hw
    refine lv_iconst (v := 0) hx hb dX6_writeHistory_8 (by decide) ?_
    refine lv_istore_n (lv' := [(1, .int (0 : Int32)), (0, .ref (ad 0))]) hx hb dX6_writeHistory_9 rfl hl (Nat.le_of_ble_eq_true rfl) rfl (fun ls hl => ?_)
    refine lv_iconst (v := 0) hx hb dX6_writeHistory_10 (by decide) ?_
    refine lv_istore_n (lv' := [(2, .int (0 : Int32)), (1, .int (0 : Int32)), (0, .ref (ad 0))]) hx hb dX6_writeHistory_11 rfl hl (Nat.le_of_ble_eq_true rfl) rfl (fun ls hl => ?_)
    refine lv_iconst (v := 0) hx hb dX6_writeHistory_12 (by decide) ?_
    refine lv_istore_n (lv' := [(3, .int (0 : Int32)), (2, .int (0 : Int32)), (1, .int (0 : Int32)), (0, .ref (ad 0))]) hx hb dX6_writeHistory_13 rfl hl (Nat.le_of_ble_eq_true rfl) rfl (fun ls hl => ?_)
    have hl := lv_sub hl [3, 2, 1, 0] rfl
    exact h5 G l ad p e (rmk 8 (capF - cap) (2 * (capF - cap)) 250) s m _ below meth c A H locs ls _ _ _ _ _ F hr hlk hZ ⟨(Nat.le_of_ble_eq_true rfl), (Nat.le_of_ble_eq_true rfl)⟩ ⟨by show 0 + 0 + (capF - cap) ≤ capF - cap; omega, by show 0 + 0 + 2 * (capF - cap) ≤ 2 * (capF - cap); omega⟩ ⟨by omega, by omega⟩ hw hl
  · have g : OkT cap (si (si y 8 2 1) 8 3 0) (fun _ => 0) 0 := by
      refine ⟨?_, ?_, Nat.zero_le _, hcap2, ?_, hlat _⟩
      · rw [sr_s, pk_un (by decide), sr_s, pk_un (by decide)]; exact h.1
      · rw [sr_s, pk_us]; rfl
      · rw [sr_n (by decide), sr_n (by decide)]; exact h.2.2.2.2.1
    obtain ⟨capF, yF, hF, leF, h5⟩ := h_loop hD hD2 hps D 0 (Nat.zero_add D) cap _ g
    refine ⟨capF, yF, hF, leF, fun G l ad qb => ?_⟩
    refine k_ofPIU (by decide) (Nat.le_of_ble_eq_true rfl) ?_
    intro p e s m args below meth c ls A F hr hlk hl hw hZ
    have hx := F.1
    have hb := F.2.1
    have hl : lv_has ls 5 [(0, .ref (ad 0))] := hl
    refine lv_aload_n hx hb dX6_writeHistory_0 rfl (lv_at hl 0 rfl) ?_
    refine k_blk F ws_in hw fl_X6_53 dX6_writeHistory_1 ?_
    refine lv_iconst (v := 0) hx hb dX6_writeHistory_4 (by decide) ?_
    refine k_pvU (wl := wX G ad x) (w1 := wB G ad qb cap y) (wr := []) (rest := []) (As := [.int (0 : Int32)]) prB_ok F ws_in (t_setP4 h.1 hpos hz hcap h.2.2.2.2.1) cv_J4_setLength_d00df ml_X6_272 hZ hw 0 rfl rfl rfl hl.1 rfl (Nat.le_of_ble_eq_true rfl) ⟨(Nat.le_of_ble_eq_true rfl), (Nat.le_of_ble_eq_true rfl)⟩ ⟨by show 0 + 0 ≤ capF - cap; omega, by show 0 + 0 ≤ 2 * (capF - cap); omega⟩ dX6_writeHistory_5 (fun u H locs hw => ?_)
    have hw : Wd G (wX G ad x ++ (wB G ad qb cap (si (si y 8 2 1) 8 3 0) ++ [])) A s H locs := hw
    refine lv_iconst (v := 0) hx hb dX6_writeHistory_8 (by decide) ?_
    refine lv_istore_n (lv' := [(1, .int (0 : Int32)), (0, .ref (ad 0))]) hx hb dX6_writeHistory_9 rfl hl (Nat.le_of_ble_eq_true rfl) rfl (fun ls hl => ?_)
    refine lv_iconst (v := 0) hx hb dX6_writeHistory_10 (by decide) ?_
    refine lv_istore_n (lv' := [(2, .int (0 : Int32)), (1, .int (0 : Int32)), (0, .ref (ad 0))]) hx hb dX6_writeHistory_11 rfl hl (Nat.le_of_ble_eq_true rfl) rfl (fun ls hl => ?_)
    refine lv_iconst (v := 0) hx hb dX6_writeHistory_12 (by decide) ?_
    refine lv_istore_n (lv' := [(3, .int (0 : Int32)), (2, .int (0 : Int32)), (1, .int (0 : Int32)), (0, .ref (ad 0))]) hx hb dX6_writeHistory_13 rfl hl (Nat.le_of_ble_eq_true rfl) rfl (fun ls hl => ?_)
    have hl := lv_sub hl [3, 2, 1, 0] rfl
    exact h5 G l ad p e (rmk 8 (capF - cap) (2 * (capF - cap)) 250) s m _ below meth c A H locs ls _ _ _ _ _ F hr hlk hZ ⟨(Nat.le_of_ble_eq_true rfl), (Nat.le_of_ble_eq_true rfl)⟩ ⟨by show 0 + 0 + (capF - cap) ≤ capF - cap; omega, by show 0 + 0 + 2 * (capF - cap) ≤ 2 * (capF - cap); omega⟩ ⟨by omega, by omega⟩ hw hl
