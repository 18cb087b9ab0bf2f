/-! ===== the law's cases ===== -/
section LAW
variable {p : Program} {l : Launch} {e : Env} {s : State} {m : MethodId} {below : List Frame} {meth : Method} {c : Code} {H : Heap} {locs : List Loc} {cells slots : Nat} {Q : State → Prop}
variable {ls : Array Slot} {G : gG} {A : Nat → Prop} {b L : Nat} {xs : Nat → Int32} {ad bd : Nat → Nat} {qb cap qo : Nat} {x y xm : SX} {o : Nat → Int64}
set_option maxHeartbeats 4000000 in
set_option maxRecDepth 100000 in
theorem c_credit (C : LC p l s m c b L xs A) {i : Nat} (hi : i + 5 ≤ L) {n : Nat} {k0 : Nat} {rv c0 : Int32} (hf : f_X6_credit n x (xs (i + 1)) = some (k0, rv)) (hc : (k0 = 0 ∧ c0 = 0) ∨ (k0 = 3 ∧ c0 = 1) ∨ (k0 = 2 ∧ c0 = 2)) {n2 : Nat} {bv : Int32} {xm' : SX} (hm : f_X7_credit n2 xm (xs (i + 1)) = some (bv, xm')) (hth : xm'.1 0 0 = c0) (hab : c0 = 0 → rv = bv) (hw : Wd G (wL G ad qb cap x y bd xm qo o) A s H locs) (hl : lv_has ls 7 [(0, .ref b), (1, .ref (ad 0)), (2, .ref (bd 0)), (3, .ref qo), (4, .int (nI i))]) (hcs : cells + 2 ≤ 601024) (hss : slots + 12 ≤ 7293034) (kk : ∀ (o' : Nat → Int64) (H1 : Heap) (locs1 : List Loc) (ls1 : Array Slot), Wd G (wL G ad qb cap x y bd xm' qo o') A s H1 locs1 → lv_has ls1 7 [(0, .ref b), (1, .ref (ad 0)), (2, .ref (bd 0)), (3, .ref qo), (4, .int (nI i))] → W p l e room_1 s m #[Value.ref b] below meth c H1 locs1 (cells + 2) (slots + 12) Q (F0 m 2739 ls1 [])) : W p l e room_1 s m #[Value.ref b] below meth c H locs cells slots Q (F0 m 1725 ls []) := by
  have hx := C.1.1
  have hb := C.1.2.1
  have hL := C.2.2.2.2.1
  have ho : c0 = 0 → (if k0 = 0 then vp_updL o 0 rv.toInt64 else o) ((0 : Int32).toNatClampNeg) = bv.toInt64 := fun z => by
    have hk0 : k0 = 0 := by
      rcases hc with ⟨h1, h2⟩ | ⟨h1, h2⟩ | ⟨h1, h2⟩
      · exact h1
      · rw [h2] at z; exact absurd z (by decide)
      · rw [h2] at z; exact absurd z (by decide)
    rw [if_pos hk0, hab z, sb_cl0]
    exact pk_uLs
  refine lv_aload_n hx hb dL_law_1725 rfl (lv_at hl 1 rfl) ?_
  refine lv_aload_n hx hb dL_law_1726 rfl (lv_at hl 0 rfl) ?_
  refine lv_iload hx hb dL_law_1727 (lv_at hl 4 rfl) ?_
  refine lv_iconst (v := 1) hx hb dL_law_1729 (by decide) ?_
  refine lv_iadd hx hb dL_law_1730 ?_
  refine k_sc C hw (j := i + 1) (nI_add i 1) (by omega) dL_law_1731 ?_
  refine lv_aload_n hx hb dL_law_1732 rfl (lv_at hl 3 rfl) ?_
  refine k_lw (rest := []) (As := [.ref (ad 0), .int (xs (i + 1)), .ref qo]) C (t_L_credit C.2.2.2.2.2.1 hf hc) cw_L_credit ml_L_235 hw rfl hl.1 rfl (Nat.le_of_ble_eq_true rfl) ⟨(Nat.le_of_ble_eq_true rfl), (Nat.le_of_ble_eq_true rfl)⟩ ⟨hcs, hss⟩ dL_law_1733 (fun H locs hw => ?_)
  refine lv_istore (lv' := [(5, .int c0), (0, .ref b), (1, .ref (ad 0)), (2, .ref (bd 0)), (3, .ref qo), (4, .int (nI i))]) hx hb dL_law_1736 hl (Nat.le_of_ble_eq_true rfl) rfl (fun ls hl => ?_)
  refine lv_aload_n hx hb dL_law_1738 rfl (lv_at hl 3 rfl) ?_
  refine lv_aload_n hx hb dL_law_1739 rfl (lv_at hl 1 rfl) ?_
  refine lv_iload hx hb dL_law_1740 (lv_at hl 5 rfl) ?_
  refine lv_iconst (v := 1) hx hb dL_law_1742 (by decide) ?_
  refine lv_iadd hx hb dL_law_1743 ?_
  refine k_sc C hw (j := i + 1) (nI_add i 1) (by omega) dL_law_1744 ?_
  refine k_lm (rest := []) (As := [.int (xs (i + 1))]) C (t_X7_credit hm) cv_X7_credit ml_L_237 hw rfl rfl rfl hl.1 rfl (Nat.le_of_ble_eq_true rfl) ⟨(Nat.le_of_ble_eq_true rfl), (Nat.le_of_ble_eq_true rfl)⟩ ⟨hcs, hss⟩ dL_law_1745 (fun H locs hw => ?_)
  refine lv_istore (lv' := [(6, .int bv), (5, .int c0), (0, .ref b), (1, .ref (ad 0)), (2, .ref (bd 0)), (3, .ref qo), (4, .int (nI i))]) hx hb dL_law_1748 hl (Nat.le_of_ble_eq_true rfl) rfl (fun ls hl => ?_)
  refine lv_aload_n hx hb dL_law_1750 rfl (lv_at hl 4 rfl) ?_
  refine k_lm (rest := []) (As := []) C (t_X7_thrown (n := 0) (rv := c0) (congrArg some hth)) cv_X7_thrown ml_L_155 hw rfl rfl rfl hl.1 rfl (Nat.le_of_ble_eq_true rfl) ⟨(Nat.le_of_ble_eq_true rfl), (Nat.le_of_ble_eq_true rfl)⟩ ⟨hcs, hss⟩ dL_law_1751 (fun H locs hw => ?_)
  refine lv_iload hx hb dL_law_1754 (lv_at hl 1 rfl) ?_
  refine lv_icmp_eq (tgt := 1761) hx hb dL_law_1756 rfl (fun c9 => ?_) (fun c9 => absurd rfl c9)
  refine lv_iload hx hb dL_law_1761 (lv_at hl 1 rfl) ?_
  refine lv_if_ne (tgt := 1778) hx hb dL_law_1763 rfl (fun c8 => ?_) (fun c8 => ?_)
  · refine lv_goto (tgt := 2739) hx hb dL_law_1778 rfl ?_
    exact kk _ H locs ls hw (lv_sub hl [2, 3, 4, 5, 6] rfl)
  · refine lv_aload_n hx hb dL_law_1766 rfl (lv_at hl 5 rfl) ?_
    refine lv_iconst (v := 0) hx hb dL_law_1767 (by decide) ?_
    refine k_lld C.1 hw 64 rfl (by decide) dL_law_1768 ?_
    rw [ho c8]
    refine lv_iload hx hb dL_law_1769 (lv_at hl 0 rfl) ?_
    refine lv_i2l hx hb dL_law_1771 rfl ?_
    refine W.lcmp hx hb dL_law_1772 ?_
    rw [lg_same]
    refine lv_if_eq (tgt := 1778) hx hb dL_law_1773 rfl (fun c7 => ?_) (fun c7 => absurd rfl c7)
    refine lv_goto (tgt := 2739) hx hb dL_law_1778 rfl ?_
    exact kk _ H locs ls hw (lv_sub hl [2, 3, 4, 5, 6] rfl)
set_option maxHeartbeats 4000000 in
set_option maxRecDepth 100000 in
theorem c_creditByMerging (C : LC p l s m c b L xs A) {i : Nat} (hi : i + 5 ≤ L) {n : Nat} {xr : SX} {k0 : Nat} {rv c0 : Int32} (hf : f_X6_creditByMerging n x (xs (i + 1)) = some (k0, rv, xr)) (hc : (k0 = 0 ∧ c0 = 0) ∨ (k0 = 3 ∧ c0 = 1) ∨ (k0 = 2 ∧ c0 = 2)) {n2 : Nat} {bv : Int32} {xm' : SX} (hm : f_X7_creditByMerging n2 xm (xs (i + 1)) = some (bv, xm')) (hth : xm'.1 0 0 = c0) (hab : c0 = 0 → rv = bv) (hw : Wd G (wL G ad qb cap x y bd xm qo o) A s H locs) (hl : lv_has ls 7 [(0, .ref b), (1, .ref (ad 0)), (2, .ref (bd 0)), (3, .ref qo), (4, .int (nI i))]) (hcs : cells + 2 ≤ 601024) (hss : slots + 12 ≤ 7293034) (kk : ∀ (o' : Nat → Int64) (H1 : Heap) (locs1 : List Loc) (ls1 : Array Slot), Wd G (wL G ad qb cap xr y bd xm' qo o') A s H1 locs1 → lv_has ls1 7 [(0, .ref b), (1, .ref (ad 0)), (2, .ref (bd 0)), (3, .ref qo), (4, .int (nI i))] → W p l e room_1 s m #[Value.ref b] below meth c H1 locs1 (cells + 2) (slots + 12) Q (F0 m 2739 ls1 [])) : W p l e room_1 s m #[Value.ref b] below meth c H locs cells slots Q (F0 m 1781 ls []) := by
  have hx := C.1.1
  have hb := C.1.2.1
  have hL := C.2.2.2.2.1
  have ho : c0 = 0 → (if k0 = 0 then vp_updL o 0 rv.toInt64 else o) ((0 : Int32).toNatClampNeg) = bv.toInt64 := fun z => by
    have hk0 : k0 = 0 := by
      rcases hc with ⟨h1, h2⟩ | ⟨h1, h2⟩ | ⟨h1, h2⟩
      · exact h1
      · rw [h2] at z; exact absurd z (by decide)
      · rw [h2] at z; exact absurd z (by decide)
    rw [if_pos hk0, hab z, sb_cl0]
    exact pk_uLs
  refine lv_aload_n hx hb dL_law_1781 rfl (lv_at hl 1 rfl) ?_
  refine lv_aload_n hx hb dL_law_1782 rfl (lv_at hl 0 rfl) ?_
  refine lv_iload hx hb dL_law_1783 (lv_at hl 4 rfl) ?_
  refine lv_iconst (v := 1) hx hb dL_law_1785 (by decide) ?_
  refine lv_iadd hx hb dL_law_1786 ?_
  refine k_sc C hw (j := i + 1) (nI_add i 1) (by omega) dL_law_1787 ?_
  refine lv_aload_n hx hb dL_law_1788 rfl (lv_at hl 3 rfl) ?_
  refine k_lw (rest := []) (As := [.ref (ad 0), .int (xs (i + 1)), .ref qo]) C (t_L_creditByMerging C.2.2.2.2.2.1 hf hc) cw_L_creditByMerging ml_L_238 hw rfl hl.1 rfl (Nat.le_of_ble_eq_true rfl) ⟨(Nat.le_of_ble_eq_true rfl), (Nat.le_of_ble_eq_true rfl)⟩ ⟨hcs, hss⟩ dL_law_1789 (fun H locs hw => ?_)
  refine lv_istore (lv' := [(5, .int c0), (0, .ref b), (1, .ref (ad 0)), (2, .ref (bd 0)), (3, .ref qo), (4, .int (nI i))]) hx hb dL_law_1792 hl (Nat.le_of_ble_eq_true rfl) rfl (fun ls hl => ?_)
  refine lv_aload_n hx hb dL_law_1794 rfl (lv_at hl 3 rfl) ?_
  refine lv_aload_n hx hb dL_law_1795 rfl (lv_at hl 1 rfl) ?_
  refine lv_iload hx hb dL_law_1796 (lv_at hl 5 rfl) ?_
  refine lv_iconst (v := 1) hx hb dL_law_1798 (by decide) ?_
  refine lv_iadd hx hb dL_law_1799 ?_
  refine k_sc C hw (j := i + 1) (nI_add i 1) (by omega) dL_law_1800 ?_
  refine k_lm (rest := []) (As := [.int (xs (i + 1))]) C (t_X7_creditByMerging hm) cv_X7_creditByMerging ml_L_240 hw rfl rfl rfl hl.1 rfl (Nat.le_of_ble_eq_true rfl) ⟨(Nat.le_of_ble_eq_true rfl), (Nat.le_of_ble_eq_true rfl)⟩ ⟨hcs, hss⟩ dL_law_1801 (fun H locs hw => ?_)
  refine lv_istore (lv' := [(6, .int bv), (5, .int c0), (0, .ref b), (1, .ref (ad 0)), (2, .ref (bd 0)), (3, .ref qo), (4, .int (nI i))]) hx hb dL_law_1804 hl (Nat.le_of_ble_eq_true rfl) rfl (fun ls hl => ?_)
  refine lv_aload_n hx hb dL_law_1806 rfl (lv_at hl 4 rfl) ?_
  refine k_lm (rest := []) (As := []) C (t_X7_thrown (n := 0) (rv := c0) (congrArg some hth)) cv_X7_thrown ml_L_155 hw rfl rfl rfl hl.1 rfl (Nat.le_of_ble_eq_true rfl) ⟨(Nat.le_of_ble_eq_true rfl), (Nat.le_of_ble_eq_true rfl)⟩ ⟨hcs, hss⟩ dL_law_1807 (fun H locs hw => ?_)
  refine lv_iload hx hb dL_law_1810 (lv_at hl 1 rfl) ?_
  refine lv_icmp_eq (tgt := 1817) hx hb dL_law_1812 rfl (fun c9 => ?_) (fun c9 => absurd rfl c9)
  refine lv_iload hx hb dL_law_1817 (lv_at hl 1 rfl) ?_
  refine lv_if_ne (tgt := 1834) hx hb dL_law_1819 rfl (fun c8 => ?_) (fun c8 => ?_)
  · refine lv_goto (tgt := 2739) hx hb dL_law_1834 rfl ?_
    exact kk _ H locs ls hw (lv_sub hl [2, 3, 4, 5, 6] rfl)
  · refine lv_aload_n hx hb dL_law_1822 rfl (lv_at hl 5 rfl) ?_
    refine lv_iconst (v := 0) hx hb dL_law_1823 (by decide) ?_
    refine k_lld C.1 hw 64 rfl (by decide) dL_law_1824 ?_
    rw [ho c8]
    refine lv_iload hx hb dL_law_1825 (lv_at hl 0 rfl) ?_
    refine lv_i2l hx hb dL_law_1827 rfl ?_
    refine W.lcmp hx hb dL_law_1828 ?_
    rw [lg_same]
    refine lv_if_eq (tgt := 1834) hx hb dL_law_1829 rfl (fun c7 => ?_) (fun c7 => absurd rfl c7)
    refine lv_goto (tgt := 2739) hx hb dL_law_1834 rfl ?_
    exact kk _ H locs ls hw (lv_sub hl [2, 3, 4, 5, 6] rfl)
set_option maxHeartbeats 4000000 in
set_option maxRecDepth 100000 in
theorem c_addedDays (C : LC p l s m c b L xs A) {i : Nat} (hi : i + 5 ≤ L) {n : Nat} {k0 : Nat} {rv c0 : Int32} (hf : f_X6_addedDays n x (xs (i + 1)) = some (k0, rv)) (hc : (k0 = 0 ∧ c0 = 0) ∨ (k0 = 3 ∧ c0 = 1) ∨ (k0 = 2 ∧ c0 = 2)) {n2 : Nat} {bv : Int32} {xm' : SX} (hm : f_X7_addedDays n2 xm (xs (i + 1)) = some (bv, xm')) (hth : xm'.1 0 0 = c0) (hab : c0 = 0 → rv = bv) (hw : Wd G (wL G ad qb cap x y bd xm qo o) A s H locs) (hl : lv_has ls 7 [(0, .ref b), (1, .ref (ad 0)), (2, .ref (bd 0)), (3, .ref qo), (4, .int (nI i))]) (hcs : cells + 2 ≤ 601024) (hss : slots + 12 ≤ 7293034) (kk : ∀ (o' : Nat → Int64) (H1 : Heap) (locs1 : List Loc) (ls1 : Array Slot), Wd G (wL G ad qb cap x y bd xm' qo o') A s H1 locs1 → lv_has ls1 7 [(0, .ref b), (1, .ref (ad 0)), (2, .ref (bd 0)), (3, .ref qo), (4, .int (nI i))] → W p l e room_1 s m #[Value.ref b] below meth c H1 locs1 (cells + 2) (slots + 12) Q (F0 m 2739 ls1 [])) : W p l e room_1 s m #[Value.ref b] below meth c H locs cells slots Q (F0 m 1837 ls []) := by
  have hx := C.1.1
  have hb := C.1.2.1
  have hL := C.2.2.2.2.1
  have ho : c0 = 0 → (if k0 = 0 then vp_updL o 0 rv.toInt64 else o) ((0 : Int32).toNatClampNeg) = bv.toInt64 := fun z => by
    have hk0 : k0 = 0 := by
      rcases hc with ⟨h1, h2⟩ | ⟨h1, h2⟩ | ⟨h1, h2⟩
      · exact h1
      · rw [h2] at z; exact absurd z (by decide)
      · rw [h2] at z; exact absurd z (by decide)
    rw [if_pos hk0, hab z, sb_cl0]
    exact pk_uLs
  refine lv_aload_n hx hb dL_law_1837 rfl (lv_at hl 1 rfl) ?_
  refine lv_aload_n hx hb dL_law_1838 rfl (lv_at hl 0 rfl) ?_
  refine lv_iload hx hb dL_law_1839 (lv_at hl 4 rfl) ?_
  refine lv_iconst (v := 1) hx hb dL_law_1841 (by decide) ?_
  refine lv_iadd hx hb dL_law_1842 ?_
  refine k_sc C hw (j := i + 1) (nI_add i 1) (by omega) dL_law_1843 ?_
  refine lv_aload_n hx hb dL_law_1844 rfl (lv_at hl 3 rfl) ?_
  refine k_lw (rest := []) (As := [.ref (ad 0), .int (xs (i + 1)), .ref qo]) C (t_L_addedDays C.2.2.2.2.2.1 hf hc) cw_L_addedDays ml_L_241 hw rfl hl.1 rfl (Nat.le_of_ble_eq_true rfl) ⟨(Nat.le_of_ble_eq_true rfl), (Nat.le_of_ble_eq_true rfl)⟩ ⟨hcs, hss⟩ dL_law_1845 (fun H locs hw => ?_)
  refine lv_istore (lv' := [(5, .int c0), (0, .ref b), (1, .ref (ad 0)), (2, .ref (bd 0)), (3, .ref qo), (4, .int (nI i))]) hx hb dL_law_1848 hl (Nat.le_of_ble_eq_true rfl) rfl (fun ls hl => ?_)
  refine lv_aload_n hx hb dL_law_1850 rfl (lv_at hl 3 rfl) ?_
  refine lv_aload_n hx hb dL_law_1851 rfl (lv_at hl 1 rfl) ?_
  refine lv_iload hx hb dL_law_1852 (lv_at hl 5 rfl) ?_
  refine lv_iconst (v := 1) hx hb dL_law_1854 (by decide) ?_
  refine lv_iadd hx hb dL_law_1855 ?_
  refine k_sc C hw (j := i + 1) (nI_add i 1) (by omega) dL_law_1856 ?_
  refine k_lm (rest := []) (As := [.int (xs (i + 1))]) C (t_X7_addedDays hm) cv_X7_addedDays ml_L_243 hw rfl rfl rfl hl.1 rfl (Nat.le_of_ble_eq_true rfl) ⟨(Nat.le_of_ble_eq_true rfl), (Nat.le_of_ble_eq_true rfl)⟩ ⟨hcs, hss⟩ dL_law_1857 (fun H locs hw => ?_)
  refine lv_istore (lv' := [(6, .int bv), (5, .int c0), (0, .ref b), (1, .ref (ad 0)), (2, .ref (bd 0)), (3, .ref qo), (4, .int (nI i))]) hx hb dL_law_1860 hl (Nat.le_of_ble_eq_true rfl) rfl (fun ls hl => ?_)
  refine lv_aload_n hx hb dL_law_1862 rfl (lv_at hl 4 rfl) ?_
  refine k_lm (rest := []) (As := []) C (t_X7_thrown (n := 0) (rv := c0) (congrArg some hth)) cv_X7_thrown ml_L_155 hw rfl rfl rfl hl.1 rfl (Nat.le_of_ble_eq_true rfl) ⟨(Nat.le_of_ble_eq_true rfl), (Nat.le_of_ble_eq_true rfl)⟩ ⟨hcs, hss⟩ dL_law_1863 (fun H locs hw => ?_)
  refine lv_iload hx hb dL_law_1866 (lv_at hl 1 rfl) ?_
  refine lv_icmp_eq (tgt := 1873) hx hb dL_law_1868 rfl (fun c9 => ?_) (fun c9 => absurd rfl c9)
  refine lv_iload hx hb dL_law_1873 (lv_at hl 1 rfl) ?_
  refine lv_if_ne (tgt := 1890) hx hb dL_law_1875 rfl (fun c8 => ?_) (fun c8 => ?_)
  · refine lv_goto (tgt := 2739) hx hb dL_law_1890 rfl ?_
    exact kk _ H locs ls hw (lv_sub hl [2, 3, 4, 5, 6] rfl)
  · refine lv_aload_n hx hb dL_law_1878 rfl (lv_at hl 5 rfl) ?_
    refine lv_iconst (v := 0) hx hb dL_law_1879 (by decide) ?_
    refine k_lld C.1 hw 64 rfl (by decide) dL_law_1880 ?_
    rw [ho c8]
    refine lv_iload hx hb dL_law_1881 (lv_at hl 0 rfl) ?_
    refine lv_i2l hx hb dL_law_1883 rfl ?_
    refine W.lcmp hx hb dL_law_1884 ?_
    rw [lg_same]
    refine lv_if_eq (tgt := 1890) hx hb dL_law_1885 rfl (fun c7 => ?_) (fun c7 => absurd rfl c7)
    refine lv_goto (tgt := 2739) hx hb dL_law_1890 rfl ?_
    exact kk _ H locs ls hw (lv_sub hl [2, 3, 4, 5, 6] rfl)
set_option maxHeartbeats 4000000 in
set_option maxRecDepth 100000 in
theorem c_releaseDay (C : LC p l s m c b L xs A) {i : Nat} (hi : i + 5 ≤ L) {n : Nat} {k0 : Nat} {rv c0 : Int32} (hf : f_X6_releaseDay n x (xs (i + 1)) = some (k0, rv)) (hc : (k0 = 0 ∧ c0 = 0) ∨ (k0 = 3 ∧ c0 = 1) ∨ (k0 = 2 ∧ c0 = 2)) {n2 : Nat} {bv : Int32} {xm' : SX} (hm : f_X7_releaseDay n2 xm (xs (i + 1)) = some (bv, xm')) (hth : xm'.1 0 0 = c0) (hab : c0 = 0 → rv = bv) (hw : Wd G (wL G ad qb cap x y bd xm qo o) A s H locs) (hl : lv_has ls 7 [(0, .ref b), (1, .ref (ad 0)), (2, .ref (bd 0)), (3, .ref qo), (4, .int (nI i))]) (hcs : cells + 2 ≤ 601024) (hss : slots + 12 ≤ 7293034) (kk : ∀ (o' : Nat → Int64) (H1 : Heap) (locs1 : List Loc) (ls1 : Array Slot), Wd G (wL G ad qb cap x y bd xm' qo o') A s H1 locs1 → lv_has ls1 7 [(0, .ref b), (1, .ref (ad 0)), (2, .ref (bd 0)), (3, .ref qo), (4, .int (nI i))] → W p l e room_1 s m #[Value.ref b] below meth c H1 locs1 (cells + 2) (slots + 12) Q (F0 m 2739 ls1 [])) : W p l e room_1 s m #[Value.ref b] below meth c H locs cells slots Q (F0 m 1893 ls []) := by
  have hx := C.1.1
  have hb := C.1.2.1
  have hL := C.2.2.2.2.1
  have ho : c0 = 0 → (if k0 = 0 then vp_updL o 0 rv.toInt64 else o) ((0 : Int32).toNatClampNeg) = bv.toInt64 := fun z => by
    have hk0 : k0 = 0 := by
      rcases hc with ⟨h1, h2⟩ | ⟨h1, h2⟩ | ⟨h1, h2⟩
      · exact h1
      · rw [h2] at z; exact absurd z (by decide)
      · rw [h2] at z; exact absurd z (by decide)
    rw [if_pos hk0, hab z, sb_cl0]
    exact pk_uLs
  refine lv_aload_n hx hb dL_law_1893 rfl (lv_at hl 1 rfl) ?_
  refine lv_aload_n hx hb dL_law_1894 rfl (lv_at hl 0 rfl) ?_
  refine lv_iload hx hb dL_law_1895 (lv_at hl 4 rfl) ?_
  refine lv_iconst (v := 1) hx hb dL_law_1897 (by decide) ?_
  refine lv_iadd hx hb dL_law_1898 ?_
  refine k_sc C hw (j := i + 1) (nI_add i 1) (by omega) dL_law_1899 ?_
  refine lv_aload_n hx hb dL_law_1900 rfl (lv_at hl 3 rfl) ?_
  refine k_lw (rest := []) (As := [.ref (ad 0), .int (xs (i + 1)), .ref qo]) C (t_L_releaseDay C.2.2.2.2.2.1 hf hc) cw_L_releaseDay ml_L_244 hw rfl hl.1 rfl (Nat.le_of_ble_eq_true rfl) ⟨(Nat.le_of_ble_eq_true rfl), (Nat.le_of_ble_eq_true rfl)⟩ ⟨hcs, hss⟩ dL_law_1901 (fun H locs hw => ?_)
  refine lv_istore (lv' := [(5, .int c0), (0, .ref b), (1, .ref (ad 0)), (2, .ref (bd 0)), (3, .ref qo), (4, .int (nI i))]) hx hb dL_law_1904 hl (Nat.le_of_ble_eq_true rfl) rfl (fun ls hl => ?_)
  refine lv_aload_n hx hb dL_law_1906 rfl (lv_at hl 3 rfl) ?_
  refine lv_aload_n hx hb dL_law_1907 rfl (lv_at hl 1 rfl) ?_
  refine lv_iload hx hb dL_law_1908 (lv_at hl 5 rfl) ?_
  refine lv_iconst (v := 1) hx hb dL_law_1910 (by decide) ?_
  refine lv_iadd hx hb dL_law_1911 ?_
  refine k_sc C hw (j := i + 1) (nI_add i 1) (by omega) dL_law_1912 ?_
  refine k_lm (rest := []) (As := [.int (xs (i + 1))]) C (t_X7_releaseDay hm) cv_X7_releaseDay ml_L_246 hw rfl rfl rfl hl.1 rfl (Nat.le_of_ble_eq_true rfl) ⟨(Nat.le_of_ble_eq_true rfl), (Nat.le_of_ble_eq_true rfl)⟩ ⟨hcs, hss⟩ dL_law_1913 (fun H locs hw => ?_)
  refine lv_istore (lv' := [(6, .int bv), (5, .int c0), (0, .ref b), (1, .ref (ad 0)), (2, .ref (bd 0)), (3, .ref qo), (4, .int (nI i))]) hx hb dL_law_1916 hl (Nat.le_of_ble_eq_true rfl) rfl (fun ls hl => ?_)
  refine lv_aload_n hx hb dL_law_1918 rfl (lv_at hl 4 rfl) ?_
  refine k_lm (rest := []) (As := []) C (t_X7_thrown (n := 0) (rv := c0) (congrArg some hth)) cv_X7_thrown ml_L_155 hw rfl rfl rfl hl.1 rfl (Nat.le_of_ble_eq_true rfl) ⟨(Nat.le_of_ble_eq_true rfl), (Nat.le_of_ble_eq_true rfl)⟩ ⟨hcs, hss⟩ dL_law_1919 (fun H locs hw => ?_)
  refine lv_iload hx hb dL_law_1922 (lv_at hl 1 rfl) ?_
  refine lv_icmp_eq (tgt := 1929) hx hb dL_law_1924 rfl (fun c9 => ?_) (fun c9 => absurd rfl c9)
  refine lv_iload hx hb dL_law_1929 (lv_at hl 1 rfl) ?_
  refine lv_if_ne (tgt := 1946) hx hb dL_law_1931 rfl (fun c8 => ?_) (fun c8 => ?_)
  · refine lv_goto (tgt := 2739) hx hb dL_law_1946 rfl ?_
    exact kk _ H locs ls hw (lv_sub hl [2, 3, 4, 5, 6] rfl)
  · refine lv_aload_n hx hb dL_law_1934 rfl (lv_at hl 5 rfl) ?_
    refine lv_iconst (v := 0) hx hb dL_law_1935 (by decide) ?_
    refine k_lld C.1 hw 64 rfl (by decide) dL_law_1936 ?_
    rw [ho c8]
    refine lv_iload hx hb dL_law_1937 (lv_at hl 0 rfl) ?_
    refine lv_i2l hx hb dL_law_1939 rfl ?_
    refine W.lcmp hx hb dL_law_1940 ?_
    rw [lg_same]
    refine lv_if_eq (tgt := 1946) hx hb dL_law_1941 rfl (fun c7 => ?_) (fun c7 => absurd rfl c7)
    refine lv_goto (tgt := 2739) hx hb dL_law_1946 rfl ?_
    exact kk _ H locs ls hw (lv_sub hl [2, 3, 4, 5, 6] rfl)
set_option maxHeartbeats 4000000 in
set_option maxRecDepth 100000 in
theorem c_releaseDayByServing (C : LC p l s m c b L xs A) {i : Nat} (hi : i + 5 ≤ L) {n : Nat} {k0 : Nat} {rv c0 : Int32} (hf : f_X6_releaseDayByServing n x (xs (i + 1)) = some (k0, rv)) (hc : (k0 = 0 ∧ c0 = 0) ∨ (k0 = 3 ∧ c0 = 1) ∨ (k0 = 2 ∧ c0 = 2)) {n2 : Nat} {bv : Int32} {xm' : SX} (hm : f_X7_releaseDayByServing n2 xm (xs (i + 1)) = some (bv, xm')) (hth : xm'.1 0 0 = c0) (hab : c0 = 0 → rv = bv) (hw : Wd G (wL G ad qb cap x y bd xm qo o) A s H locs) (hl : lv_has ls 7 [(0, .ref b), (1, .ref (ad 0)), (2, .ref (bd 0)), (3, .ref qo), (4, .int (nI i))]) (hcs : cells + 2 ≤ 601024) (hss : slots + 12 ≤ 7293034) (kk : ∀ (o' : Nat → Int64) (H1 : Heap) (locs1 : List Loc) (ls1 : Array Slot), Wd G (wL G ad qb cap x y bd xm' qo o') A s H1 locs1 → lv_has ls1 7 [(0, .ref b), (1, .ref (ad 0)), (2, .ref (bd 0)), (3, .ref qo), (4, .int (nI i))] → W p l e room_1 s m #[Value.ref b] below meth c H1 locs1 (cells + 2) (slots + 12) Q (F0 m 2739 ls1 [])) : W p l e room_1 s m #[Value.ref b] below meth c H locs cells slots Q (F0 m 1949 ls []) := by
  have hx := C.1.1
  have hb := C.1.2.1
  have hL := C.2.2.2.2.1
  have ho : c0 = 0 → (if k0 = 0 then vp_updL o 0 rv.toInt64 else o) ((0 : Int32).toNatClampNeg) = bv.toInt64 := fun z => by
    have hk0 : k0 = 0 := by
      rcases hc with ⟨h1, h2⟩ | ⟨h1, h2⟩ | ⟨h1, h2⟩
      · exact h1
      · rw [h2] at z; exact absurd z (by decide)
      · rw [h2] at z; exact absurd z (by decide)
    rw [if_pos hk0, hab z, sb_cl0]
    exact pk_uLs
  refine lv_aload_n hx hb dL_law_1949 rfl (lv_at hl 1 rfl) ?_
  refine lv_aload_n hx hb dL_law_1950 rfl (lv_at hl 0 rfl) ?_
  refine lv_iload hx hb dL_law_1951 (lv_at hl 4 rfl) ?_
  refine lv_iconst (v := 1) hx hb dL_law_1953 (by decide) ?_
  refine lv_iadd hx hb dL_law_1954 ?_
  refine k_sc C hw (j := i + 1) (nI_add i 1) (by omega) dL_law_1955 ?_
  refine lv_aload_n hx hb dL_law_1956 rfl (lv_at hl 3 rfl) ?_
  refine k_lw (rest := []) (As := [.ref (ad 0), .int (xs (i + 1)), .ref qo]) C (t_L_releaseDayByServing C.2.2.2.2.2.1 hf hc) cw_L_releaseDayByServing ml_L_247 hw rfl hl.1 rfl (Nat.le_of_ble_eq_true rfl) ⟨(Nat.le_of_ble_eq_true rfl), (Nat.le_of_ble_eq_true rfl)⟩ ⟨hcs, hss⟩ dL_law_1957 (fun H locs hw => ?_)
  refine lv_istore (lv' := [(5, .int c0), (0, .ref b), (1, .ref (ad 0)), (2, .ref (bd 0)), (3, .ref qo), (4, .int (nI i))]) hx hb dL_law_1960 hl (Nat.le_of_ble_eq_true rfl) rfl (fun ls hl => ?_)
  refine lv_aload_n hx hb dL_law_1962 rfl (lv_at hl 3 rfl) ?_
  refine lv_aload_n hx hb dL_law_1963 rfl (lv_at hl 1 rfl) ?_
  refine lv_iload hx hb dL_law_1964 (lv_at hl 5 rfl) ?_
  refine lv_iconst (v := 1) hx hb dL_law_1966 (by decide) ?_
  refine lv_iadd hx hb dL_law_1967 ?_
  refine k_sc C hw (j := i + 1) (nI_add i 1) (by omega) dL_law_1968 ?_
  refine k_lm (rest := []) (As := [.int (xs (i + 1))]) C (t_X7_releaseDayByServing hm) cv_X7_releaseDayByServing ml_L_249 hw rfl rfl rfl hl.1 rfl (Nat.le_of_ble_eq_true rfl) ⟨(Nat.le_of_ble_eq_true rfl), (Nat.le_of_ble_eq_true rfl)⟩ ⟨hcs, hss⟩ dL_law_1969 (fun H locs hw => ?_)
  refine lv_istore (lv' := [(6, .int bv), (5, .int c0), (0, .ref b), (1, .ref (ad 0)), (2, .ref (bd 0)), (3, .ref qo), (4, .int (nI i))]) hx hb dL_law_1972 hl (Nat.le_of_ble_eq_true rfl) rfl (fun ls hl => ?_)
  refine lv_aload_n hx hb dL_law_1974 rfl (lv_at hl 4 rfl) ?_
  refine k_lm (rest := []) (As := []) C (t_X7_thrown (n := 0) (rv := c0) (congrArg some hth)) cv_X7_thrown ml_L_155 hw rfl rfl rfl hl.1 rfl (Nat.le_of_ble_eq_true rfl) ⟨(Nat.le_of_ble_eq_true rfl), (Nat.le_of_ble_eq_true rfl)⟩ ⟨hcs, hss⟩ dL_law_1975 (fun H locs hw => ?_)
  refine lv_iload hx hb dL_law_1978 (lv_at hl 1 rfl) ?_
  refine lv_icmp_eq (tgt := 1985) hx hb dL_law_1980 rfl (fun c9 => ?_) (fun c9 => absurd rfl c9)
  refine lv_iload hx hb dL_law_1985 (lv_at hl 1 rfl) ?_
  refine lv_if_ne (tgt := 2002) hx hb dL_law_1987 rfl (fun c8 => ?_) (fun c8 => ?_)
  · refine lv_goto (tgt := 2739) hx hb dL_law_2002 rfl ?_
    exact kk _ H locs ls hw (lv_sub hl [2, 3, 4, 5, 6] rfl)
  · refine lv_aload_n hx hb dL_law_1990 rfl (lv_at hl 5 rfl) ?_
    refine lv_iconst (v := 0) hx hb dL_law_1991 (by decide) ?_
    refine k_lld C.1 hw 64 rfl (by decide) dL_law_1992 ?_
    rw [ho c8]
    refine lv_iload hx hb dL_law_1993 (lv_at hl 0 rfl) ?_
    refine lv_i2l hx hb dL_law_1995 rfl ?_
    refine W.lcmp hx hb dL_law_1996 ?_
    rw [lg_same]
    refine lv_if_eq (tgt := 2002) hx hb dL_law_1997 rfl (fun c7 => ?_) (fun c7 => absurd rfl c7)
    refine lv_goto (tgt := 2739) hx hb dL_law_2002 rfl ?_
    exact kk _ H locs ls hw (lv_sub hl [2, 3, 4, 5, 6] rfl)
set_option maxHeartbeats 4000000 in
set_option maxRecDepth 100000 in
theorem c_endDay (C : LC p l s m c b L xs A) {i : Nat} (hi : i + 5 ≤ L) {n : Nat} {k0 : Nat} {rv c0 : Int32} (hf : f_X6_endDay n x (xs (i + 1)) = some (k0, rv)) (hc : (k0 = 0 ∧ c0 = 0) ∨ (k0 = 3 ∧ c0 = 1) ∨ (k0 = 2 ∧ c0 = 2)) {n2 : Nat} {bv : Int32} {xm' : SX} (hm : f_X7_endDay n2 xm (xs (i + 1)) = some (bv, xm')) (hth : xm'.1 0 0 = c0) (hab : c0 = 0 → rv = bv) (hw : Wd G (wL G ad qb cap x y bd xm qo o) A s H locs) (hl : lv_has ls 7 [(0, .ref b), (1, .ref (ad 0)), (2, .ref (bd 0)), (3, .ref qo), (4, .int (nI i))]) (hcs : cells + 2 ≤ 601024) (hss : slots + 12 ≤ 7293034) (kk : ∀ (o' : Nat → Int64) (H1 : Heap) (locs1 : List Loc) (ls1 : Array Slot), Wd G (wL G ad qb cap x y bd xm' qo o') A s H1 locs1 → lv_has ls1 7 [(0, .ref b), (1, .ref (ad 0)), (2, .ref (bd 0)), (3, .ref qo), (4, .int (nI i))] → W p l e room_1 s m #[Value.ref b] below meth c H1 locs1 (cells + 2) (slots + 12) Q (F0 m 2739 ls1 [])) : W p l e room_1 s m #[Value.ref b] below meth c H locs cells slots Q (F0 m 2005 ls []) := by
  have hx := C.1.1
  have hb := C.1.2.1
  have hL := C.2.2.2.2.1
  have ho : c0 = 0 → (if k0 = 0 then vp_updL o 0 rv.toInt64 else o) ((0 : Int32).toNatClampNeg) = bv.toInt64 := fun z => by
    have hk0 : k0 = 0 := by
      rcases hc with ⟨h1, h2⟩ | ⟨h1, h2⟩ | ⟨h1, h2⟩
      · exact h1
      · rw [h2] at z; exact absurd z (by decide)
      · rw [h2] at z; exact absurd z (by decide)
    rw [if_pos hk0, hab z, sb_cl0]
    exact pk_uLs
  refine lv_aload_n hx hb dL_law_2005 rfl (lv_at hl 1 rfl) ?_
  refine lv_aload_n hx hb dL_law_2006 rfl (lv_at hl 0 rfl) ?_
  refine lv_iload hx hb dL_law_2007 (lv_at hl 4 rfl) ?_
  refine lv_iconst (v := 1) hx hb dL_law_2009 (by decide) ?_
  refine lv_iadd hx hb dL_law_2010 ?_
  refine k_sc C hw (j := i + 1) (nI_add i 1) (by omega) dL_law_2011 ?_
  refine lv_aload_n hx hb dL_law_2012 rfl (lv_at hl 3 rfl) ?_
  refine k_lw (rest := []) (As := [.ref (ad 0), .int (xs (i + 1)), .ref qo]) C (t_L_endDay C.2.2.2.2.2.1 hf hc) cw_L_endDay ml_L_250 hw rfl hl.1 rfl (Nat.le_of_ble_eq_true rfl) ⟨(Nat.le_of_ble_eq_true rfl), (Nat.le_of_ble_eq_true rfl)⟩ ⟨hcs, hss⟩ dL_law_2013 (fun H locs hw => ?_)
  refine lv_istore (lv' := [(5, .int c0), (0, .ref b), (1, .ref (ad 0)), (2, .ref (bd 0)), (3, .ref qo), (4, .int (nI i))]) hx hb dL_law_2016 hl (Nat.le_of_ble_eq_true rfl) rfl (fun ls hl => ?_)
  refine lv_aload_n hx hb dL_law_2018 rfl (lv_at hl 3 rfl) ?_
  refine lv_aload_n hx hb dL_law_2019 rfl (lv_at hl 1 rfl) ?_
  refine lv_iload hx hb dL_law_2020 (lv_at hl 5 rfl) ?_
  refine lv_iconst (v := 1) hx hb dL_law_2022 (by decide) ?_
  refine lv_iadd hx hb dL_law_2023 ?_
  refine k_sc C hw (j := i + 1) (nI_add i 1) (by omega) dL_law_2024 ?_
  refine k_lm (rest := []) (As := [.int (xs (i + 1))]) C (t_X7_endDay hm) cv_X7_endDay ml_L_252 hw rfl rfl rfl hl.1 rfl (Nat.le_of_ble_eq_true rfl) ⟨(Nat.le_of_ble_eq_true rfl), (Nat.le_of_ble_eq_true rfl)⟩ ⟨hcs, hss⟩ dL_law_2025 (fun H locs hw => ?_)
  refine lv_istore (lv' := [(6, .int bv), (5, .int c0), (0, .ref b), (1, .ref (ad 0)), (2, .ref (bd 0)), (3, .ref qo), (4, .int (nI i))]) hx hb dL_law_2028 hl (Nat.le_of_ble_eq_true rfl) rfl (fun ls hl => ?_)
  refine lv_aload_n hx hb dL_law_2030 rfl (lv_at hl 4 rfl) ?_
  refine k_lm (rest := []) (As := []) C (t_X7_thrown (n := 0) (rv := c0) (congrArg some hth)) cv_X7_thrown ml_L_155 hw rfl rfl rfl hl.1 rfl (Nat.le_of_ble_eq_true rfl) ⟨(Nat.le_of_ble_eq_true rfl), (Nat.le_of_ble_eq_true rfl)⟩ ⟨hcs, hss⟩ dL_law_2031 (fun H locs hw => ?_)
  refine lv_iload hx hb dL_law_2034 (lv_at hl 1 rfl) ?_
  refine lv_icmp_eq (tgt := 2041) hx hb dL_law_2036 rfl (fun c9 => ?_) (fun c9 => absurd rfl c9)
  refine lv_iload hx hb dL_law_2041 (lv_at hl 1 rfl) ?_
  refine lv_if_ne (tgt := 2058) hx hb dL_law_2043 rfl (fun c8 => ?_) (fun c8 => ?_)
  · refine lv_goto (tgt := 2739) hx hb dL_law_2058 rfl ?_
    exact kk _ H locs ls hw (lv_sub hl [2, 3, 4, 5, 6] rfl)
  · refine lv_aload_n hx hb dL_law_2046 rfl (lv_at hl 5 rfl) ?_
    refine lv_iconst (v := 0) hx hb dL_law_2047 (by decide) ?_
    refine k_lld C.1 hw 64 rfl (by decide) dL_law_2048 ?_
    rw [ho c8]
    refine lv_iload hx hb dL_law_2049 (lv_at hl 0 rfl) ?_
    refine lv_i2l hx hb dL_law_2051 rfl ?_
    refine W.lcmp hx hb dL_law_2052 ?_
    rw [lg_same]
    refine lv_if_eq (tgt := 2058) hx hb dL_law_2053 rfl (fun c7 => ?_) (fun c7 => absurd rfl c7)
    refine lv_goto (tgt := 2739) hx hb dL_law_2058 rfl ?_
    exact kk _ H locs ls hw (lv_sub hl [2, 3, 4, 5, 6] rfl)
set_option maxHeartbeats 4000000 in
set_option maxRecDepth 100000 in
theorem c_status (C : LC p l s m c b L xs A) {i : Nat} (hi : i + 5 ≤ L) {n : Nat} {rv : Int32} (hf : f_X6_status n x = some rv) {n2 : Nat} {bv : Int32} {xm' : SX} (hm : f_X7_status n2 xm = some (bv, xm')) (hab : rv = bv) (hw : Wd G (wL G ad qb cap x y bd xm qo o) A s H locs) (hl : lv_has ls 7 [(0, .ref b), (1, .ref (ad 0)), (2, .ref (bd 0)), (3, .ref qo), (4, .int (nI i))]) (hcs : cells + 1 ≤ 601024) (hss : slots + 6 ≤ 7293034) (kk : ∀ (H1 : Heap) (locs1 : List Loc) (ls1 : Array Slot), Wd G (wL G ad qb cap x y bd xm' qo o) A s H1 locs1 → lv_has ls1 7 [(0, .ref b), (1, .ref (ad 0)), (2, .ref (bd 0)), (3, .ref qo), (4, .int (nI i))] → W p l e room_1 s m #[Value.ref b] below meth c H1 locs1 (cells + 1) (slots + 6) Q (F0 m 2739 ls1 [])) : W p l e room_1 s m #[Value.ref b] below meth c H locs cells slots Q (F0 m 2061 ls []) := by
  have hx := C.1.1
  have hb := C.1.2.1
  refine W.widen (k := cells + 1) (n := slots + 6) (by omega) (by omega) ?_
  refine lv_aload_n hx hb dL_law_2061 rfl (lv_at hl 1 rfl) ?_
  refine k_lx (rest := []) (As := []) C (t_X6_status hf) cv_X6_status ml_L_253 hw rfl rfl rfl hl.1 rfl (Nat.le_of_ble_eq_true rfl) ⟨(Nat.le_of_ble_eq_true rfl), (Nat.le_of_ble_eq_true rfl)⟩ ⟨hcs, hss⟩ dL_law_2062 (fun H locs hw => ?_)
  refine lv_aload_n hx hb dL_law_2065 rfl (lv_at hl 2 rfl) ?_
  refine k_lm (rest := [.int rv]) (As := []) C (t_X7_status hm) cv_X7_status ml_L_256 hw rfl rfl rfl hl.1 rfl (Nat.le_of_ble_eq_true rfl) ⟨(Nat.le_of_ble_eq_true rfl), (Nat.le_of_ble_eq_true rfl)⟩ ⟨hcs, hss⟩ dL_law_2066 (fun H locs hw => ?_)
  refine lv_icmp_eq (tgt := 2739) hx hb dL_law_2069 rfl (fun c9 => ?_) (fun c9 => absurd hab c9)
  exact kk H locs ls hw (lv_sub hl [0, 1, 2, 3, 4] rfl)
set_option maxHeartbeats 4000000 in
set_option maxRecDepth 100000 in
theorem c_lastRelease (C : LC p l s m c b L xs A) {i : Nat} (hi : i + 5 ≤ L) {n : Nat} {k0 : Nat} {rv c0 : Int32} (hf : f_X6_lastRelease n x = some (k0, rv)) (hc : (k0 = 0 ∧ c0 = 0) ∨ (k0 = 4 ∧ c0 = 1)) {n2 : Nat} {bv : Int32} {xm' : SX} (hm : f_X7_lastRelease n2 xm = some (bv, xm')) (hth : xm'.1 0 0 = c0) (hab : c0 = 0 → rv = bv) (hw : Wd G (wL G ad qb cap x y bd xm qo o) A s H locs) (hl : lv_has ls 7 [(0, .ref b), (1, .ref (ad 0)), (2, .ref (bd 0)), (3, .ref qo), (4, .int (nI i))]) (hcs : cells + 1 ≤ 601024) (hss : slots + 6 ≤ 7293034) (kk : ∀ (o' : Nat → Int64) (H1 : Heap) (locs1 : List Loc) (ls1 : Array Slot), Wd G (wL G ad qb cap x y bd xm' qo o') A s H1 locs1 → lv_has ls1 7 [(0, .ref b), (1, .ref (ad 0)), (2, .ref (bd 0)), (3, .ref qo), (4, .int (nI i))] → W p l e room_1 s m #[Value.ref b] below meth c H1 locs1 (cells + 1) (slots + 6) Q (F0 m 2739 ls1 [])) : W p l e room_1 s m #[Value.ref b] below meth c H locs cells slots Q (F0 m 2074 ls []) := by
  have hx := C.1.1
  have hb := C.1.2.1
  have hL := C.2.2.2.2.1
  have ho : c0 = 0 → (if k0 = 0 then vp_updL o 0 rv.toInt64 else o) ((0 : Int32).toNatClampNeg) = bv.toInt64 := fun z => by
    have hk0 : k0 = 0 := by
      rcases hc with ⟨h1, h2⟩ | ⟨h1, h2⟩
      · exact h1
      · rw [h2] at z; exact absurd z (by decide)
    rw [if_pos hk0, hab z, sb_cl0]
    exact pk_uLs
  refine lv_aload_n hx hb dL_law_2074 rfl (lv_at hl 1 rfl) ?_
  refine lv_aload_n hx hb dL_law_2075 rfl (lv_at hl 3 rfl) ?_
  refine k_lw (rest := []) (As := [.ref (ad 0), .ref qo]) C (t_L_lastRelease C.2.2.2.2.2.1 hf hc) cw_L_lastRelease ml_L_257 hw rfl hl.1 rfl (Nat.le_of_ble_eq_true rfl) ⟨(Nat.le_of_ble_eq_true rfl), (Nat.le_of_ble_eq_true rfl)⟩ ⟨hcs, hss⟩ dL_law_2076 (fun H locs hw => ?_)
  refine lv_istore (lv' := [(5, .int c0), (0, .ref b), (1, .ref (ad 0)), (2, .ref (bd 0)), (3, .ref qo), (4, .int (nI i))]) hx hb dL_law_2079 hl (Nat.le_of_ble_eq_true rfl) rfl (fun ls hl => ?_)
  refine lv_aload_n hx hb dL_law_2081 rfl (lv_at hl 3 rfl) ?_
  refine k_lm (rest := []) (As := []) C (t_X7_lastRelease hm) cv_X7_lastRelease ml_L_260 hw rfl rfl rfl hl.1 rfl (Nat.le_of_ble_eq_true rfl) ⟨(Nat.le_of_ble_eq_true rfl), (Nat.le_of_ble_eq_true rfl)⟩ ⟨hcs, hss⟩ dL_law_2082 (fun H locs hw => ?_)
  refine lv_istore (lv' := [(6, .int bv), (5, .int c0), (0, .ref b), (1, .ref (ad 0)), (2, .ref (bd 0)), (3, .ref qo), (4, .int (nI i))]) hx hb dL_law_2085 hl (Nat.le_of_ble_eq_true rfl) rfl (fun ls hl => ?_)
  refine lv_aload_n hx hb dL_law_2087 rfl (lv_at hl 4 rfl) ?_
  refine k_lm (rest := []) (As := []) C (t_X7_thrown (n := 0) (rv := c0) (congrArg some hth)) cv_X7_thrown ml_L_155 hw rfl rfl rfl hl.1 rfl (Nat.le_of_ble_eq_true rfl) ⟨(Nat.le_of_ble_eq_true rfl), (Nat.le_of_ble_eq_true rfl)⟩ ⟨hcs, hss⟩ dL_law_2088 (fun H locs hw => ?_)
  refine lv_iload hx hb dL_law_2091 (lv_at hl 1 rfl) ?_
  refine lv_icmp_eq (tgt := 2098) hx hb dL_law_2093 rfl (fun c9 => ?_) (fun c9 => absurd rfl c9)
  refine lv_iload hx hb dL_law_2098 (lv_at hl 1 rfl) ?_
  refine lv_if_ne (tgt := 2115) hx hb dL_law_2100 rfl (fun c8 => ?_) (fun c8 => ?_)
  · refine lv_goto (tgt := 2739) hx hb dL_law_2115 rfl ?_
    exact kk _ H locs ls hw (lv_sub hl [2, 3, 4, 5, 6] rfl)
  · refine lv_aload_n hx hb dL_law_2103 rfl (lv_at hl 5 rfl) ?_
    refine lv_iconst (v := 0) hx hb dL_law_2104 (by decide) ?_
    refine k_lld C.1 hw 64 rfl (by decide) dL_law_2105 ?_
    rw [ho c8]
    refine lv_iload hx hb dL_law_2106 (lv_at hl 0 rfl) ?_
    refine lv_i2l hx hb dL_law_2108 rfl ?_
    refine W.lcmp hx hb dL_law_2109 ?_
    rw [lg_same]
    refine lv_if_eq (tgt := 2115) hx hb dL_law_2110 rfl (fun c7 => ?_) (fun c7 => absurd rfl c7)
    refine lv_goto (tgt := 2739) hx hb dL_law_2115 rfl ?_
    exact kk _ H locs ls hw (lv_sub hl [2, 3, 4, 5, 6] rfl)
set_option maxHeartbeats 4000000 in
set_option maxRecDepth 100000 in
theorem c_lastEnd (C : LC p l s m c b L xs A) {i : Nat} (hi : i + 5 ≤ L) {n : Nat} {k0 : Nat} {rv c0 : Int32} (hf : f_X6_lastEnd n x = some (k0, rv)) (hc : (k0 = 0 ∧ c0 = 0) ∨ (k0 = 4 ∧ c0 = 1)) {n2 : Nat} {bv : Int32} {xm' : SX} (hm : f_X7_lastEnd n2 xm = some (bv, xm')) (hth : xm'.1 0 0 = c0) (hab : c0 = 0 → rv = bv) (hw : Wd G (wL G ad qb cap x y bd xm qo o) A s H locs) (hl : lv_has ls 7 [(0, .ref b), (1, .ref (ad 0)), (2, .ref (bd 0)), (3, .ref qo), (4, .int (nI i))]) (hcs : cells + 1 ≤ 601024) (hss : slots + 6 ≤ 7293034) (kk : ∀ (o' : Nat → Int64) (H1 : Heap) (locs1 : List Loc) (ls1 : Array Slot), Wd G (wL G ad qb cap x y bd xm' qo o') A s H1 locs1 → lv_has ls1 7 [(0, .ref b), (1, .ref (ad 0)), (2, .ref (bd 0)), (3, .ref qo), (4, .int (nI i))] → W p l e room_1 s m #[Value.ref b] below meth c H1 locs1 (cells + 1) (slots + 6) Q (F0 m 2739 ls1 [])) : W p l e room_1 s m #[Value.ref b] below meth c H locs cells slots Q (F0 m 2118 ls []) := by
  have hx := C.1.1
  have hb := C.1.2.1
  have hL := C.2.2.2.2.1
  have ho : c0 = 0 → (if k0 = 0 then vp_updL o 0 rv.toInt64 else o) ((0 : Int32).toNatClampNeg) = bv.toInt64 := fun z => by
    have hk0 : k0 = 0 := by
      rcases hc with ⟨h1, h2⟩ | ⟨h1, h2⟩
      · exact h1
      · rw [h2] at z; exact absurd z (by decide)
    rw [if_pos hk0, hab z, sb_cl0]
    exact pk_uLs
  refine lv_aload_n hx hb dL_law_2118 rfl (lv_at hl 1 rfl) ?_
  refine lv_aload_n hx hb dL_law_2119 rfl (lv_at hl 3 rfl) ?_
  refine k_lw (rest := []) (As := [.ref (ad 0), .ref qo]) C (t_L_lastEnd C.2.2.2.2.2.1 hf hc) cw_L_lastEnd ml_L_261 hw rfl hl.1 rfl (Nat.le_of_ble_eq_true rfl) ⟨(Nat.le_of_ble_eq_true rfl), (Nat.le_of_ble_eq_true rfl)⟩ ⟨hcs, hss⟩ dL_law_2120 (fun H locs hw => ?_)
  refine lv_istore (lv' := [(5, .int c0), (0, .ref b), (1, .ref (ad 0)), (2, .ref (bd 0)), (3, .ref qo), (4, .int (nI i))]) hx hb dL_law_2123 hl (Nat.le_of_ble_eq_true rfl) rfl (fun ls hl => ?_)
  refine lv_aload_n hx hb dL_law_2125 rfl (lv_at hl 3 rfl) ?_
  refine k_lm (rest := []) (As := []) C (t_X7_lastEnd hm) cv_X7_lastEnd ml_L_263 hw rfl rfl rfl hl.1 rfl (Nat.le_of_ble_eq_true rfl) ⟨(Nat.le_of_ble_eq_true rfl), (Nat.le_of_ble_eq_true rfl)⟩ ⟨hcs, hss⟩ dL_law_2126 (fun H locs hw => ?_)
  refine lv_istore (lv' := [(6, .int bv), (5, .int c0), (0, .ref b), (1, .ref (ad 0)), (2, .ref (bd 0)), (3, .ref qo), (4, .int (nI i))]) hx hb dL_law_2129 hl (Nat.le_of_ble_eq_true rfl) rfl (fun ls hl => ?_)
  refine lv_aload_n hx hb dL_law_2131 rfl (lv_at hl 4 rfl) ?_
  refine k_lm (rest := []) (As := []) C (t_X7_thrown (n := 0) (rv := c0) (congrArg some hth)) cv_X7_thrown ml_L_155 hw rfl rfl rfl hl.1 rfl (Nat.le_of_ble_eq_true rfl) ⟨(Nat.le_of_ble_eq_true rfl), (Nat.le_of_ble_eq_true rfl)⟩ ⟨hcs, hss⟩ dL_law_2132 (fun H locs hw => ?_)
  refine lv_iload hx hb dL_law_2135 (lv_at hl 1 rfl) ?_
  refine lv_icmp_eq (tgt := 2142) hx hb dL_law_2137 rfl (fun c9 => ?_) (fun c9 => absurd rfl c9)
  refine lv_iload hx hb dL_law_2142 (lv_at hl 1 rfl) ?_
  refine lv_if_ne (tgt := 2159) hx hb dL_law_2144 rfl (fun c8 => ?_) (fun c8 => ?_)
  · refine lv_goto (tgt := 2739) hx hb dL_law_2159 rfl ?_
    exact kk _ H locs ls hw (lv_sub hl [2, 3, 4, 5, 6] rfl)
  · refine lv_aload_n hx hb dL_law_2147 rfl (lv_at hl 5 rfl) ?_
    refine lv_iconst (v := 0) hx hb dL_law_2148 (by decide) ?_
    refine k_lld C.1 hw 64 rfl (by decide) dL_law_2149 ?_
    rw [ho c8]
    refine lv_iload hx hb dL_law_2150 (lv_at hl 0 rfl) ?_
    refine lv_i2l hx hb dL_law_2152 rfl ?_
    refine W.lcmp hx hb dL_law_2153 ?_
    rw [lg_same]
    refine lv_if_eq (tgt := 2159) hx hb dL_law_2154 rfl (fun c7 => ?_) (fun c7 => absurd rfl c7)
    refine lv_goto (tgt := 2739) hx hb dL_law_2159 rfl ?_
    exact kk _ H locs ls hw (lv_sub hl [2, 3, 4, 5, 6] rfl)
set_option maxHeartbeats 4000000 in
set_option maxRecDepth 100000 in
theorem c_decidingTerm (C : LC p l s m c b L xs A) {i : Nat} (hi : i + 5 ≤ L) {n : Nat} {k0 : Nat} {rv c0 : Int32} (hf : f_X6_decidingTerm n x = some (k0, rv)) (hc : (k0 = 0 ∧ c0 = 0) ∨ (k0 = 4 ∧ c0 = 1)) {n2 : Nat} {bv : Int32} {xm' : SX} (hm : f_X7_decidingTerm n2 xm = some (bv, xm')) (hth : xm'.1 0 0 = c0) (hab : c0 = 0 → rv = bv) (hw : Wd G (wL G ad qb cap x y bd xm qo o) A s H locs) (hl : lv_has ls 7 [(0, .ref b), (1, .ref (ad 0)), (2, .ref (bd 0)), (3, .ref qo), (4, .int (nI i))]) (hcs : cells + 1 ≤ 601024) (hss : slots + 6 ≤ 7293034) (kk : ∀ (o' : Nat → Int64) (H1 : Heap) (locs1 : List Loc) (ls1 : Array Slot), Wd G (wL G ad qb cap x y bd xm' qo o') A s H1 locs1 → lv_has ls1 7 [(0, .ref b), (1, .ref (ad 0)), (2, .ref (bd 0)), (3, .ref qo), (4, .int (nI i))] → W p l e room_1 s m #[Value.ref b] below meth c H1 locs1 (cells + 1) (slots + 6) Q (F0 m 2739 ls1 [])) : W p l e room_1 s m #[Value.ref b] below meth c H locs cells slots Q (F0 m 2162 ls []) := by
  have hx := C.1.1
  have hb := C.1.2.1
  have hL := C.2.2.2.2.1
  have ho : c0 = 0 → (if k0 = 0 then vp_updL o 0 rv.toInt64 else o) ((0 : Int32).toNatClampNeg) = bv.toInt64 := fun z => by
    have hk0 : k0 = 0 := by
      rcases hc with ⟨h1, h2⟩ | ⟨h1, h2⟩
      · exact h1
      · rw [h2] at z; exact absurd z (by decide)
    rw [if_pos hk0, hab z, sb_cl0]
    exact pk_uLs
  refine lv_aload_n hx hb dL_law_2162 rfl (lv_at hl 1 rfl) ?_
  refine lv_aload_n hx hb dL_law_2163 rfl (lv_at hl 3 rfl) ?_
  refine k_lw (rest := []) (As := [.ref (ad 0), .ref qo]) C (t_L_decidingTerm C.2.2.2.2.2.1 hf hc) cw_L_decidingTerm ml_L_264 hw rfl hl.1 rfl (Nat.le_of_ble_eq_true rfl) ⟨(Nat.le_of_ble_eq_true rfl), (Nat.le_of_ble_eq_true rfl)⟩ ⟨hcs, hss⟩ dL_law_2164 (fun H locs hw => ?_)
  refine lv_istore (lv' := [(5, .int c0), (0, .ref b), (1, .ref (ad 0)), (2, .ref (bd 0)), (3, .ref qo), (4, .int (nI i))]) hx hb dL_law_2167 hl (Nat.le_of_ble_eq_true rfl) rfl (fun ls hl => ?_)
  refine lv_aload_n hx hb dL_law_2169 rfl (lv_at hl 3 rfl) ?_
  refine k_lm (rest := []) (As := []) C (t_X7_decidingTerm hm) cv_X7_decidingTerm ml_L_266 hw rfl rfl rfl hl.1 rfl (Nat.le_of_ble_eq_true rfl) ⟨(Nat.le_of_ble_eq_true rfl), (Nat.le_of_ble_eq_true rfl)⟩ ⟨hcs, hss⟩ dL_law_2170 (fun H locs hw => ?_)
  refine lv_istore (lv' := [(6, .int bv), (5, .int c0), (0, .ref b), (1, .ref (ad 0)), (2, .ref (bd 0)), (3, .ref qo), (4, .int (nI i))]) hx hb dL_law_2173 hl (Nat.le_of_ble_eq_true rfl) rfl (fun ls hl => ?_)
  refine lv_aload_n hx hb dL_law_2175 rfl (lv_at hl 4 rfl) ?_
  refine k_lm (rest := []) (As := []) C (t_X7_thrown (n := 0) (rv := c0) (congrArg some hth)) cv_X7_thrown ml_L_155 hw rfl rfl rfl hl.1 rfl (Nat.le_of_ble_eq_true rfl) ⟨(Nat.le_of_ble_eq_true rfl), (Nat.le_of_ble_eq_true rfl)⟩ ⟨hcs, hss⟩ dL_law_2176 (fun H locs hw => ?_)
  refine lv_iload hx hb dL_law_2179 (lv_at hl 1 rfl) ?_
  refine lv_icmp_eq (tgt := 2186) hx hb dL_law_2181 rfl (fun c9 => ?_) (fun c9 => absurd rfl c9)
  refine lv_iload hx hb dL_law_2186 (lv_at hl 1 rfl) ?_
  refine lv_if_ne (tgt := 2203) hx hb dL_law_2188 rfl (fun c8 => ?_) (fun c8 => ?_)
  · refine lv_goto (tgt := 2739) hx hb dL_law_2203 rfl ?_
    exact kk _ H locs ls hw (lv_sub hl [2, 3, 4, 5, 6] rfl)
  · refine lv_aload_n hx hb dL_law_2191 rfl (lv_at hl 5 rfl) ?_
    refine lv_iconst (v := 0) hx hb dL_law_2192 (by decide) ?_
    refine k_lld C.1 hw 64 rfl (by decide) dL_law_2193 ?_
    rw [ho c8]
    refine lv_iload hx hb dL_law_2194 (lv_at hl 0 rfl) ?_
    refine lv_i2l hx hb dL_law_2196 rfl ?_
    refine W.lcmp hx hb dL_law_2197 ?_
    rw [lg_same]
    refine lv_if_eq (tgt := 2203) hx hb dL_law_2198 rfl (fun c7 => ?_) (fun c7 => absurd rfl c7)
    refine lv_goto (tgt := 2739) hx hb dL_law_2203 rfl ?_
    exact kk _ H locs ls hw (lv_sub hl [2, 3, 4, 5, 6] rfl)
set_option maxHeartbeats 4000000 in
set_option maxRecDepth 100000 in
theorem c_termByRelease (C : LC p l s m c b L xs A) {i : Nat} (hi : i + 5 ≤ L) {n : Nat} {k0 : Nat} {rv c0 : Int32} (hf : f_X6_termByRelease n x (xs (i + 1)) = some (k0, rv)) (hc : (k0 = 0 ∧ c0 = 0) ∨ (k0 = 3 ∧ c0 = 1)) {n2 : Nat} {bv : Int32} {xm' : SX} (hm : f_X7_termByRelease n2 xm (xs (i + 1)) = some (bv, xm')) (hth : xm'.1 0 0 = c0) (hab : c0 = 0 → rv = bv) (hw : Wd G (wL G ad qb cap x y bd xm qo o) A s H locs) (hl : lv_has ls 7 [(0, .ref b), (1, .ref (ad 0)), (2, .ref (bd 0)), (3, .ref qo), (4, .int (nI i))]) (hcs : cells + 1 ≤ 601024) (hss : slots + 6 ≤ 7293034) (kk : ∀ (o' : Nat → Int64) (H1 : Heap) (locs1 : List Loc) (ls1 : Array Slot), Wd G (wL G ad qb cap x y bd xm' qo o') A s H1 locs1 → lv_has ls1 7 [(0, .ref b), (1, .ref (ad 0)), (2, .ref (bd 0)), (3, .ref qo), (4, .int (nI i))] → W p l e room_1 s m #[Value.ref b] below meth c H1 locs1 (cells + 1) (slots + 6) Q (F0 m 2739 ls1 [])) : W p l e room_1 s m #[Value.ref b] below meth c H locs cells slots Q (F0 m 2206 ls []) := by
  have hx := C.1.1
  have hb := C.1.2.1
  have hL := C.2.2.2.2.1
  have ho : c0 = 0 → (if k0 = 0 then vp_updL o 0 rv.toInt64 else o) ((0 : Int32).toNatClampNeg) = bv.toInt64 := fun z => by
    have hk0 : k0 = 0 := by
      rcases hc with ⟨h1, h2⟩ | ⟨h1, h2⟩
      · exact h1
      · rw [h2] at z; exact absurd z (by decide)
    rw [if_pos hk0, hab z, sb_cl0]
    exact pk_uLs
  refine lv_aload_n hx hb dL_law_2206 rfl (lv_at hl 1 rfl) ?_
  refine lv_aload_n hx hb dL_law_2207 rfl (lv_at hl 0 rfl) ?_
  refine lv_iload hx hb dL_law_2208 (lv_at hl 4 rfl) ?_
  refine lv_iconst (v := 1) hx hb dL_law_2210 (by decide) ?_
  refine lv_iadd hx hb dL_law_2211 ?_
  refine k_sc C hw (j := i + 1) (nI_add i 1) (by omega) dL_law_2212 ?_
  refine lv_aload_n hx hb dL_law_2213 rfl (lv_at hl 3 rfl) ?_
  refine k_lw (rest := []) (As := [.ref (ad 0), .int (xs (i + 1)), .ref qo]) C (t_L_termByRelease C.2.2.2.2.2.1 hf hc) cw_L_termByRelease ml_L_267 hw rfl hl.1 rfl (Nat.le_of_ble_eq_true rfl) ⟨(Nat.le_of_ble_eq_true rfl), (Nat.le_of_ble_eq_true rfl)⟩ ⟨hcs, hss⟩ dL_law_2214 (fun H locs hw => ?_)
  refine lv_istore (lv' := [(5, .int c0), (0, .ref b), (1, .ref (ad 0)), (2, .ref (bd 0)), (3, .ref qo), (4, .int (nI i))]) hx hb dL_law_2217 hl (Nat.le_of_ble_eq_true rfl) rfl (fun ls hl => ?_)
  refine lv_aload_n hx hb dL_law_2219 rfl (lv_at hl 3 rfl) ?_
  refine lv_aload_n hx hb dL_law_2220 rfl (lv_at hl 1 rfl) ?_
  refine lv_iload hx hb dL_law_2221 (lv_at hl 5 rfl) ?_
  refine lv_iconst (v := 1) hx hb dL_law_2223 (by decide) ?_
  refine lv_iadd hx hb dL_law_2224 ?_
  refine k_sc C hw (j := i + 1) (nI_add i 1) (by omega) dL_law_2225 ?_
  refine k_lm (rest := []) (As := [.int (xs (i + 1))]) C (t_X7_termByRelease hm) cv_X7_termByRelease ml_L_269 hw rfl rfl rfl hl.1 rfl (Nat.le_of_ble_eq_true rfl) ⟨(Nat.le_of_ble_eq_true rfl), (Nat.le_of_ble_eq_true rfl)⟩ ⟨hcs, hss⟩ dL_law_2226 (fun H locs hw => ?_)
  refine lv_istore (lv' := [(6, .int bv), (5, .int c0), (0, .ref b), (1, .ref (ad 0)), (2, .ref (bd 0)), (3, .ref qo), (4, .int (nI i))]) hx hb dL_law_2229 hl (Nat.le_of_ble_eq_true rfl) rfl (fun ls hl => ?_)
  refine lv_aload_n hx hb dL_law_2231 rfl (lv_at hl 4 rfl) ?_
  refine k_lm (rest := []) (As := []) C (t_X7_thrown (n := 0) (rv := c0) (congrArg some hth)) cv_X7_thrown ml_L_155 hw rfl rfl rfl hl.1 rfl (Nat.le_of_ble_eq_true rfl) ⟨(Nat.le_of_ble_eq_true rfl), (Nat.le_of_ble_eq_true rfl)⟩ ⟨hcs, hss⟩ dL_law_2232 (fun H locs hw => ?_)
  refine lv_iload hx hb dL_law_2235 (lv_at hl 1 rfl) ?_
  refine lv_icmp_eq (tgt := 2242) hx hb dL_law_2237 rfl (fun c9 => ?_) (fun c9 => absurd rfl c9)
  refine lv_iload hx hb dL_law_2242 (lv_at hl 1 rfl) ?_
  refine lv_if_ne (tgt := 2259) hx hb dL_law_2244 rfl (fun c8 => ?_) (fun c8 => ?_)
  · refine lv_goto (tgt := 2739) hx hb dL_law_2259 rfl ?_
    exact kk _ H locs ls hw (lv_sub hl [2, 3, 4, 5, 6] rfl)
  · refine lv_aload_n hx hb dL_law_2247 rfl (lv_at hl 5 rfl) ?_
    refine lv_iconst (v := 0) hx hb dL_law_2248 (by decide) ?_
    refine k_lld C.1 hw 64 rfl (by decide) dL_law_2249 ?_
    rw [ho c8]
    refine lv_iload hx hb dL_law_2250 (lv_at hl 0 rfl) ?_
    refine lv_i2l hx hb dL_law_2252 rfl ?_
    refine W.lcmp hx hb dL_law_2253 ?_
    rw [lg_same]
    refine lv_if_eq (tgt := 2259) hx hb dL_law_2254 rfl (fun c7 => ?_) (fun c7 => absurd rfl c7)
    refine lv_goto (tgt := 2739) hx hb dL_law_2259 rfl ?_
    exact kk _ H locs ls hw (lv_sub hl [2, 3, 4, 5, 6] rfl)
set_option maxHeartbeats 4000000 in
set_option maxRecDepth 100000 in
theorem c_daysInCustodyLeft (C : LC p l s m c b L xs A) {i : Nat} (hi : i + 5 ≤ L) {n : Nat} {rv : Int32} (hf : f_X6_daysInCustodyLeft n x = some rv) {n2 : Nat} {bv : Int32} {xm' : SX} (hm : f_X7_daysInCustodyLeft n2 xm = some (bv, xm')) (hab : rv = bv) (hw : Wd G (wL G ad qb cap x y bd xm qo o) A s H locs) (hl : lv_has ls 7 [(0, .ref b), (1, .ref (ad 0)), (2, .ref (bd 0)), (3, .ref qo), (4, .int (nI i))]) (hcs : cells + 1 ≤ 601024) (hss : slots + 6 ≤ 7293034) (kk : ∀ (H1 : Heap) (locs1 : List Loc) (ls1 : Array Slot), Wd G (wL G ad qb cap x y bd xm' qo o) A s H1 locs1 → lv_has ls1 7 [(0, .ref b), (1, .ref (ad 0)), (2, .ref (bd 0)), (3, .ref qo), (4, .int (nI i))] → W p l e room_1 s m #[Value.ref b] below meth c H1 locs1 (cells + 1) (slots + 6) Q (F0 m 2739 ls1 [])) : W p l e room_1 s m #[Value.ref b] below meth c H locs cells slots Q (F0 m 2262 ls []) := by
  have hx := C.1.1
  have hb := C.1.2.1
  refine W.widen (k := cells + 1) (n := slots + 6) (by omega) (by omega) ?_
  refine lv_aload_n hx hb dL_law_2262 rfl (lv_at hl 1 rfl) ?_
  refine k_lx (rest := []) (As := []) C (t_X6_daysInCustodyLeft hf) cv_X6_daysInCustodyLeft ml_L_270 hw rfl rfl rfl hl.1 rfl (Nat.le_of_ble_eq_true rfl) ⟨(Nat.le_of_ble_eq_true rfl), (Nat.le_of_ble_eq_true rfl)⟩ ⟨hcs, hss⟩ dL_law_2263 (fun H locs hw => ?_)
  refine lv_aload_n hx hb dL_law_2266 rfl (lv_at hl 2 rfl) ?_
  refine k_lm (rest := [.int rv]) (As := []) C (t_X7_daysInCustodyLeft hm) cv_X7_daysInCustodyLeft ml_L_273 hw rfl rfl rfl hl.1 rfl (Nat.le_of_ble_eq_true rfl) ⟨(Nat.le_of_ble_eq_true rfl), (Nat.le_of_ble_eq_true rfl)⟩ ⟨hcs, hss⟩ dL_law_2267 (fun H locs hw => ?_)
  refine lv_icmp_eq (tgt := 2739) hx hb dL_law_2270 rfl (fun c9 => ?_) (fun c9 => absurd hab c9)
  exact kk H locs ls hw (lv_sub hl [0, 1, 2, 3, 4] rfl)
set_option maxHeartbeats 4000000 in
set_option maxRecDepth 100000 in
theorem c_recallCount (C : LC p l s m c b L xs A) {i : Nat} (hi : i + 5 ≤ L) {n : Nat} {rv : Int32} (hf : f_X6_recallCount n x = some rv) {n2 : Nat} {bv : Int32} {xm' : SX} (hm : f_X7_recallCount n2 xm = some (bv, xm')) (hab : rv = bv) (hw : Wd G (wL G ad qb cap x y bd xm qo o) A s H locs) (hl : lv_has ls 7 [(0, .ref b), (1, .ref (ad 0)), (2, .ref (bd 0)), (3, .ref qo), (4, .int (nI i))]) (hcs : cells + 1 ≤ 601024) (hss : slots + 6 ≤ 7293034) (kk : ∀ (H1 : Heap) (locs1 : List Loc) (ls1 : Array Slot), Wd G (wL G ad qb cap x y bd xm' qo o) A s H1 locs1 → lv_has ls1 7 [(0, .ref b), (1, .ref (ad 0)), (2, .ref (bd 0)), (3, .ref qo), (4, .int (nI i))] → W p l e room_1 s m #[Value.ref b] below meth c H1 locs1 (cells + 1) (slots + 6) Q (F0 m 2739 ls1 [])) : W p l e room_1 s m #[Value.ref b] below meth c H locs cells slots Q (F0 m 2275 ls []) := by
  have hx := C.1.1
  have hb := C.1.2.1
  refine W.widen (k := cells + 1) (n := slots + 6) (by omega) (by omega) ?_
  refine lv_aload_n hx hb dL_law_2275 rfl (lv_at hl 1 rfl) ?_
  refine k_lx (rest := []) (As := []) C (t_X6_recallCount hf) cv_X6_recallCount ml_L_274 hw rfl rfl rfl hl.1 rfl (Nat.le_of_ble_eq_true rfl) ⟨(Nat.le_of_ble_eq_true rfl), (Nat.le_of_ble_eq_true rfl)⟩ ⟨hcs, hss⟩ dL_law_2276 (fun H locs hw => ?_)
  refine lv_aload_n hx hb dL_law_2279 rfl (lv_at hl 2 rfl) ?_
  refine k_lm (rest := [.int rv]) (As := []) C (t_X7_recallCount hm) cv_X7_recallCount ml_L_277 hw rfl rfl rfl hl.1 rfl (Nat.le_of_ble_eq_true rfl) ⟨(Nat.le_of_ble_eq_true rfl), (Nat.le_of_ble_eq_true rfl)⟩ ⟨hcs, hss⟩ dL_law_2280 (fun H locs hw => ?_)
  refine lv_icmp_eq (tgt := 2739) hx hb dL_law_2283 rfl (fun c9 => ?_) (fun c9 => absurd hab c9)
  exact kk H locs ls hw (lv_sub hl [0, 1, 2, 3, 4] rfl)
set_option maxHeartbeats 4000000 in
set_option maxRecDepth 100000 in
theorem c_recallEnd (C : LC p l s m c b L xs A) {i : Nat} (hi : i + 5 ≤ L) {n : Nat} {k0 : Nat} {rv c0 : Int32} (hf : f_X6_recallEnd n x = some (k0, rv)) (hc : (k0 = 0 ∧ c0 = 0) ∨ (k0 = 4 ∧ c0 = 1)) {n2 : Nat} {bv : Int32} {xm' : SX} (hm : f_X7_recallEnd n2 xm = some (bv, xm')) (hth : xm'.1 0 0 = c0) (hab : c0 = 0 → rv = bv) (hw : Wd G (wL G ad qb cap x y bd xm qo o) A s H locs) (hl : lv_has ls 7 [(0, .ref b), (1, .ref (ad 0)), (2, .ref (bd 0)), (3, .ref qo), (4, .int (nI i))]) (hcs : cells + 1 ≤ 601024) (hss : slots + 6 ≤ 7293034) (kk : ∀ (o' : Nat → Int64) (H1 : Heap) (locs1 : List Loc) (ls1 : Array Slot), Wd G (wL G ad qb cap x y bd xm' qo o') A s H1 locs1 → lv_has ls1 7 [(0, .ref b), (1, .ref (ad 0)), (2, .ref (bd 0)), (3, .ref qo), (4, .int (nI i))] → W p l e room_1 s m #[Value.ref b] below meth c H1 locs1 (cells + 1) (slots + 6) Q (F0 m 2739 ls1 [])) : W p l e room_1 s m #[Value.ref b] below meth c H locs cells slots Q (F0 m 2288 ls []) := by
  have hx := C.1.1
  have hb := C.1.2.1
  have hL := C.2.2.2.2.1
  have ho : c0 = 0 → (if k0 = 0 then vp_updL o 0 rv.toInt64 else o) ((0 : Int32).toNatClampNeg) = bv.toInt64 := fun z => by
    have hk0 : k0 = 0 := by
      rcases hc with ⟨h1, h2⟩ | ⟨h1, h2⟩
      · exact h1
      · rw [h2] at z; exact absurd z (by decide)
    rw [if_pos hk0, hab z, sb_cl0]
    exact pk_uLs
  refine lv_aload_n hx hb dL_law_2288 rfl (lv_at hl 1 rfl) ?_
  refine lv_aload_n hx hb dL_law_2289 rfl (lv_at hl 3 rfl) ?_
  refine k_lw (rest := []) (As := [.ref (ad 0), .ref qo]) C (t_L_recallEnd C.2.2.2.2.2.1 hf hc) cw_L_recallEnd ml_L_278 hw rfl hl.1 rfl (Nat.le_of_ble_eq_true rfl) ⟨(Nat.le_of_ble_eq_true rfl), (Nat.le_of_ble_eq_true rfl)⟩ ⟨hcs, hss⟩ dL_law_2290 (fun H locs hw => ?_)
  refine lv_istore (lv' := [(5, .int c0), (0, .ref b), (1, .ref (ad 0)), (2, .ref (bd 0)), (3, .ref qo), (4, .int (nI i))]) hx hb dL_law_2293 hl (Nat.le_of_ble_eq_true rfl) rfl (fun ls hl => ?_)
  refine lv_aload_n hx hb dL_law_2295 rfl (lv_at hl 3 rfl) ?_
  refine k_lm (rest := []) (As := []) C (t_X7_recallEnd hm) cv_X7_recallEnd ml_L_280 hw rfl rfl rfl hl.1 rfl (Nat.le_of_ble_eq_true rfl) ⟨(Nat.le_of_ble_eq_true rfl), (Nat.le_of_ble_eq_true rfl)⟩ ⟨hcs, hss⟩ dL_law_2296 (fun H locs hw => ?_)
  refine lv_istore (lv' := [(6, .int bv), (5, .int c0), (0, .ref b), (1, .ref (ad 0)), (2, .ref (bd 0)), (3, .ref qo), (4, .int (nI i))]) hx hb dL_law_2299 hl (Nat.le_of_ble_eq_true rfl) rfl (fun ls hl => ?_)
  refine lv_aload_n hx hb dL_law_2301 rfl (lv_at hl 4 rfl) ?_
  refine k_lm (rest := []) (As := []) C (t_X7_thrown (n := 0) (rv := c0) (congrArg some hth)) cv_X7_thrown ml_L_155 hw rfl rfl rfl hl.1 rfl (Nat.le_of_ble_eq_true rfl) ⟨(Nat.le_of_ble_eq_true rfl), (Nat.le_of_ble_eq_true rfl)⟩ ⟨hcs, hss⟩ dL_law_2302 (fun H locs hw => ?_)
  refine lv_iload hx hb dL_law_2305 (lv_at hl 1 rfl) ?_
  refine lv_icmp_eq (tgt := 2312) hx hb dL_law_2307 rfl (fun c9 => ?_) (fun c9 => absurd rfl c9)
  refine lv_iload hx hb dL_law_2312 (lv_at hl 1 rfl) ?_
  refine lv_if_ne (tgt := 2329) hx hb dL_law_2314 rfl (fun c8 => ?_) (fun c8 => ?_)
  · refine lv_goto (tgt := 2739) hx hb dL_law_2329 rfl ?_
    exact kk _ H locs ls hw (lv_sub hl [2, 3, 4, 5, 6] rfl)
  · refine lv_aload_n hx hb dL_law_2317 rfl (lv_at hl 5 rfl) ?_
    refine lv_iconst (v := 0) hx hb dL_law_2318 (by decide) ?_
    refine k_lld C.1 hw 64 rfl (by decide) dL_law_2319 ?_
    rw [ho c8]
    refine lv_iload hx hb dL_law_2320 (lv_at hl 0 rfl) ?_
    refine lv_i2l hx hb dL_law_2322 rfl ?_
    refine W.lcmp hx hb dL_law_2323 ?_
    rw [lg_same]
    refine lv_if_eq (tgt := 2329) hx hb dL_law_2324 rfl (fun c7 => ?_) (fun c7 => absurd rfl c7)
    refine lv_goto (tgt := 2739) hx hb dL_law_2329 rfl ?_
    exact kk _ H locs ls hw (lv_sub hl [2, 3, 4, 5, 6] rfl)
set_option maxHeartbeats 4000000 in
set_option maxRecDepth 100000 in
theorem c_awardDays (C : LC p l s m c b L xs A) {i : Nat} (hi : i + 5 ≤ L) {n : Nat} {k0 : Nat} {rv c0 : Int32} (hf : f_X6_awardDays n x (xs (i + 1)) = some (k0, rv)) (hc : (k0 = 0 ∧ c0 = 0) ∨ (k0 = 3 ∧ c0 = 1)) {n2 : Nat} {bv : Int32} {xm' : SX} (hm : f_X7_awardDays n2 xm (xs (i + 1)) = some (bv, xm')) (hth : xm'.1 0 0 = c0) (hab : c0 = 0 → rv = bv) (hw : Wd G (wL G ad qb cap x y bd xm qo o) A s H locs) (hl : lv_has ls 7 [(0, .ref b), (1, .ref (ad 0)), (2, .ref (bd 0)), (3, .ref qo), (4, .int (nI i))]) (hcs : cells + 1 ≤ 601024) (hss : slots + 6 ≤ 7293034) (kk : ∀ (o' : Nat → Int64) (H1 : Heap) (locs1 : List Loc) (ls1 : Array Slot), Wd G (wL G ad qb cap x y bd xm' qo o') A s H1 locs1 → lv_has ls1 7 [(0, .ref b), (1, .ref (ad 0)), (2, .ref (bd 0)), (3, .ref qo), (4, .int (nI i))] → W p l e room_1 s m #[Value.ref b] below meth c H1 locs1 (cells + 1) (slots + 6) Q (F0 m 2739 ls1 [])) : W p l e room_1 s m #[Value.ref b] below meth c H locs cells slots Q (F0 m 2332 ls []) := by
  have hx := C.1.1
  have hb := C.1.2.1
  have hL := C.2.2.2.2.1
  have ho : c0 = 0 → (if k0 = 0 then vp_updL o 0 rv.toInt64 else o) ((0 : Int32).toNatClampNeg) = bv.toInt64 := fun z => by
    have hk0 : k0 = 0 := by
      rcases hc with ⟨h1, h2⟩ | ⟨h1, h2⟩
      · exact h1
      · rw [h2] at z; exact absurd z (by decide)
    rw [if_pos hk0, hab z, sb_cl0]
    exact pk_uLs
  refine lv_aload_n hx hb dL_law_2332 rfl (lv_at hl 1 rfl) ?_
  refine lv_aload_n hx hb dL_law_2333 rfl (lv_at hl 0 rfl) ?_
  refine lv_iload hx hb dL_law_2334 (lv_at hl 4 rfl) ?_
  refine lv_iconst (v := 1) hx hb dL_law_2336 (by decide) ?_
  refine lv_iadd hx hb dL_law_2337 ?_
  refine k_sc C hw (j := i + 1) (nI_add i 1) (by omega) dL_law_2338 ?_
  refine lv_aload_n hx hb dL_law_2339 rfl (lv_at hl 3 rfl) ?_
  refine k_lw (rest := []) (As := [.ref (ad 0), .int (xs (i + 1)), .ref qo]) C (t_L_awardDays C.2.2.2.2.2.1 hf hc) cw_L_awardDays ml_L_281 hw rfl hl.1 rfl (Nat.le_of_ble_eq_true rfl) ⟨(Nat.le_of_ble_eq_true rfl), (Nat.le_of_ble_eq_true rfl)⟩ ⟨hcs, hss⟩ dL_law_2340 (fun H locs hw => ?_)
  refine lv_istore (lv' := [(5, .int c0), (0, .ref b), (1, .ref (ad 0)), (2, .ref (bd 0)), (3, .ref qo), (4, .int (nI i))]) hx hb dL_law_2343 hl (Nat.le_of_ble_eq_true rfl) rfl (fun ls hl => ?_)
  refine lv_aload_n hx hb dL_law_2345 rfl (lv_at hl 3 rfl) ?_
  refine lv_aload_n hx hb dL_law_2346 rfl (lv_at hl 1 rfl) ?_
  refine lv_iload hx hb dL_law_2347 (lv_at hl 5 rfl) ?_
  refine lv_iconst (v := 1) hx hb dL_law_2349 (by decide) ?_
  refine lv_iadd hx hb dL_law_2350 ?_
  refine k_sc C hw (j := i + 1) (nI_add i 1) (by omega) dL_law_2351 ?_
  refine k_lm (rest := []) (As := [.int (xs (i + 1))]) C (t_X7_awardDays hm) cv_X7_awardDays ml_L_283 hw rfl rfl rfl hl.1 rfl (Nat.le_of_ble_eq_true rfl) ⟨(Nat.le_of_ble_eq_true rfl), (Nat.le_of_ble_eq_true rfl)⟩ ⟨hcs, hss⟩ dL_law_2352 (fun H locs hw => ?_)
  refine lv_istore (lv' := [(6, .int bv), (5, .int c0), (0, .ref b), (1, .ref (ad 0)), (2, .ref (bd 0)), (3, .ref qo), (4, .int (nI i))]) hx hb dL_law_2355 hl (Nat.le_of_ble_eq_true rfl) rfl (fun ls hl => ?_)
  refine lv_aload_n hx hb dL_law_2357 rfl (lv_at hl 4 rfl) ?_
  refine k_lm (rest := []) (As := []) C (t_X7_thrown (n := 0) (rv := c0) (congrArg some hth)) cv_X7_thrown ml_L_155 hw rfl rfl rfl hl.1 rfl (Nat.le_of_ble_eq_true rfl) ⟨(Nat.le_of_ble_eq_true rfl), (Nat.le_of_ble_eq_true rfl)⟩ ⟨hcs, hss⟩ dL_law_2358 (fun H locs hw => ?_)
  refine lv_iload hx hb dL_law_2361 (lv_at hl 1 rfl) ?_
  refine lv_icmp_eq (tgt := 2368) hx hb dL_law_2363 rfl (fun c9 => ?_) (fun c9 => absurd rfl c9)
  refine lv_iload hx hb dL_law_2368 (lv_at hl 1 rfl) ?_
  refine lv_if_ne (tgt := 2385) hx hb dL_law_2370 rfl (fun c8 => ?_) (fun c8 => ?_)
  · refine lv_goto (tgt := 2739) hx hb dL_law_2385 rfl ?_
    exact kk _ H locs ls hw (lv_sub hl [2, 3, 4, 5, 6] rfl)
  · refine lv_aload_n hx hb dL_law_2373 rfl (lv_at hl 5 rfl) ?_
    refine lv_iconst (v := 0) hx hb dL_law_2374 (by decide) ?_
    refine k_lld C.1 hw 64 rfl (by decide) dL_law_2375 ?_
    rw [ho c8]
    refine lv_iload hx hb dL_law_2376 (lv_at hl 0 rfl) ?_
    refine lv_i2l hx hb dL_law_2378 rfl ?_
    refine W.lcmp hx hb dL_law_2379 ?_
    rw [lg_same]
    refine lv_if_eq (tgt := 2385) hx hb dL_law_2380 rfl (fun c7 => ?_) (fun c7 => absurd rfl c7)
    refine lv_goto (tgt := 2739) hx hb dL_law_2385 rfl ?_
    exact kk _ H locs ls hw (lv_sub hl [2, 3, 4, 5, 6] rfl)
set_option maxHeartbeats 4000000 in
set_option maxRecDepth 100000 in
theorem c_concerns (C : LC p l s m c b L xs A) {i : Nat} (hi : i + 5 ≤ L) {n : Nat} {k0 : Nat} {rv c0 : Int32} (hf : f_X6_concerns n x (xs (i + 1)) (xs (i + 2)) = some (k0, rv)) (hbz : rv = 0 ∨ rv = 1) (hc : (k0 = 0 ∧ c0 = 0) ∨ (k0 = 3 ∧ c0 = 1)) {n2 : Nat} {bv : Int32} {xm' : SX} (hm : f_X7_concerns n2 xm (xs (i + 1)) (xs (i + 2)) = some (bv, xm')) (hth : xm'.1 0 0 = c0) (hab : c0 = 0 → rv = bv) (hw : Wd G (wL G ad qb cap x y bd xm qo o) A s H locs) (hl : lv_has ls 7 [(0, .ref b), (1, .ref (ad 0)), (2, .ref (bd 0)), (3, .ref qo), (4, .int (nI i))]) (hcs : cells + 2 ≤ 601024) (hss : slots + 12 ≤ 7293034) (kk : ∀ (o' : Nat → Int64) (H1 : Heap) (locs1 : List Loc) (ls1 : Array Slot), Wd G (wL G ad qb cap x y bd xm' qo o') A s H1 locs1 → lv_has ls1 7 [(0, .ref b), (1, .ref (ad 0)), (2, .ref (bd 0)), (3, .ref qo), (4, .int (nI i))] → W p l e room_1 s m #[Value.ref b] below meth c H1 locs1 (cells + 2) (slots + 12) Q (F0 m 2739 ls1 [])) : W p l e room_1 s m #[Value.ref b] below meth c H locs cells slots Q (F0 m 2388 ls []) := by
  have hx := C.1.1
  have hb := C.1.2.1
  have hL := C.2.2.2.2.1
  have ho : c0 = 0 → (if k0 = 0 then vp_updL o 0 rv.toInt64 else o) ((0 : Int32).toNatClampNeg) = bv.toInt64 := fun z => by
    have hk0 : k0 = 0 := by
      rcases hc with ⟨h1, h2⟩ | ⟨h1, h2⟩
      · exact h1
      · rw [h2] at z; exact absurd z (by decide)
    rw [if_pos hk0, hab z, sb_cl0]
    exact pk_uLs
  refine lv_aload_n hx hb dL_law_2388 rfl (lv_at hl 1 rfl) ?_
  refine lv_aload_n hx hb dL_law_2389 rfl (lv_at hl 0 rfl) ?_
  refine lv_iload hx hb dL_law_2390 (lv_at hl 4 rfl) ?_
  refine lv_iconst (v := 1) hx hb dL_law_2392 (by decide) ?_
  refine lv_iadd hx hb dL_law_2393 ?_
  refine k_sc C hw (j := i + 1) (nI_add i 1) (by omega) dL_law_2394 ?_
  refine lv_aload_n hx hb dL_law_2395 rfl (lv_at hl 0 rfl) ?_
  refine lv_iload hx hb dL_law_2396 (lv_at hl 4 rfl) ?_
  refine lv_iconst (v := 2) hx hb dL_law_2398 (by decide) ?_
  refine lv_iadd hx hb dL_law_2399 ?_
  refine k_sc C hw (j := i + 2) (nI_add i 2) (by omega) dL_law_2400 ?_
  refine lv_aload_n hx hb dL_law_2401 rfl (lv_at hl 3 rfl) ?_
  refine k_lw (rest := []) (As := [.ref (ad 0), .int (xs (i + 1)), .int (xs (i + 2)), .ref qo]) C (t_L_concerns C.2.2.2.2.2.1 hf hbz hc) cw_L_concerns ml_L_284 hw rfl hl.1 rfl (Nat.le_of_ble_eq_true rfl) ⟨(Nat.le_of_ble_eq_true rfl), (Nat.le_of_ble_eq_true rfl)⟩ ⟨hcs, hss⟩ dL_law_2402 (fun H locs hw => ?_)
  refine lv_istore (lv' := [(5, .int c0), (0, .ref b), (1, .ref (ad 0)), (2, .ref (bd 0)), (3, .ref qo), (4, .int (nI i))]) hx hb dL_law_2405 hl (Nat.le_of_ble_eq_true rfl) rfl (fun ls hl => ?_)
  refine lv_aload_n hx hb dL_law_2407 rfl (lv_at hl 3 rfl) ?_
  refine lv_aload_n hx hb dL_law_2408 rfl (lv_at hl 1 rfl) ?_
  refine lv_iload hx hb dL_law_2409 (lv_at hl 5 rfl) ?_
  refine lv_iconst (v := 1) hx hb dL_law_2411 (by decide) ?_
  refine lv_iadd hx hb dL_law_2412 ?_
  refine k_sc C hw (j := i + 1) (nI_add i 1) (by omega) dL_law_2413 ?_
  refine lv_aload_n hx hb dL_law_2414 rfl (lv_at hl 1 rfl) ?_
  refine lv_iload hx hb dL_law_2415 (lv_at hl 5 rfl) ?_
  refine lv_iconst (v := 2) hx hb dL_law_2417 (by decide) ?_
  refine lv_iadd hx hb dL_law_2418 ?_
  refine k_sc C hw (j := i + 2) (nI_add i 2) (by omega) dL_law_2419 ?_
  refine k_lm (rest := []) (As := [.int (xs (i + 1)), .int (xs (i + 2))]) C (t_X7_concerns hm) cv_X7_concerns ml_L_286 hw rfl rfl rfl hl.1 rfl (Nat.le_of_ble_eq_true rfl) ⟨(Nat.le_of_ble_eq_true rfl), (Nat.le_of_ble_eq_true rfl)⟩ ⟨hcs, hss⟩ dL_law_2420 (fun H locs hw => ?_)
  refine lv_istore (lv' := [(6, .int bv), (5, .int c0), (0, .ref b), (1, .ref (ad 0)), (2, .ref (bd 0)), (3, .ref qo), (4, .int (nI i))]) hx hb dL_law_2423 hl (Nat.le_of_ble_eq_true rfl) rfl (fun ls hl => ?_)
  refine lv_aload_n hx hb dL_law_2425 rfl (lv_at hl 4 rfl) ?_
  refine k_lm (rest := []) (As := []) C (t_X7_thrown (n := 0) (rv := c0) (congrArg some hth)) cv_X7_thrown ml_L_155 hw rfl rfl rfl hl.1 rfl (Nat.le_of_ble_eq_true rfl) ⟨(Nat.le_of_ble_eq_true rfl), (Nat.le_of_ble_eq_true rfl)⟩ ⟨hcs, hss⟩ dL_law_2426 (fun H locs hw => ?_)
  refine lv_iload hx hb dL_law_2429 (lv_at hl 1 rfl) ?_
  refine lv_icmp_eq (tgt := 2436) hx hb dL_law_2431 rfl (fun c9 => ?_) (fun c9 => absurd rfl c9)
  refine lv_iload hx hb dL_law_2436 (lv_at hl 1 rfl) ?_
  refine lv_if_ne (tgt := 2460) hx hb dL_law_2438 rfl (fun c8 => ?_) (fun c8 => ?_)
  · refine lv_goto (tgt := 2739) hx hb dL_law_2460 rfl ?_
    exact kk _ H locs ls hw (lv_sub hl [2, 3, 4, 5, 6] rfl)
  · refine lv_aload_n hx hb dL_law_2441 rfl (lv_at hl 5 rfl) ?_
    refine lv_iconst (v := 0) hx hb dL_law_2442 (by decide) ?_
    refine k_lld C.1 hw 64 rfl (by decide) dL_law_2443 ?_
    rw [ho c8]
    refine lv_iload hx hb dL_law_2444 (lv_at hl 0 rfl) ?_
    refine lv_if_eq (tgt := 2453) hx hb dL_law_2446 rfl (fun c7 => ?_) (fun c7 => ?_)
    · refine lv_lconst (v := 0) hx hb dL_law_2453 (by decide) ?_
      refine W.lcmp hx hb dL_law_2454 ?_
      rw [show bv.toInt64 = 0 by rw [c7]; rfl, lg_same]
      refine lv_if_eq (tgt := 2460) hx hb dL_law_2455 rfl (fun c6 => ?_) (fun c6 => absurd rfl c6)
      refine lv_goto (tgt := 2739) hx hb dL_law_2460 rfl ?_
      exact kk _ H locs ls hw (lv_sub hl [2, 3, 4, 5, 6] rfl)
    · have c5 : bv = 1 := (hab c8 ▸ hbz).resolve_left c7
      refine lv_lconst (v := 1) hx hb dL_law_2449 (by decide) ?_
      refine lv_goto (tgt := 2454) hx hb dL_law_2450 rfl ?_
      refine W.lcmp hx hb dL_law_2454 ?_
      rw [show bv.toInt64 = 1 by rw [c5]; rfl, lg_same]
      refine lv_if_eq (tgt := 2460) hx hb dL_law_2455 rfl (fun c6 => ?_) (fun c6 => absurd rfl c6)
      refine lv_goto (tgt := 2739) hx hb dL_law_2460 rfl ?_
      exact kk _ H locs ls hw (lv_sub hl [2, 3, 4, 5, 6] rfl)
set_option maxHeartbeats 4000000 in
set_option maxRecDepth 100000 in
theorem c_lastReleaseWithAward (C : LC p l s m c b L xs A) {i : Nat} (hi : i + 5 ≤ L) {n : Nat} {k0 : Nat} {rv c0 : Int32} (hf : f_X6_lastReleaseWithAward n x (xs (i + 1)) = some (k0, rv)) (hc : (k0 = 0 ∧ c0 = 0) ∨ (k0 = 1 ∧ c0 = 1) ∨ (k0 = 2 ∧ c0 = 2)) {n2 : Nat} {bv : Int32} {xm' : SX} (hm : f_X7_lastReleaseWithAward n2 xm (xs (i + 1)) = some (bv, xm')) (hth : xm'.1 0 0 = c0) (hab : c0 = 0 → rv = bv) (hw : Wd G (wL G ad qb cap x y bd xm qo o) A s H locs) (hl : lv_has ls 7 [(0, .ref b), (1, .ref (ad 0)), (2, .ref (bd 0)), (3, .ref qo), (4, .int (nI i))]) (hcs : cells + 2 ≤ 601024) (hss : slots + 12 ≤ 7293034) (kk : ∀ (o' : Nat → Int64) (H1 : Heap) (locs1 : List Loc) (ls1 : Array Slot), Wd G (wL G ad qb cap x y bd xm' qo o') A s H1 locs1 → lv_has ls1 7 [(0, .ref b), (1, .ref (ad 0)), (2, .ref (bd 0)), (3, .ref qo), (4, .int (nI i))] → W p l e room_1 s m #[Value.ref b] below meth c H1 locs1 (cells + 2) (slots + 12) Q (F0 m 2739 ls1 [])) : W p l e room_1 s m #[Value.ref b] below meth c H locs cells slots Q (F0 m 2463 ls []) := by
  have hx := C.1.1
  have hb := C.1.2.1
  have hL := C.2.2.2.2.1
  have ho : c0 = 0 → (if k0 = 0 then vp_updL o 0 rv.toInt64 else o) ((0 : Int32).toNatClampNeg) = bv.toInt64 := fun z => by
    have hk0 : k0 = 0 := by
      rcases hc with ⟨h1, h2⟩ | ⟨h1, h2⟩ | ⟨h1, h2⟩
      · exact h1
      · rw [h2] at z; exact absurd z (by decide)
      · rw [h2] at z; exact absurd z (by decide)
    rw [if_pos hk0, hab z, sb_cl0]
    exact pk_uLs
  refine lv_aload_n hx hb dL_law_2463 rfl (lv_at hl 1 rfl) ?_
  refine lv_aload_n hx hb dL_law_2464 rfl (lv_at hl 0 rfl) ?_
  refine lv_iload hx hb dL_law_2465 (lv_at hl 4 rfl) ?_
  refine lv_iconst (v := 1) hx hb dL_law_2467 (by decide) ?_
  refine lv_iadd hx hb dL_law_2468 ?_
  refine k_sc C hw (j := i + 1) (nI_add i 1) (by omega) dL_law_2469 ?_
  refine lv_aload_n hx hb dL_law_2470 rfl (lv_at hl 3 rfl) ?_
  refine k_lw (rest := []) (As := [.ref (ad 0), .int (xs (i + 1)), .ref qo]) C (t_L_lastReleaseWithAward C.2.2.2.2.2.1 hf hc) cw_L_lastReleaseWithAward ml_L_287 hw rfl hl.1 rfl (Nat.le_of_ble_eq_true rfl) ⟨(Nat.le_of_ble_eq_true rfl), (Nat.le_of_ble_eq_true rfl)⟩ ⟨hcs, hss⟩ dL_law_2471 (fun H locs hw => ?_)
  refine lv_istore (lv' := [(5, .int c0), (0, .ref b), (1, .ref (ad 0)), (2, .ref (bd 0)), (3, .ref qo), (4, .int (nI i))]) hx hb dL_law_2474 hl (Nat.le_of_ble_eq_true rfl) rfl (fun ls hl => ?_)
  refine lv_aload_n hx hb dL_law_2476 rfl (lv_at hl 3 rfl) ?_
  refine lv_aload_n hx hb dL_law_2477 rfl (lv_at hl 1 rfl) ?_
  refine lv_iload hx hb dL_law_2478 (lv_at hl 5 rfl) ?_
  refine lv_iconst (v := 1) hx hb dL_law_2480 (by decide) ?_
  refine lv_iadd hx hb dL_law_2481 ?_
  refine k_sc C hw (j := i + 1) (nI_add i 1) (by omega) dL_law_2482 ?_
  refine k_lm (rest := []) (As := [.int (xs (i + 1))]) C (t_X7_lastReleaseWithAward hm) cv_X7_lastReleaseWithAward ml_L_289 hw rfl rfl rfl hl.1 rfl (Nat.le_of_ble_eq_true rfl) ⟨(Nat.le_of_ble_eq_true rfl), (Nat.le_of_ble_eq_true rfl)⟩ ⟨hcs, hss⟩ dL_law_2483 (fun H locs hw => ?_)
  refine lv_istore (lv' := [(6, .int bv), (5, .int c0), (0, .ref b), (1, .ref (ad 0)), (2, .ref (bd 0)), (3, .ref qo), (4, .int (nI i))]) hx hb dL_law_2486 hl (Nat.le_of_ble_eq_true rfl) rfl (fun ls hl => ?_)
  refine lv_aload_n hx hb dL_law_2488 rfl (lv_at hl 4 rfl) ?_
  refine k_lm (rest := []) (As := []) C (t_X7_thrown (n := 0) (rv := c0) (congrArg some hth)) cv_X7_thrown ml_L_155 hw rfl rfl rfl hl.1 rfl (Nat.le_of_ble_eq_true rfl) ⟨(Nat.le_of_ble_eq_true rfl), (Nat.le_of_ble_eq_true rfl)⟩ ⟨hcs, hss⟩ dL_law_2489 (fun H locs hw => ?_)
  refine lv_iload hx hb dL_law_2492 (lv_at hl 1 rfl) ?_
  refine lv_icmp_eq (tgt := 2499) hx hb dL_law_2494 rfl (fun c9 => ?_) (fun c9 => absurd rfl c9)
  refine lv_iload hx hb dL_law_2499 (lv_at hl 1 rfl) ?_
  refine lv_if_ne (tgt := 2516) hx hb dL_law_2501 rfl (fun c8 => ?_) (fun c8 => ?_)
  · refine lv_goto (tgt := 2739) hx hb dL_law_2516 rfl ?_
    exact kk _ H locs ls hw (lv_sub hl [2, 3, 4, 5, 6] rfl)
  · refine lv_aload_n hx hb dL_law_2504 rfl (lv_at hl 5 rfl) ?_
    refine lv_iconst (v := 0) hx hb dL_law_2505 (by decide) ?_
    refine k_lld C.1 hw 64 rfl (by decide) dL_law_2506 ?_
    rw [ho c8]
    refine lv_iload hx hb dL_law_2507 (lv_at hl 0 rfl) ?_
    refine lv_i2l hx hb dL_law_2509 rfl ?_
    refine W.lcmp hx hb dL_law_2510 ?_
    rw [lg_same]
    refine lv_if_eq (tgt := 2516) hx hb dL_law_2511 rfl (fun c7 => ?_) (fun c7 => absurd rfl c7)
    refine lv_goto (tgt := 2739) hx hb dL_law_2516 rfl ?_
    exact kk _ H locs ls hw (lv_sub hl [2, 3, 4, 5, 6] rfl)
set_option maxHeartbeats 4000000 in
set_option maxRecDepth 100000 in
theorem c_lastReleaseWithout (C : LC p l s m c b L xs A) {i : Nat} (hi : i + 5 ≤ L) {n : Nat} {xr : SX} {k0 : Nat} {rv c0 : Int32} (hf : f_X6_lastReleaseWithout n x (xs (i + 1)) = some (k0, rv, xr)) (hc : (k0 = 0 ∧ c0 = 0) ∨ (k0 = 3 ∧ c0 = 1) ∨ (k0 = 2 ∧ c0 = 2) ∨ (k0 = 4 ∧ c0 = 3)) {n2 : Nat} {bv : Int32} {xm' : SX} (hm : f_X7_lastReleaseWithout n2 xm (xs (i + 1)) = some (bv, xm')) (hth : xm'.1 0 0 = c0) (hab : c0 = 0 → rv = bv) (hw : Wd G (wL G ad qb cap x y bd xm qo o) A s H locs) (hl : lv_has ls 7 [(0, .ref b), (1, .ref (ad 0)), (2, .ref (bd 0)), (3, .ref qo), (4, .int (nI i))]) (hcs : cells + 3 ≤ 601024) (hss : slots + 18 ≤ 7293034) (kk : ∀ (o' : Nat → Int64) (H1 : Heap) (locs1 : List Loc) (ls1 : Array Slot), Wd G (wL G ad qb cap xr y bd xm' qo o') A s H1 locs1 → lv_has ls1 7 [(0, .ref b), (1, .ref (ad 0)), (2, .ref (bd 0)), (3, .ref qo), (4, .int (nI i))] → W p l e room_1 s m #[Value.ref b] below meth c H1 locs1 (cells + 3) (slots + 18) Q (F0 m 2739 ls1 [])) : W p l e room_1 s m #[Value.ref b] below meth c H locs cells slots Q (F0 m 2519 ls []) := by
  have hx := C.1.1
  have hb := C.1.2.1
  have hL := C.2.2.2.2.1
  have ho : c0 = 0 → (if k0 = 0 then vp_updL o 0 rv.toInt64 else o) ((0 : Int32).toNatClampNeg) = bv.toInt64 := fun z => by
    have hk0 : k0 = 0 := by
      rcases hc with ⟨h1, h2⟩ | ⟨h1, h2⟩ | ⟨h1, h2⟩ | ⟨h1, h2⟩
      · exact h1
      · rw [h2] at z; exact absurd z (by decide)
      · rw [h2] at z; exact absurd z (by decide)
      · rw [h2] at z; exact absurd z (by decide)
    rw [if_pos hk0, hab z, sb_cl0]
    exact pk_uLs
  refine lv_aload_n hx hb dL_law_2519 rfl (lv_at hl 1 rfl) ?_
  refine lv_aload_n hx hb dL_law_2520 rfl (lv_at hl 0 rfl) ?_
  refine lv_iload hx hb dL_law_2521 (lv_at hl 4 rfl) ?_
  refine lv_iconst (v := 1) hx hb dL_law_2523 (by decide) ?_
  refine lv_iadd hx hb dL_law_2524 ?_
  refine k_sc C hw (j := i + 1) (nI_add i 1) (by omega) dL_law_2525 ?_
  refine lv_aload_n hx hb dL_law_2526 rfl (lv_at hl 3 rfl) ?_
  refine k_lw (rest := []) (As := [.ref (ad 0), .int (xs (i + 1)), .ref qo]) C (t_L_lastReleaseWithout C.2.2.2.2.2.1 hf hc) cw_L_lastReleaseWithout ml_L_290 hw rfl hl.1 rfl (Nat.le_of_ble_eq_true rfl) ⟨(Nat.le_of_ble_eq_true rfl), (Nat.le_of_ble_eq_true rfl)⟩ ⟨hcs, hss⟩ dL_law_2527 (fun H locs hw => ?_)
  refine lv_istore (lv' := [(5, .int c0), (0, .ref b), (1, .ref (ad 0)), (2, .ref (bd 0)), (3, .ref qo), (4, .int (nI i))]) hx hb dL_law_2530 hl (Nat.le_of_ble_eq_true rfl) rfl (fun ls hl => ?_)
  refine lv_aload_n hx hb dL_law_2532 rfl (lv_at hl 3 rfl) ?_
  refine lv_aload_n hx hb dL_law_2533 rfl (lv_at hl 1 rfl) ?_
  refine lv_iload hx hb dL_law_2534 (lv_at hl 5 rfl) ?_
  refine lv_iconst (v := 1) hx hb dL_law_2536 (by decide) ?_
  refine lv_iadd hx hb dL_law_2537 ?_
  refine k_sc C hw (j := i + 1) (nI_add i 1) (by omega) dL_law_2538 ?_
  refine k_lm (rest := []) (As := [.int (xs (i + 1))]) C (t_X7_lastReleaseWithout hm) cv_X7_lastReleaseWithout ml_L_292 hw rfl rfl rfl hl.1 rfl (Nat.le_of_ble_eq_true rfl) ⟨(Nat.le_of_ble_eq_true rfl), (Nat.le_of_ble_eq_true rfl)⟩ ⟨hcs, hss⟩ dL_law_2539 (fun H locs hw => ?_)
  refine lv_istore (lv' := [(6, .int bv), (5, .int c0), (0, .ref b), (1, .ref (ad 0)), (2, .ref (bd 0)), (3, .ref qo), (4, .int (nI i))]) hx hb dL_law_2542 hl (Nat.le_of_ble_eq_true rfl) rfl (fun ls hl => ?_)
  refine lv_aload_n hx hb dL_law_2544 rfl (lv_at hl 4 rfl) ?_
  refine k_lm (rest := []) (As := []) C (t_X7_thrown (n := 0) (rv := c0) (congrArg some hth)) cv_X7_thrown ml_L_155 hw rfl rfl rfl hl.1 rfl (Nat.le_of_ble_eq_true rfl) ⟨(Nat.le_of_ble_eq_true rfl), (Nat.le_of_ble_eq_true rfl)⟩ ⟨hcs, hss⟩ dL_law_2545 (fun H locs hw => ?_)
  refine lv_iload hx hb dL_law_2548 (lv_at hl 1 rfl) ?_
  refine lv_icmp_eq (tgt := 2555) hx hb dL_law_2550 rfl (fun c9 => ?_) (fun c9 => absurd rfl c9)
  refine lv_iload hx hb dL_law_2555 (lv_at hl 1 rfl) ?_
  refine lv_if_ne (tgt := 2572) hx hb dL_law_2557 rfl (fun c8 => ?_) (fun c8 => ?_)
  · refine lv_goto (tgt := 2739) hx hb dL_law_2572 rfl ?_
    exact kk _ H locs ls hw (lv_sub hl [2, 3, 4, 5, 6] rfl)
  · refine lv_aload_n hx hb dL_law_2560 rfl (lv_at hl 5 rfl) ?_
    refine lv_iconst (v := 0) hx hb dL_law_2561 (by decide) ?_
    refine k_lld C.1 hw 64 rfl (by decide) dL_law_2562 ?_
    rw [ho c8]
    refine lv_iload hx hb dL_law_2563 (lv_at hl 0 rfl) ?_
    refine lv_i2l hx hb dL_law_2565 rfl ?_
    refine W.lcmp hx hb dL_law_2566 ?_
    rw [lg_same]
    refine lv_if_eq (tgt := 2572) hx hb dL_law_2567 rfl (fun c7 => ?_) (fun c7 => absurd rfl c7)
    refine lv_goto (tgt := 2739) hx hb dL_law_2572 rfl ?_
    exact kk _ H locs ls hw (lv_sub hl [2, 3, 4, 5, 6] rfl)
set_option maxHeartbeats 4000000 in
set_option maxRecDepth 100000 in
theorem c_servedDays (C : LC p l s m c b L xs A) {i : Nat} (hi : i + 5 ≤ L) {n : Nat} {rv : Int32} (hf : f_X6_servedDays n x = some rv) {n2 : Nat} {bv : Int32} {xm' : SX} (hm : f_X7_servedDays n2 xm = some (bv, xm')) (hab : rv = bv) (hw : Wd G (wL G ad qb cap x y bd xm qo o) A s H locs) (hl : lv_has ls 7 [(0, .ref b), (1, .ref (ad 0)), (2, .ref (bd 0)), (3, .ref qo), (4, .int (nI i))]) (hcs : cells + 1 ≤ 601024) (hss : slots + 6 ≤ 7293034) (kk : ∀ (H1 : Heap) (locs1 : List Loc) (ls1 : Array Slot), Wd G (wL G ad qb cap x y bd xm' qo o) A s H1 locs1 → lv_has ls1 7 [(0, .ref b), (1, .ref (ad 0)), (2, .ref (bd 0)), (3, .ref qo), (4, .int (nI i))] → W p l e room_1 s m #[Value.ref b] below meth c H1 locs1 (cells + 1) (slots + 6) Q (F0 m 2739 ls1 [])) : W p l e room_1 s m #[Value.ref b] below meth c H locs cells slots Q (F0 m 2575 ls []) := by
  have hx := C.1.1
  have hb := C.1.2.1
  refine W.widen (k := cells + 1) (n := slots + 6) (by omega) (by omega) ?_
  refine lv_aload_n hx hb dL_law_2575 rfl (lv_at hl 1 rfl) ?_
  refine k_lx (rest := []) (As := []) C (t_X6_servedDays hf) cv_X6_servedDays ml_L_293 hw rfl rfl rfl hl.1 rfl (Nat.le_of_ble_eq_true rfl) ⟨(Nat.le_of_ble_eq_true rfl), (Nat.le_of_ble_eq_true rfl)⟩ ⟨hcs, hss⟩ dL_law_2576 (fun H locs hw => ?_)
  refine lv_aload_n hx hb dL_law_2579 rfl (lv_at hl 2 rfl) ?_
  refine k_lm (rest := [.int rv]) (As := []) C (t_X7_servedDays hm) cv_X7_servedDays ml_L_296 hw rfl rfl rfl hl.1 rfl (Nat.le_of_ble_eq_true rfl) ⟨(Nat.le_of_ble_eq_true rfl), (Nat.le_of_ble_eq_true rfl)⟩ ⟨hcs, hss⟩ dL_law_2580 (fun H locs hw => ?_)
  refine lv_icmp_eq (tgt := 2739) hx hb dL_law_2583 rfl (fun c9 => ?_) (fun c9 => absurd hab c9)
  exact kk H locs ls hw (lv_sub hl [0, 1, 2, 3, 4] rfl)
set_option maxHeartbeats 4000000 in
set_option maxRecDepth 100000 in
theorem c_licenceDays (C : LC p l s m c b L xs A) {i : Nat} (hi : i + 5 ≤ L) {n : Nat} {rv : Int32} (hf : f_X6_licenceDays n x = some rv) {n2 : Nat} {bv : Int32} {xm' : SX} (hm : f_X7_licenceDays n2 xm = some (bv, xm')) (hab : rv = bv) (hw : Wd G (wL G ad qb cap x y bd xm qo o) A s H locs) (hl : lv_has ls 7 [(0, .ref b), (1, .ref (ad 0)), (2, .ref (bd 0)), (3, .ref qo), (4, .int (nI i))]) (hcs : cells + 1 ≤ 601024) (hss : slots + 6 ≤ 7293034) (kk : ∀ (H1 : Heap) (locs1 : List Loc) (ls1 : Array Slot), Wd G (wL G ad qb cap x y bd xm' qo o) A s H1 locs1 → lv_has ls1 7 [(0, .ref b), (1, .ref (ad 0)), (2, .ref (bd 0)), (3, .ref qo), (4, .int (nI i))] → W p l e room_1 s m #[Value.ref b] below meth c H1 locs1 (cells + 1) (slots + 6) Q (F0 m 2739 ls1 [])) : W p l e room_1 s m #[Value.ref b] below meth c H locs cells slots Q (F0 m 2588 ls []) := by
  have hx := C.1.1
  have hb := C.1.2.1
  refine W.widen (k := cells + 1) (n := slots + 6) (by omega) (by omega) ?_
  refine lv_aload_n hx hb dL_law_2588 rfl (lv_at hl 1 rfl) ?_
  refine k_lx (rest := []) (As := []) C (t_X6_licenceDays hf) cv_X6_licenceDays ml_L_297 hw rfl rfl rfl hl.1 rfl (Nat.le_of_ble_eq_true rfl) ⟨(Nat.le_of_ble_eq_true rfl), (Nat.le_of_ble_eq_true rfl)⟩ ⟨hcs, hss⟩ dL_law_2589 (fun H locs hw => ?_)
  refine lv_aload_n hx hb dL_law_2592 rfl (lv_at hl 2 rfl) ?_
  refine k_lm (rest := [.int rv]) (As := []) C (t_X7_licenceDays hm) cv_X7_licenceDays ml_L_300 hw rfl rfl rfl hl.1 rfl (Nat.le_of_ble_eq_true rfl) ⟨(Nat.le_of_ble_eq_true rfl), (Nat.le_of_ble_eq_true rfl)⟩ ⟨hcs, hss⟩ dL_law_2593 (fun H locs hw => ?_)
  refine lv_icmp_eq (tgt := 2739) hx hb dL_law_2596 rfl (fun c9 => ?_) (fun c9 => absurd hab c9)
  exact kk H locs ls hw (lv_sub hl [0, 1, 2, 3, 4] rfl)
set_option maxHeartbeats 4000000 in
set_option maxRecDepth 100000 in
theorem c_statusOn (C : LC p l s m c b L xs A) {i : Nat} (hi : i + 5 ≤ L) {n : Nat} {k0 : Nat} {rv c0 : Int32} (hf : f_X6_statusOn n x (xs (i + 1)) = some (k0, rv)) (hc : (k0 = 0 ∧ c0 = 0) ∨ (k0 = 1 ∧ c0 = 1)) {n2 : Nat} {bv : Int32} {xm' : SX} (hm : f_X7_statusOn n2 xm (xs (i + 1)) = some (bv, xm')) (hth : xm'.1 0 0 = c0) (hab : c0 = 0 → rv = bv) (hw : Wd G (wL G ad qb cap x y bd xm qo o) A s H locs) (hl : lv_has ls 7 [(0, .ref b), (1, .ref (ad 0)), (2, .ref (bd 0)), (3, .ref qo), (4, .int (nI i))]) (hcs : cells + 1 ≤ 601024) (hss : slots + 6 ≤ 7293034) (kk : ∀ (o' : Nat → Int64) (H1 : Heap) (locs1 : List Loc) (ls1 : Array Slot), Wd G (wL G ad qb cap x y bd xm' qo o') A s H1 locs1 → lv_has ls1 7 [(0, .ref b), (1, .ref (ad 0)), (2, .ref (bd 0)), (3, .ref qo), (4, .int (nI i))] → W p l e room_1 s m #[Value.ref b] below meth c H1 locs1 (cells + 1) (slots + 6) Q (F0 m 2739 ls1 [])) : W p l e room_1 s m #[Value.ref b] below meth c H locs cells slots Q (F0 m 2601 ls []) := by
  have hx := C.1.1
  have hb := C.1.2.1
  have hL := C.2.2.2.2.1
  have ho : c0 = 0 → (if k0 = 0 then vp_updL o 0 rv.toInt64 else o) ((0 : Int32).toNatClampNeg) = bv.toInt64 := fun z => by
    have hk0 : k0 = 0 := by
      rcases hc with ⟨h1, h2⟩ | ⟨h1, h2⟩
      · exact h1
      · rw [h2] at z; exact absurd z (by decide)
    rw [if_pos hk0, hab z, sb_cl0]
    exact pk_uLs
  refine lv_aload_n hx hb dL_law_2601 rfl (lv_at hl 1 rfl) ?_
  refine lv_aload_n hx hb dL_law_2602 rfl (lv_at hl 0 rfl) ?_
  refine lv_iload hx hb dL_law_2603 (lv_at hl 4 rfl) ?_
  refine lv_iconst (v := 1) hx hb dL_law_2605 (by decide) ?_
  refine lv_iadd hx hb dL_law_2606 ?_
  refine k_sc C hw (j := i + 1) (nI_add i 1) (by omega) dL_law_2607 ?_
  refine lv_aload_n hx hb dL_law_2608 rfl (lv_at hl 3 rfl) ?_
  refine k_lw (rest := []) (As := [.ref (ad 0), .int (xs (i + 1)), .ref qo]) C (t_L_statusOn C.2.2.2.2.2.1 hf hc) cw_L_statusOn ml_L_301 hw rfl hl.1 rfl (Nat.le_of_ble_eq_true rfl) ⟨(Nat.le_of_ble_eq_true rfl), (Nat.le_of_ble_eq_true rfl)⟩ ⟨hcs, hss⟩ dL_law_2609 (fun H locs hw => ?_)
  refine lv_istore (lv' := [(5, .int c0), (0, .ref b), (1, .ref (ad 0)), (2, .ref (bd 0)), (3, .ref qo), (4, .int (nI i))]) hx hb dL_law_2612 hl (Nat.le_of_ble_eq_true rfl) rfl (fun ls hl => ?_)
  refine lv_aload_n hx hb dL_law_2614 rfl (lv_at hl 3 rfl) ?_
  refine lv_aload_n hx hb dL_law_2615 rfl (lv_at hl 1 rfl) ?_
  refine lv_iload hx hb dL_law_2616 (lv_at hl 5 rfl) ?_
  refine lv_iconst (v := 1) hx hb dL_law_2618 (by decide) ?_
  refine lv_iadd hx hb dL_law_2619 ?_
  refine k_sc C hw (j := i + 1) (nI_add i 1) (by omega) dL_law_2620 ?_
  refine k_lm (rest := []) (As := [.int (xs (i + 1))]) C (t_X7_statusOn hm) cv_X7_statusOn ml_L_303 hw rfl rfl rfl hl.1 rfl (Nat.le_of_ble_eq_true rfl) ⟨(Nat.le_of_ble_eq_true rfl), (Nat.le_of_ble_eq_true rfl)⟩ ⟨hcs, hss⟩ dL_law_2621 (fun H locs hw => ?_)
  refine lv_istore (lv' := [(6, .int bv), (5, .int c0), (0, .ref b), (1, .ref (ad 0)), (2, .ref (bd 0)), (3, .ref qo), (4, .int (nI i))]) hx hb dL_law_2624 hl (Nat.le_of_ble_eq_true rfl) rfl (fun ls hl => ?_)
  refine lv_aload_n hx hb dL_law_2626 rfl (lv_at hl 4 rfl) ?_
  refine k_lm (rest := []) (As := []) C (t_X7_thrown (n := 0) (rv := c0) (congrArg some hth)) cv_X7_thrown ml_L_155 hw rfl rfl rfl hl.1 rfl (Nat.le_of_ble_eq_true rfl) ⟨(Nat.le_of_ble_eq_true rfl), (Nat.le_of_ble_eq_true rfl)⟩ ⟨hcs, hss⟩ dL_law_2627 (fun H locs hw => ?_)
  refine lv_iload hx hb dL_law_2630 (lv_at hl 1 rfl) ?_
  refine lv_icmp_eq (tgt := 2637) hx hb dL_law_2632 rfl (fun c9 => ?_) (fun c9 => absurd rfl c9)
  refine lv_iload hx hb dL_law_2637 (lv_at hl 1 rfl) ?_
  refine lv_if_ne (tgt := 2654) hx hb dL_law_2639 rfl (fun c8 => ?_) (fun c8 => ?_)
  · refine lv_goto (tgt := 2739) hx hb dL_law_2654 rfl ?_
    exact kk _ H locs ls hw (lv_sub hl [2, 3, 4, 5, 6] rfl)
  · refine lv_aload_n hx hb dL_law_2642 rfl (lv_at hl 5 rfl) ?_
    refine lv_iconst (v := 0) hx hb dL_law_2643 (by decide) ?_
    refine k_lld C.1 hw 64 rfl (by decide) dL_law_2644 ?_
    rw [ho c8]
    refine lv_iload hx hb dL_law_2645 (lv_at hl 0 rfl) ?_
    refine lv_i2l hx hb dL_law_2647 rfl ?_
    refine W.lcmp hx hb dL_law_2648 ?_
    rw [lg_same]
    refine lv_if_eq (tgt := 2654) hx hb dL_law_2649 rfl (fun c7 => ?_) (fun c7 => absurd rfl c7)
    refine lv_goto (tgt := 2739) hx hb dL_law_2654 rfl ?_
    exact kk _ H locs ls hw (lv_sub hl [2, 3, 4, 5, 6] rfl)
set_option maxHeartbeats 4000000 in
set_option maxRecDepth 100000 in
theorem c_writeHistory (C : LC p l s m c b L xs A) {i : Nat} (hi : i + 5 ≤ L) {capF : Nat} {yF : SX} {rv : Int32} (hH : ∀ (G : gG) (l : Launch) (ad : Nat → Nat) (qb : Nat), MetPIU PrB G l yX6_writeHistory cX6_writeHistory 5 (some .int) 8 (capF - cap) (2 * (capF - cap)) 250 [.ref (ad 0)] (wX G ad x ++ (wB G ad qb cap y ++ [])) (fun u => wX G ad x ++ (wB G ad u capF yF ++ [])) rv) {n2 : Nat} {bv : Int32} {xm' : SX} (hm : f_X7_writeHistory n2 xm = some (bv, xm')) (hab : rv = bv) (hw : Wd G (wL G ad qb cap x y bd xm qo o) A s H locs) (hl : lv_has ls 7 [(0, .ref b), (1, .ref (ad 0)), (2, .ref (bd 0)), (3, .ref qo), (4, .int (nI i))]) (hcs : cells + (capF - cap) ≤ 601024) (hss : slots + 2 * (capF - cap) ≤ 7293034) (kk : ∀ (qb' : Nat) (H1 : Heap) (locs1 : List Loc) (ls1 : Array Slot), Wd G (wL G ad qb' capF x yF bd xm' qo o) A s H1 locs1 → lv_has ls1 7 [(0, .ref b), (1, .ref (ad 0)), (2, .ref (bd 0)), (3, .ref qo), (4, .int (nI i))] → W p l e room_1 s m #[Value.ref b] below meth c H1 locs1 (cells + (capF - cap)) (slots + 2 * (capF - cap)) Q (F0 m 2739 ls1 [])) : W p l e room_1 s m #[Value.ref b] below meth c H locs cells slots Q (F0 m 2657 ls []) := by
  have hx := C.1.1
  have hb := C.1.2.1
  refine lv_aload_n hx hb dL_law_2657 rfl (lv_at hl 1 rfl) ?_
  refine k_lh (rest := []) (As := []) C (hH G l ad qb) cv_X6_writeHistory ml_L_304 hw rfl rfl rfl hl.1 rfl (Nat.le_of_ble_eq_true rfl) ⟨(Nat.le_of_ble_eq_true rfl), (Nat.le_of_ble_eq_true rfl)⟩ ⟨hcs, hss⟩ dL_law_2658 (fun u H locs hw => ?_)
  refine lv_aload_n hx hb dL_law_2661 rfl (lv_at hl 2 rfl) ?_
  refine k_lm (rest := [.int rv]) (As := []) C (t_X7_writeHistory hm) cv_X7_writeHistory ml_L_307 hw rfl rfl rfl hl.1 rfl (Nat.le_of_ble_eq_true rfl) ⟨(Nat.le_of_ble_eq_true rfl), (Nat.le_of_ble_eq_true rfl)⟩ ⟨hcs, hss⟩ dL_law_2662 (fun H locs hw => ?_)
  refine lv_icmp_eq (tgt := 2739) hx hb dL_law_2665 rfl (fun c9 => ?_) (fun c9 => absurd hab c9)
  exact kk _ H locs ls hw (lv_sub hl [0, 1, 2, 3, 4] rfl)
set_option maxHeartbeats 4000000 in
set_option maxRecDepth 100000 in
theorem c_outputAt (C : LC p l s m c b L xs A) {i : Nat} (hi : i + 5 ≤ L) {tt : Nat → Nat} {kt : Nat} {k0 : Nat} {rv c0 : Int32} (ht : OkT cap y tt kt) (hk : ((0 ≤ xs (i + 1) ∧ xs (i + 1) < nI kt) ∧ k0 = 0 ∧ rv = nI (tt (xs (i + 1)).toNatClampNeg)) ∨ (¬ (0 ≤ xs (i + 1) ∧ xs (i + 1) < nI kt) ∧ k0 = 3 ∧ rv = 0)) (hc : (k0 = 0 ∧ c0 = 0) ∨ (k0 = 3 ∧ c0 = 1)) {n2 : Nat} {bv : Int32} {xm' : SX} (hm : f_X7_outputAt n2 xm (xs (i + 1)) = some (bv, xm')) (hth : xm'.1 0 0 = c0) (hab : c0 = 0 → rv = bv) (hw : Wd G (wL G ad qb cap x y bd xm qo o) A s H locs) (hl : lv_has ls 7 [(0, .ref b), (1, .ref (ad 0)), (2, .ref (bd 0)), (3, .ref qo), (4, .int (nI i))]) (hcs : cells + 1 ≤ 601024) (hss : slots + 6 ≤ 7293034) (kk : ∀ (o' : Nat → Int64) (H1 : Heap) (locs1 : List Loc) (ls1 : Array Slot), Wd G (wL G ad qb cap x y bd xm' qo o') A s H1 locs1 → lv_has ls1 7 [(0, .ref b), (1, .ref (ad 0)), (2, .ref (bd 0)), (3, .ref qo), (4, .int (nI i))] → W p l e room_1 s m #[Value.ref b] below meth c H1 locs1 (cells + 1) (slots + 6) Q (F0 m 2739 ls1 [])) : W p l e room_1 s m #[Value.ref b] below meth c H locs cells slots Q (F0 m 2670 ls []) := by
  have hx := C.1.1
  have hb := C.1.2.1
  have hL := C.2.2.2.2.1
  have ho : c0 = 0 → (if k0 = 0 then vp_updL o 0 rv.toInt64 else o) ((0 : Int32).toNatClampNeg) = bv.toInt64 := fun z => by
    have hk0 : k0 = 0 := by
      rcases hc with ⟨h1, h2⟩ | ⟨h1, h2⟩
      · exact h1
      · rw [h2] at z; exact absurd z (by decide)
    rw [if_pos hk0, hab z, sb_cl0]
    exact pk_uLs
  refine lv_aload_n hx hb dL_law_2670 rfl (lv_at hl 1 rfl) ?_
  refine lv_aload_n hx hb dL_law_2671 rfl (lv_at hl 0 rfl) ?_
  refine lv_iload hx hb dL_law_2672 (lv_at hl 4 rfl) ?_
  refine lv_iconst (v := 1) hx hb dL_law_2674 (by decide) ?_
  refine lv_iadd hx hb dL_law_2675 ?_
  refine k_sc C hw (j := i + 1) (nI_add i 1) (by omega) dL_law_2676 ?_
  refine lv_aload_n hx hb dL_law_2677 rfl (lv_at hl 3 rfl) ?_
  refine k_lwB (rest := []) (As := [.ref (ad 0), .int (xs (i + 1)), .ref qo]) C (h_L_outAt ht hk hc C.2.2.2.2.2.1) cw_L_outputAt ml_L_308 hw rfl hl.1 rfl (Nat.le_of_ble_eq_true rfl) ⟨(Nat.le_of_ble_eq_true rfl), (Nat.le_of_ble_eq_true rfl)⟩ ⟨hcs, hss⟩ dL_law_2678 (fun H locs hw => ?_)
  refine lv_istore (lv' := [(5, .int c0), (0, .ref b), (1, .ref (ad 0)), (2, .ref (bd 0)), (3, .ref qo), (4, .int (nI i))]) hx hb dL_law_2681 hl (Nat.le_of_ble_eq_true rfl) rfl (fun ls hl => ?_)
  refine lv_aload_n hx hb dL_law_2683 rfl (lv_at hl 3 rfl) ?_
  refine lv_aload_n hx hb dL_law_2684 rfl (lv_at hl 1 rfl) ?_
  refine lv_iload hx hb dL_law_2685 (lv_at hl 5 rfl) ?_
  refine lv_iconst (v := 1) hx hb dL_law_2687 (by decide) ?_
  refine lv_iadd hx hb dL_law_2688 ?_
  refine k_sc C hw (j := i + 1) (nI_add i 1) (by omega) dL_law_2689 ?_
  refine k_lm (rest := []) (As := [.int (xs (i + 1))]) C (t_X7_outputAt hm) cv_X7_outputAt ml_L_310 hw rfl rfl rfl hl.1 rfl (Nat.le_of_ble_eq_true rfl) ⟨(Nat.le_of_ble_eq_true rfl), (Nat.le_of_ble_eq_true rfl)⟩ ⟨hcs, hss⟩ dL_law_2690 (fun H locs hw => ?_)
  refine lv_istore (lv' := [(6, .int bv), (5, .int c0), (0, .ref b), (1, .ref (ad 0)), (2, .ref (bd 0)), (3, .ref qo), (4, .int (nI i))]) hx hb dL_law_2693 hl (Nat.le_of_ble_eq_true rfl) rfl (fun ls hl => ?_)
  refine lv_aload_n hx hb dL_law_2695 rfl (lv_at hl 4 rfl) ?_
  refine k_lm (rest := []) (As := []) C (t_X7_thrown (n := 0) (rv := c0) (congrArg some hth)) cv_X7_thrown ml_L_155 hw rfl rfl rfl hl.1 rfl (Nat.le_of_ble_eq_true rfl) ⟨(Nat.le_of_ble_eq_true rfl), (Nat.le_of_ble_eq_true rfl)⟩ ⟨hcs, hss⟩ dL_law_2696 (fun H locs hw => ?_)
  refine lv_iload hx hb dL_law_2699 (lv_at hl 1 rfl) ?_
  refine lv_icmp_eq (tgt := 2706) hx hb dL_law_2701 rfl (fun c9 => ?_) (fun c9 => absurd rfl c9)
  refine lv_iload hx hb dL_law_2706 (lv_at hl 1 rfl) ?_
  refine lv_if_ne (tgt := 2723) hx hb dL_law_2708 rfl (fun c8 => ?_) (fun c8 => ?_)
  · refine lv_goto (tgt := 2739) hx hb dL_law_2723 rfl ?_
    exact kk _ H locs ls hw (lv_sub hl [2, 3, 4, 5, 6] rfl)
  · refine lv_aload_n hx hb dL_law_2711 rfl (lv_at hl 5 rfl) ?_
    refine lv_iconst (v := 0) hx hb dL_law_2712 (by decide) ?_
    refine k_lld C.1 hw 64 rfl (by decide) dL_law_2713 ?_
    rw [ho c8]
    refine lv_iload hx hb dL_law_2714 (lv_at hl 0 rfl) ?_
    refine lv_i2l hx hb dL_law_2716 rfl ?_
    refine W.lcmp hx hb dL_law_2717 ?_
    rw [lg_same]
    refine lv_if_eq (tgt := 2723) hx hb dL_law_2718 rfl (fun c7 => ?_) (fun c7 => absurd rfl c7)
    refine lv_goto (tgt := 2739) hx hb dL_law_2723 rfl ?_
    exact kk _ H locs ls hw (lv_sub hl [2, 3, 4, 5, 6] rfl)
set_option maxHeartbeats 4000000 in
set_option maxRecDepth 100000 in
theorem c_isConsistent (C : LC p l s m c b L xs A) {i : Nat} (hi : i + 5 ≤ L) {n : Nat} {xr : SX} {rv : Int32} (hf : f_X6_isConsistent n x = some (rv, xr)) {n2 : Nat} {bv : Int32} {xm' : SX} (hm : f_X7_isConsistent n2 xm = some (bv, xm')) (hab : rv = bv) (hw : Wd G (wL G ad qb cap x y bd xm qo o) A s H locs) (hl : lv_has ls 7 [(0, .ref b), (1, .ref (ad 0)), (2, .ref (bd 0)), (3, .ref qo), (4, .int (nI i))]) (hcs : cells + 1 ≤ 601024) (hss : slots + 6 ≤ 7293034) (kk : ∀ (H1 : Heap) (locs1 : List Loc) (ls1 : Array Slot), Wd G (wL G ad qb cap xr y bd xm' qo o) A s H1 locs1 → lv_has ls1 7 [(0, .ref b), (1, .ref (ad 0)), (2, .ref (bd 0)), (3, .ref qo), (4, .int (nI i))] → W p l e room_1 s m #[Value.ref b] below meth c H1 locs1 (cells + 1) (slots + 6) Q (F0 m 2739 ls1 [])) : W p l e room_1 s m #[Value.ref b] below meth c H locs cells slots Q (F0 m 2726 ls []) := by
  have hx := C.1.1
  have hb := C.1.2.1
  refine W.widen (k := cells + 1) (n := slots + 6) (by omega) (by omega) ?_
  refine lv_aload_n hx hb dL_law_2726 rfl (lv_at hl 1 rfl) ?_
  refine k_lx (rest := []) (As := []) C (t_X6_isConsistent hf) cv_X6_isConsistent ml_L_311 hw rfl rfl rfl hl.1 rfl (Nat.le_of_ble_eq_true rfl) ⟨(Nat.le_of_ble_eq_true rfl), (Nat.le_of_ble_eq_true rfl)⟩ ⟨hcs, hss⟩ dL_law_2727 (fun H locs hw => ?_)
  refine lv_aload_n hx hb dL_law_2730 rfl (lv_at hl 2 rfl) ?_
  refine k_lm (rest := [.int rv]) (As := []) C (t_X7_isConsistent hm) cv_X7_isConsistent ml_L_315 hw rfl rfl rfl hl.1 rfl (Nat.le_of_ble_eq_true rfl) ⟨(Nat.le_of_ble_eq_true rfl), (Nat.le_of_ble_eq_true rfl)⟩ ⟨hcs, hss⟩ dL_law_2731 (fun H locs hw => ?_)
  refine lv_icmp_eq (tgt := 2739) hx hb dL_law_2734 rfl (fun c9 => ?_) (fun c9 => absurd hab c9)
  exact kk H locs ls hw (lv_sub hl [0, 1, 2, 3, 4] rfl)
end LAW
