/-! ===== the text in the StringBuilder ===== -/
/-- k signs t in the StringBuilder y of capacity cap -/
def OkT (cap : Nat) (y : SX) (t : Nat → Nat) (k : Nat) : Prop := y.1 8 1 = 0 ∧ y.1 8 3 = nI k ∧ k ≤ cap ∧ cap ≤ 2 ^ 17 ∧ sb_Fit (y.1 9) ∧ sb_Lat t k (y.1 9)
theorem okt_ens {m cap k : Nat} {x : SX} {t : Nat → Nat} (h : OkT cap x t k) (hm : m ≤ 2 ^ 16) : sb_cap m cap ≤ 2 ^ 17 ∧ cap ≤ sb_cap m cap ∧ m ≤ sb_cap m cap ∧ sb_Fit ((eX m cap x).1 9) ∧ sb_Lat t k ((eX m cap x).1 9) := by
  obtain ⟨h1, h2, h3, h4, h5, h6⟩ := h
  refine ⟨?_, sb_cap_gem m cap, sb_cap_ge m cap, ?_, ?_⟩
  · unfold sb_cap
    split
    · exact h4
    · split <;> omega
  · unfold eX
    split
    · exact h5
    · rw [sr_s]; exact sb_fitC h5 sb_fit0
  · unfold eX
    split
    · exact h6
    · rw [sr_s]; exact sb_latKeep h6 fun j hj => sb_cpy0 (by omega)
theorem enc_ok : ∀ c, c < 256 → f_J1_canEncode_fc78d 0 (nI c) = some 1 := by decide +kernel
/-- one sign more -/
theorem okt_C {cap k c : Nat} {x : SX} {t : Nat → Nat} (h : OkT cap x t k) (hk : k < 2 ^ 16) (hc : c < 256) : OkT (sb_cap (k + 1) cap) (apC k cap x (nI c)) (sb_cat t k fun _ => c) (k + 1) ∧ cap ≤ sb_cap (k + 1) cap ∧ ∀ (G : gG) (l : Launch) (ad : Nat → Nat) (qb : Nat), MetPR PrB G l yJ4_append_cf468 cJ4_append_cf468 2 (some (.object "java/lang/StringBuilder")) 6 (sb_cap (k + 1) cap - cap) (2 * (sb_cap (k + 1) cap - cap)) 190 [.ref (ad 8), .int (nI c)] (wB G ad qb cap x) (fun u => wB G ad (eQ (k + 1) cap qb u) (sb_cap (k + 1) cap) (apC k cap x (nI c))) (fun _ => ad 8) := by
  obtain ⟨g1, g2, g3, g4, g5⟩ := okt_ens (m := k + 1) h (by omega)
  obtain ⟨h1, h2, h3, h4, h5, h6⟩ := h
  have e3 : (eX (k + 1) cap x).1 8 3 = nI k := by rw [eX_8]; exact h2
  have e1 : (eX (k + 1) cap x).1 8 1 = 0 := by rw [eX_8]; exact h1
  have ek : (nI k).toNatClampNeg = k := nI_clamp (by omega)
  have e9 : (apC k cap x (nI c)).1 9 = upd ((eX (k + 1) cap x).1 9) k (sb_b c) := by
    unfold apC
    rw [sr_s, sr_n (by decide), e3, ek]
    rfl
  have e8 : (apC k cap x (nI c)).1 8 = upd ((eX (k + 1) cap x).1 8) 3 (nI (k + 1)) := by
    unfold apC
    rw [sr_n (by decide), sr_s, e3, nI_1]
  refine ⟨⟨?_, ?_, g3, g1, ?_, ?_⟩, g2, fun G l ad qb => t_apC4 (nn := 0) h1 e1 (by rw [h2, nI_1]) (by omega) (by omega) h5 (enc_ok c hc) (by rw [e3]; exact qin_nI (by omega) (by omega))⟩
  · rw [e8, pk_un (by decide)]; exact e1
  · rw [e8, pk_us]
  · rw [e9]; exact sb_fitU g4 (sb_fitB _)
  · rw [e9]
    refine sb_latPut (w := 1) g5 (fun j hj => pk_un (by omega)) fun i hi => ⟨hc, ?_⟩
    obtain rfl : i = 0 := by omega
    exact pk_us
/-- the figures of a number more -/
theorem okt_I {cap k d : Nat} {x : SX} {t : Nat → Nat} (h : OkT cap x t k) (hk : k + 10 ≤ 2 ^ 16) (hd : d < 2 ^ 31) : ∃ y : SX, OkT (sb_cap (k + sb_dg d) cap) y (sb_cat t k (sb_dec d)) (k + sb_dg d) ∧ cap ≤ sb_cap (k + sb_dg d) cap ∧ ∀ (G : gG) (l : Launch) (ad : Nat → Nat) (qb : Nat), MetPR PrB G l yJ4_append_bf812 cJ4_append_bf812 2 (some (.object "java/lang/StringBuilder")) 6 (sb_cap (k + sb_dg d) cap - cap) (2 * (sb_cap (k + sb_dg d) cap - cap)) 190 [.ref (ad 8), .int (nI d)] (wB G ad qb cap x) (fun u => wB G ad (eQ (k + sb_dg d) cap qb u) (sb_cap (k + sb_dg d) cap) y) (fun _ => ad 8) := by
  have hdg := sb_dg_in d
  obtain ⟨g1, g2, g3, g4, g5⟩ := okt_ens (m := k + sb_dg d) h (by omega)
  obtain ⟨h1, h2, h3, h4, h5, h6⟩ := h
  have e1 : (eX (k + sb_dg d) cap x).1 8 1 = 0 := by rw [eX_8]; exact h1
  have en : x.1 8 3 + nI (sb_dg d) = nI (k + sb_dg d) := by rw [h2, nI_add]
  obtain ⟨xg, q1, q2, q3, q4, q5⟩ := gc_all (cap := sb_cap (k + sb_dg d) cap) (n := k) (v := d) (nn := d + 1 + 10) (by omega) (eX (k + sb_dg d) cap x) (by omega) hd g3
  have e9 : (si xg 8 3 (x.1 8 3 + nI (sb_dg d))).1 9 = xg.1 9 := sr_n (by decide)
  have e8 : (si xg 8 3 (x.1 8 3 + nI (sb_dg d))).1 8 = upd (x.1 8) 3 (nI (k + sb_dg d)) := by rw [sr_s, q2, eX_8, en]
  refine ⟨si xg 8 3 (x.1 8 3 + nI (sb_dg d)), ⟨?_, ?_, g3, g1, ?_, ?_⟩, g2, fun G l ad qb => t_apI4 (nn := d + 1 + 10) (rg := nI k) h1 e1 (sz_all hd) en (by omega) (by omega) h5 (by rw [en]; exact q1)⟩
  · rw [e8, pk_un (by decide)]; exact h1
  · rw [e8, pk_us]
  · rw [e9]; exact q5 g4
  · rw [e9]
    refine sb_latPut g5 (fun j hj => q3 j (Or.inl hj)) fun i hi => ?_
    have e := q4 (sb_dg d - 1 - i) (by omega)
    rw [show k + sb_dg d - 1 - (sb_dg d - 1 - i) = k + i by omega] at e
    have hb : sb_dec d i < 256 := by unfold sb_dec; omega
    exact ⟨hb, e⟩
