/-! ===== markedCredit ===== -/
theorem MX_1 {x x' : SX} {A : AA} (h : MX x A) (e : x'.1 = x.1) : MX x' A := by unfold MX at h ⊢; rw [e]; exact h
theorem DX_1 {x x' : SX} {A : AA} (h : DX x A) (e : x'.1 = x.1) : DX x' A := by unfold DX at h ⊢; rw [e]; exact h
theorem WX_1 {x x' : SX} {A : AA} (h : WX x A) (e : x'.2 40 = x.2 40) (e2 : x'.2 41 = x.2 41) : WX x' A := by unfold WX at h ⊢; rw [e, e2]; exact h
theorem sh1 : ∀ p, p < 31 → (1 : Int32) <<< (nI p &&& 31) = nI (2 ^ p) := by decide +kernel
theorem it_bit {α : Type} {u v : α} {m p : Nat} (hp : p < 31) : (if nI m &&& ((1 : Int32) <<< (nI p &&& 31)) = 0 then u else v) = if m.testBit p = true then v else u := by
  rw [sh1 p hp]
  have e := fa_bit (n := m) hp
  by_cases c : m.testBit p = true
  · rw [if_pos c, if_neg]
    intro q
    rw [e.mp q] at c
    cases c
  · rw [if_neg c, if_pos]
    exact e.mpr (ts_nt c)
theorem xq_belongs {n : Nat} {x : SX} {A : AA} (h : WF A) (hM : MX x A) {m k : Nat} (hk : (k : Int) < A 0 14) : f_X4_belongsTo n x (nI m) (iI k) = some (if m.testBit (A 25 k).toNat = true then 1 else 0) := by
  obtain ⟨m8, m9, m10, m17, m25, m33, m40, mR, mR0, r10, r11, r12, r13, r14, r15, r16, r30, r31, r32, r35, r36, r37⟩ := hM
  have w := h.2.2.2.2.2.2.2.1 k hk
  have w14 := h.2.2.1
  have w6 := h.2.1
  unfold f_X4_belongsTo
  rw [i_gd (by omega) (by omega) (by decide), i_clN (by omega), r30, i_nat w.1.1, it_bit (by omega)]
  split <;> rfl
theorem markC_l {n : Nat} (hn : 40000 ≤ n) {A : AA} (h : WF A) {t m : Nat} (ht : t < 10) {c : Int} (hc : 0 ≤ c) (hc2 : c < 1000000) : ∀ (f k : Nat) (x : SX), MX x A → WX x A → x.1 18 t = nI m → x.1 22 t = iI c → (∀ d : Nat, d < 14656 → lbit (x.2 42) d = covF A m k d) → (k : Int) ≤ A 0 14 → A 0 14 < k + f →
    ∃ x' : SX, f_X6_markedCredit_l9 n (iI t) f (iI k) x = some (iI (if c < (crM A m : Int) then c else (crM A m : Int)), x') ∧ x'.1 = x.1 ∧ x'.2 40 = x.2 40 ∧ x'.2 41 = x.2 41 := by
  intro f
  have w14 := h.2.2.1
  have hcr : crM A m ≤ 14656 := fb_ct_le _ _
  induction f with
  | zero => intro k x _ _ _ _ _ a b; omega
  | succ f ih =>
    intro k x hM hW h18 h22 hmk a b
    have m25 := hM.2.2.2.2.1
    have r31 := hM.2.2.2.2.2.2.2.2.2.2.2.2.2.2.2.2.2.1
    have r32 := hM.2.2.2.2.2.2.2.2.2.2.2.2.2.2.2.2.2.2.1
    rw [f_X6_markedCredit_l9, m25, it_le (by omega) (by omega) (by omega) (by omega)]
    by_cases e : A 0 14 ≤ k
    · rw [if_pos e, f_X6_markedCredit_e71, swo hn (P := fun d => cov A m d && uns A d) (fun d hd => by
        rw [hmk d hd, (hW d hd).1]
        unfold cov uns
        rw [show (A 0 14).toNat = k by omega, ← decide_not]), q_some, i_gd (by omega) (by omega) (by decide), i_clN (by omega), h22]
      rw [show fb_ct (fun d => cov A m d && uns A d) 14656 = crM A m from rfl, it_lt (by omega) (by omega) (by omega) (by omega), i_ite]
      exact ⟨x, rfl, rfl, rfl, rfl⟩
    · have w := h.2.2.2.2.2.2.2.1 k (by omega)
      have w1 := h.1
      rw [if_neg e, i_gd (by omega) (by omega) (by decide), i_clN (by omega), h18, xq_belongs h hM (by omega), q_some]
      by_cases c2 : m.testBit (A 25 k).toNat = true
      · rw [if_pos c2, if_neg (by decide), i_gd (by omega) (by omega) (by decide), i_clN (by omega), r31, r32]
        obtain ⟨x', e1, e2, e3, e4⟩ := mark_7 hn (a := A 26 k) (b := A 27 k) w.2.1 (by omega) (by omega) (by omega) x
        rw [e1, q_some, q_some, i_1, q_nm]
        obtain ⟨x2, g1, g2, g3, g4⟩ := ih (k + 1) x' (MX_1 hM e2) (WX_1 hW (e3 40 (by decide)) (e3 41 (by decide))) (by rw [e2]; exact h18) (by rw [e2]; exact h22) (fun d hd => by
          rw [e4 d hd, hmk d hd, covF, c2, Bool.true_and, ← Bool.decide_and]) (by omega) (by omega)
        exact ⟨x2, g1, g2.trans e2, g3.trans (e3 40 (by decide)), g4.trans (e3 41 (by decide))⟩
      · rw [if_neg c2, if_pos rfl, q_some, i_1, q_nm]
        exact ih (k + 1) x hM hW h18 h22 (fun d hd => by
          rw [hmk d hd, covF, ts_nt c2, Bool.false_and, Bool.false_and, Bool.or_false]) (by omega) (by omega)
theorem markC {n : Nat} (hn : 40000 ≤ n) {A : AA} (h : WF A) {t m : Nat} (ht : t < 10) {c : Int} (hc : 0 ≤ c) (hc2 : c < 1000000) {x : SX} (hM : MX x A) (hW : WX x A) (h18 : x.1 18 t = nI m) (h22 : x.1 22 t = iI c) : ∃ x' : SX, f_X6_markedCredit n x (iI t) = some (iI (if c < (crM A m : Int) then c else (crM A m : Int)), x') ∧ x'.1 = x.1 ∧ x'.2 40 = x.2 40 ∧ x'.2 41 = x.2 41 := by
  obtain ⟨x1, e1, e2, e3, e4⟩ := clear_7 hn x
  obtain ⟨x2, g1, g2, g3, g4⟩ := markC_l hn h (m := m) ht hc hc2 n 0 x1 (MX_1 hM e2) (WX_1 hW (e3 40 (by decide)) (e3 41 (by decide))) (by rw [e2]; exact h18) (by rw [e2]; exact h22) (fun d hd => e4 d hd) (by have := h.2.2.1; omega) (by have := h.2.2.1; omega)
  refine ⟨x2, ?_, g2.trans e2, g3.trans (e3 40 (by decide)), g4.trans (e3 41 (by decide))⟩
  unfold f_X6_markedCredit
  rw [e1, q_some]
  exact g1
theorem cd_alt (A : AA) (t : Nat) : (if alZ A t < (crM A (chM A t) : Int) then alZ A t else (crM A (chM A t) : Int)) = cdZ A t := by
  unfold cdZ
  split <;> split <;> omega
/-! ===== settle ===== -/
theorem xq_custody (n : Nat) {kd ln : Int} (h1 : 0 ≤ kd) (h2 : kd ≤ 3) (h3 : 0 ≤ ln) (h4 : ln < 1000000) : f_X5_custodyOf n (iI kd) (iI ln) = some (iI (paZ kd ln)) := by
  unfold f_X5_custodyOf paZ
  simp (disch := omega) only [i_lit, i_eq, i_add, i_mul, i_div, i_lt, i_ite, q_ites]
  congr 2
  split
  · rfl
  · split
    · rfl
    · split
      · rfl
      · rw [if_pos (by omega)]
        split <;> split <;> first | rfl | omega | (split <;> omega)
/-- what is reckoned of term t stands in its places -/
def DXt (x : SX) (A : AA) (t : Nat) : Prop := x.1 18 t = nI (chM A t) ∧ x.1 19 t = iI (stZ A t) ∧ x.1 20 t = iI (lnZ A t) ∧ x.1 21 t = iI (fsZ A t) ∧ x.1 22 t = iI (alZ A t) ∧ x.1 23 t = iI (apZ A t)
theorem sh1I {t : Nat} (h : t < 31) : (1 : Int32) <<< (iI (t : Int) &&& 31) = nI (2 ^ t) := by rw [i_N]; exact sh1 t h
def stl (x : SX) (t : Nat) (a b c d e f : Int32) : SX := si (si (si (si (si (si x 19 t a) 20 t b) 18 t c) 21 t d) 22 t e) 23 t f
theorem stl_at {x : SX} {t : Nat} {a b c d e f : Int32} : (stl x t a b c d e f).1 18 t = c ∧ (stl x t a b c d e f).1 19 t = a ∧ (stl x t a b c d e f).1 20 t = b ∧ (stl x t a b c d e f).1 21 t = d ∧ (stl x t a b c d e f).1 22 t = e ∧ (stl x t a b c d e f).1 23 t = f := by
  unfold stl
  refine ⟨?_, ?_, ?_, ?_, ?_, ?_⟩ <;> simp (disch := decide) only [sg_s, sg_r]
theorem stl_n {x : SX} {t : Nat} {a b c d e f : Int32} {r k : Nat} (h : r < 18 ∨ 23 < r ∨ k ≠ t) : (stl x t a b c d e f).1 r k = x.1 r k := by
  unfold stl
  rw [si_ap, si_ap, si_ap, si_ap, si_ap, si_ap, if_neg (by omega), if_neg (by omega), if_neg (by omega), if_neg (by omega), if_neg (by omega), if_neg (by omega)]
theorem settleC {n : Nat} (hn : 40000 ≤ n) {x : SX} {A : AA} (h : WF A) (hM : MX x A) {t : Nat} (ht : (t : Int) < A 0 6) (hq : A 23 t = 0) (hp : 0 ≤ A 22 t → DXt x A (A 22 t).toNat) : ∃ x' : SX, f_X5_settleChain n x (iI t) = some x' ∧ DXt x' A t ∧ (∀ r k, (r < 18 ∨ 23 < r ∨ k ≠ t) → x'.1 r k = x.1 r k) ∧ x'.2 = x.2 := by
  obtain ⟨m8, m9, m10, m17, m25, m33, m40, mR, mR0, r10, r11, r12, r13, r14, r15, r16, r30, r31, r32, r35, r36, r37⟩ := hM
  have w6 := h.2.1
  obtain ⟨w1, w2, w3, w4, w5, wp, -⟩ := h.2.2.2.2.2.1 t ht
  obtain ⟨s1, s2, s3, s4⟩ := h.st t ht
  have ha := h.al t ht
  have e1 := h.st_eq ht
  have e2 := h.fs_eq ht
  have e3 := h.al_eq ht
  have e4 := h.ap_eq ht
  have e5 := h.cm_eq ht
  have el : lnZ A t = latZ (stZ A t) (A 18 t) - stZ A t + A 19 t := rfl
  have ept : ptZ A t = paZ (A 17 t) (lnZ A t) := rfl
  refine ⟨stl x t (iI (stZ A t)) (iI (lnZ A t)) (nI (chM A t)) (iI (fsZ A t)) (iI (alZ A t)) (iI (apZ A t)), ?_, stl_at, fun r k hr => stl_n hr, rfl⟩
  unfold f_X5_settleChain
  rw [i_gd (by omega) (by omega) (by decide), i_clN (by omega), q_nm, r14, i_0, it_lt (by omega) (by omega) (by omega) (by omega), it_le (by omega) (by omega) (by omega) (by omega)]
  by_cases c : A 22 t = -1
  · rw [if_pos c] at e1 e2 e3 e4 e5
    rw [if_pos (show A 22 t < 0 by omega), q_some, if_pos rfl, r15 t ht hq c, q_some, q_nm, sg_s, sg_r (by decide), r11, ← e1, c_lat hn s1 (by omega) w2.1 w2.2, q_some, sg_r (by decide), r12, i_sub, i_add, ← el, q_nm]
    rw [sg_r (by decide), sg_r (by decide), r10, sg_s, xq_custody n w1.1 w1.2 s3 (by omega), q_some, if_pos rfl, q_some, q_nm, if_pos rfl, q_some, q_nm, if_pos rfl, q_some, q_nm, if_pos rfl, q_some, q_nm]
    simp (disch := decide) only [sg_s, sg_r]
    rw [i_add, i_add, sh1I (by omega), ← i_0, show (0 : Int32) = nI 0 from rfl, fa_or, ← e5, ← ept, ← e3, ← e4, e2, ← e1]
    rfl
  · rw [if_neg c] at e1 e2 e3 e4 e5
    obtain ⟨d18, d19, d20, d21, d22, d23⟩ := hp (by omega)
    have hne : (A 22 t).toNat ≠ t := by omega
    have cl : (iI (A 22 t)).toNatClampNeg = (A 22 t).toNat := i_cl (by omega) (by omega)
    rw [if_neg (show ¬ A 22 t < 0 by omega), if_neg (by omega), q_some, if_neg (by decide), i_gd (by omega) (by omega) (by decide), cl, d19, d20, q_some, i_add, ← e1, q_nm, sg_s, sg_r (by decide), r11, c_lat hn s1 (by omega) w2.1 w2.2, q_some, sg_r (by decide), r12, i_sub, i_add, ← el, q_nm]
    rw [sg_r (by decide), sg_r (by decide), r10, sg_s, xq_custody n w1.1 w1.2 s3 (by omega), q_some, if_neg (by decide), i_gd (by omega) (by omega) (by decide), q_some, q_nm, if_neg (by decide), i_gd (by omega) (by omega) (by decide), q_some, q_nm, if_neg (by decide), i_gd (by omega) (by omega) (by decide), q_some, q_nm, if_neg (by decide), i_gd (by omega) (by omega) (by decide), q_some, q_nm]
    simp (disch := first | decide | exact hne) only [sg_s, sg_r, sg_k]
    rw [d18, d21, d22, d23, i_add, i_add, sh1I (by omega), fa_or, ← e5, ← ept, ← e3, ← e4, ← e2]
    rfl
