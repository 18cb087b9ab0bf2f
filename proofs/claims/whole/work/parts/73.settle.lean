/-! ===== settle: after it all stands that is reckoned of the terms ===== -/
theorem MX_r {x x' : SX} {A : AA} (e : ∀ r k, r < 18 ∨ 24 < r → x'.1 r k = x.1 r k) (h : MX x A) : MX x' A := by
  obtain ⟨m8, m9, m10, m17, m25, m33, m40, mR, mR0, r10, r11, r12, r13, r14, r15, r16, r30, r31, r32, r35, r36, r37⟩ := h
  exact ⟨(e 0 8 (by omega)).trans m8, (e 0 9 (by omega)).trans m9, (e 0 10 (by omega)).trans m10, (e 1 7 (by omega)).trans m17, (e 2 5 (by omega)).trans m25, (e 3 3 (by omega)).trans m33, (e 4 0 (by omega)).trans m40, fun h => ⟨(e 4 1 (by omega)).trans (mR h).1, (e 4 2 (by omega)).trans (mR h).2.1, (e 4 3 (by omega)).trans (mR h).2.2⟩, fun h => (e 4 3 (by omega)).trans (mR0 h), fun k => (e 10 k (by omega)).trans (r10 k), fun k => (e 11 k (by omega)).trans (r11 k), fun k => (e 12 k (by omega)).trans (r12 k), fun k => (e 13 k (by omega)).trans (r13 k), fun k => (e 14 k (by omega)).trans (r14 k), fun t a b c => (e 15 t (by omega)).trans (r15 t a b c), fun k => (e 16 k (by omega)).trans (r16 k), fun k => (e 30 k (by omega)).trans (r30 k), fun k => (e 31 k (by omega)).trans (r31 k), fun k => (e 32 k (by omega)).trans (r32 k), fun k => (e 35 k (by omega)).trans (r35 k), fun k => (e 36 k (by omega)).trans (r36 k), fun k => (e 37 k (by omega)).trans (r37 k)⟩
theorem settle_l {n : Nat} (hn : 40000 ≤ n) {A : AA} (h : WF A) : ∀ (f t : Nat) (x : SX), MX x A → WX x A → (∀ t' : Nat, t' < t → (t' : Int) < A 0 6 → A 23 t' = 0 → DXt x A t' ∧ x.1 24 t' = iI (cdZ A t')) → (t : Int) ≤ A 0 6 → A 0 6 < t + f →
    ∃ x' : SX, f_X6_settle_l2 n f (iI t) x = some x' ∧ MX x' A ∧ WX x' A ∧ DX x' A ∧ ∀ r k, r < 18 ∨ 24 < r → x'.1 r k = x.1 r k := by
  intro f
  have w6 := h.2.1
  induction f with
  | zero => intro t x _ _ _ a b; omega
  | succ f ih =>
    intro t x hM hW hD a b
    have m17 := hM.2.2.2.1
    have r16 := hM.2.2.2.2.2.2.2.2.2.2.2.2.2.2.2.1
    rw [f_X6_settle_l2, m17, it_le (by omega) (by omega) (by omega) (by omega)]
    by_cases e : A 0 6 ≤ t
    · rw [if_pos e]
      refine ⟨x, rfl, hM, hW, fun t' h1 h2 => ?_, fun _ _ _ => rfl⟩
      obtain ⟨⟨d18, d19, d20, d21, d22, d23⟩, d24⟩ := hD t' (by omega) h1 h2
      exact ⟨d18, d19, d20, d21, d22, d23, d24⟩
    · have hq := q_23 h t
      rw [if_neg e, i_gd (by omega) (by omega) (by decide), i_clN (by omega), r16, i_0, it_eq (by omega) (by omega) (by omega) (by omega)]
      by_cases c : A 23 t = 0
      · have ha := h.al t (by omega)
        have wt := h.2.2.2.2.2.1 t (by omega)
        obtain ⟨x1, g1, g2, g3, g4⟩ := settleC hn h hM (t := t) (by omega) c (fun hp => (hD (A 22 t).toNat (by omega) (by omega) (wt.2.2.2.2.2.2.2 c hp)).1)
        have hM1 : MX x1 A := MX_r (fun r k hr => g3 r k (by omega)) hM
        have hW1 : WX x1 A := WX_1 hW (by rw [g4]) (by rw [g4])
        obtain ⟨x2, e1, e2, e3, e4⟩ := markC hn h (t := t) (m := chM A t) (by omega) (c := alZ A t) ha.1 (by omega) hM1 hW1 g2.1 g2.2.2.2.2.1
        rw [if_pos c, g1, q_some, e1, q_some2, q_nm, q_some, i_1, q_nm, cd_alt]
        obtain ⟨x', k1, k2, k3, k4, k5⟩ := ih (t + 1) (si x2 24 t (iI (cdZ A t))) (MX_r (fun r k hr => by rw [si_ap, if_neg (by omega), e2]) hM1) (WX_1 hW1 e3 e4) (fun t' h1 h2 h3 => by
          by_cases q : t' = t
          · subst q
            refine ⟨?_, sg_s⟩
            unfold DXt at g2 ⊢
            simp (disch := decide) only [sg_r]
            rw [e2]
            exact g2
          · obtain ⟨d1, d2⟩ := hD t' (by omega) h2 h3
            refine ⟨?_, ?_⟩
            · unfold DXt at d1 ⊢
              simp (disch := decide) only [sg_r]
              rw [e2, g3 18 t' (by omega), g3 19 t' (by omega), g3 20 t' (by omega), g3 21 t' (by omega), g3 22 t' (by omega), g3 23 t' (by omega)]
              exact d1
            · rw [sg_k q, e2, g3 24 t' (by omega)]
              exact d2) (by omega) (by omega)
        refine ⟨x', k1, k2, k3, k4, fun r k hr => ?_⟩
        rw [k5 r k hr, si_ap, if_neg (by omega), e2, g3 r k (by omega)]
      · rw [if_neg c, q_some, i_1, q_nm]
        exact ih (t + 1) x hM hW (fun t' h1 h2 h3 => by
          by_cases q : t' = t
          · subst q; exact absurd h3 c
          · exact hD t' (by omega) h2 h3) (by omega) (by omega)
theorem xq_settle {n : Nat} (hn : 40000 ≤ n) {A : AA} (h : WF A) {x : SX} (hM : MX x A) (hW : WX x A) : ∃ x' : SX, f_X6_settle n x = some x' ∧ MX x' A ∧ WX x' A ∧ DX x' A ∧ ∀ r k, r < 18 ∨ 24 < r → x'.1 r k = x.1 r k := by
  have w6 := h.2.1
  exact settle_l hn h n 0 x hM hW (fun t' h1 => by omega) (by omega) (by omega)
/-! ===== the model's walks along a chain ===== -/
theorem i_qin {a : Int} {n : Nat} (h1 : 0 ≤ a) (h2 : a < n) (h3 : n < 2147483648) : qin (iI a) n = true := by
  rw [i_nat h1]
  exact qin_nI (by omega) (by omega)
/-- the mask of the chain that begins at v; none at -1 -/
def chV (A : AA) (v : Int) : Nat := if v = -1 then 0 else chM A v.toNat
theorem WF.cm_V {A : AA} (h : WF A) {t : Nat} (ht : (t : Int) < A 0 6) : chM A t = 2 ^ t ||| chV A (A 22 t) := h.cm_eq ht
theorem chV_t {A : AA} {t : Nat} : chV A (t : Int) = chM A t := if_neg (by omega)
theorem b01 (b : Bool) : qz (if b = true then (1 : Int32) else 0) = true := by cases b <;> rfl
theorem isC_l {n : Nat} {z : SX} {A : AA} (h : WF A) (hz : MZ z A) {s : Nat} (hs : s < 1000) : ∀ (f : Nat) (v : Int) (b : Bool), -1 ≤ v → v < A 0 6 → v + 1 < f → f_X7_isInChain_l5 (iI s) z f (if b = true then 1 else 0) (iI v) = some (if (b || (chV A v).testBit s) = true then 1 else 0) := by
  intro f
  have w6 := h.2.1
  induction f with
  | zero => intro v b a1 a2 a3; omega
  | succ f ih =>
    intro v b a1 a2 a3
    rw [f_X7_isInChain_l5, show (-1 : Int32) = iI (-1) from rfl, it_eq (by omega) (by omega) (by omega) (by omega)]
    by_cases c : v = -1
    · rw [if_pos c, b01]
      unfold chV
      rw [if_pos c, Nat.zero_testBit, Bool.or_false]
      rfl
    · obtain ⟨t, rfl⟩ := Int.eq_ofNat_of_zero_le (show 0 ≤ v by omega)
      have wt := (h.2.2.2.2.2.1 t (by omega)).2.2.2.2.2.1
      rw [if_neg c, it_eq (by omega) (by omega) (by omega) (by omega), i_qin (by omega) (by omega) (by decide), i_clN (by omega), hz 22 t rfl]
      simp only [q_gdt]
      have e : qbd (if (if b = true then (1 : Int32) else 0) = 0 then (if (t : Int) = (s : Int) then some (1 : Int32) else some 0) else some 1) (fun v6 => qnm (iI (A 22 t)) fun v9 => f_X7_isInChain_l5 (iI s) z f v6 v9) = f_X7_isInChain_l5 (iI s) z f (if (b || decide (t = s)) = true then 1 else 0) (iI (A 22 t)) := by
        cases b
        · rw [if_pos (by decide), Bool.false_or]
          by_cases q : t = s
          · rw [if_pos (by omega), decide_eq_true q]; rfl
          · rw [if_neg (by omega), decide_eq_false q]; rfl
        · rw [if_neg (by decide), Bool.true_or]
          rfl
      refine e.trans ?_
      rw [ih (A 22 t) _ (by omega) (by omega) (by omega), Bool.or_assoc, chV_t, h.cm_V (by omega), Nat.testBit_or, Nat.testBit_two_pow]
theorem isC {n : Nat} (hn : 40000 ≤ n) {z : SX} {A : AA} (h : WF A) (hz : MZ z A) {s t : Nat} (hs : s < 1000) (ht : (t : Int) < A 0 6) : f_X7_isInChain n z (iI s) (iI t) = some (if (chM A t).testBit s = true then 1 else 0) := by
  have w6 := h.2.1
  have e := isC_l (n := n) h hz hs n t false (by omega) ht (by omega)
  rw [Bool.false_or, chV_t] at e
  exact e
theorem csz_l {z : SX} {A : AA} (h : WF A) (hz : MZ z A) : ∀ (f : Nat) (v : Int) (a : Nat), -1 ≤ v → v < A 0 6 → v + 1 < f → f_X7_chainSize_l4 z f (iI a) (iI v) = some (iI ((a + (if v = -1 then 0 else csZ A v.toNat) : Nat) : Int)) := by
  intro f
  have w6 := h.2.1
  induction f with
  | zero => intro v b a1 a2 a3; omega
  | succ f ih =>
    intro v a a1 a2 a3
    rw [f_X7_chainSize_l4, show (-1 : Int32) = iI (-1) from rfl, it_eq (by omega) (by omega) (by omega) (by omega)]
    by_cases c : v = -1
    · rw [if_pos c, if_pos c]
      rfl
    · obtain ⟨t, rfl⟩ := Int.eq_ofNat_of_zero_le (show 0 ≤ v by omega)
      have wt := (h.2.2.2.2.2.1 t (by omega)).2.2.2.2.2.1
      have i := ih (A 22 t) (a + 1) (by omega) (by omega) (by omega)
      have ec := h.cs_eq (t := t) (by omega)
      rw [if_neg c, if_neg c, i_1, q_nm, i_gd (by omega) (by omega) (by decide), i_clN (by omega), hz 22 t rfl, q_nm]
      refine i.trans ?_
      show some (iI _) = some (iI ((a + csZ A t : Nat) : Int))
      rw [ec, show a + 1 + (if A 22 t = -1 then 0 else csZ A (A 22 t).toNat) = a + ((if A 22 t = -1 then 0 else csZ A (A 22 t).toNat) + 1) by omega]
theorem csz {n : Nat} (hn : 40000 ≤ n) {z : SX} {A : AA} (h : WF A) (hz : MZ z A) {t : Nat} (ht : (t : Int) < A 0 6) : f_X7_chainSize n z (iI t) = some (iI (csZ A t : Nat)) := by
  have w6 := h.2.1
  have e := csz_l h hz n t 0 (by omega) ht (by omega)
  rw [if_neg (by omega), Nat.zero_add] at e
  exact e
theorem it_shr {α : Type} {u v : α} {m p : Nat} (hm : m < 1024) (hp : p < 31) : (if (nI m >>> (nI p &&& 31)) &&& (1 : Int32) = 1 then u else v) = if m.testBit p = true then u else v := by
  have hd : m / 2 ^ p ≤ m := Nat.div_le_self _ _
  rw [pk_shrN (by omega) _ p (s_l p (by omega)), pk_andN (k := 1) (by omega) (by decide), show (1 : Int32) = nI 1 from rfl]
  have e := nI_eq (a := m / 2 ^ p % 2 ^ 1) (b := 1) (by omega) (by decide)
  have e2 : m.testBit p = decide (m / 2 ^ p % 2 = 1) := Nat.testBit_eq_decide_div_mod_eq
  rw [e2]
  by_cases c : m / 2 ^ p % 2 = 1
  · rw [if_pos (e.mpr c), decide_eq_true c, if_pos rfl]
  · rw [if_neg (fun q => c (e.mp q)), decide_eq_false c, if_neg (by decide)]
