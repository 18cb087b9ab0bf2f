/-! ===== the class's second way to the credit: sorting and merging ===== -/
theorem MX_s {x x' : SX} {A : AA} (e : ∀ r, r ≠ 33 → r ≠ 34 → x'.1 r = x.1 r) (h : MX x A) : MX x' A := by
  unfold MX at h ⊢
  rw [e 0 (by decide) (by decide), e 1 (by decide) (by decide), e 2 (by decide) (by decide), e 3 (by decide) (by decide), e 4 (by decide) (by decide), e 10 (by decide) (by decide), e 11 (by decide) (by decide), e 12 (by decide) (by decide), e 13 (by decide) (by decide), e 14 (by decide) (by decide), e 15 (by decide) (by decide), e 16 (by decide) (by decide), e 30 (by decide) (by decide), e 31 (by decide) (by decide), e 32 (by decide) (by decide), e 35 (by decide) (by decide), e 36 (by decide) (by decide), e 37 (by decide) (by decide)]
  exact h
theorem DX_s {x x' : SX} {A : AA} (e : ∀ r, r ≠ 33 → r ≠ 34 → x'.1 r = x.1 r) (h : DX x A) : DX x' A := by
  unfold DX at h ⊢
  rw [e 18 (by decide) (by decide), e 19 (by decide) (by decide), e 20 (by decide) (by decide), e 21 (by decide) (by decide), e 22 (by decide) (by decide), e 23 (by decide) (by decide), e 24 (by decide) (by decide)]
  exact h
/-- rows 33, 34 hold F, L but for a hole at p, behind which all is moved by one -/
def Hol (x : SX) (F L : Nat → Int) (c p : Nat) : Prop := (∀ i, i < p → x.1 33 i = iI (F i) ∧ x.1 34 i = iI (L i)) ∧ (∀ i, p < i → i ≤ c → x.1 33 i = iI (F (i - 1)) ∧ x.1 34 i = iI (L (i - 1)))
theorem ins_l {a b : Int} {F L : Nat → Int} {c : Nat} (hc : c ≤ 7) (ha : 0 ≤ a ∧ a < 20000) (hF : ∀ i, i < c → 0 ≤ F i ∧ F i < 20000) : ∀ (f p : Nat) (x : SX), p ≤ c → p < f → Hol x F L c p → (∀ i, p ≤ i → i < c → a < F i) → ∃ (x' : SX) (q : Nat), f_X4_insert_l3 (iI a) (iI b) f (iI p) x = some x' ∧ q ≤ p ∧ (0 < q → F (q - 1) ≤ a) ∧ (∀ i, q ≤ i → i < c → a < F i) ∧ Hol x' F L c q ∧ x'.1 33 q = iI a ∧ x'.1 34 q = iI b ∧ (∀ r, r ≠ 33 → r ≠ 34 → x'.1 r = x.1 r) ∧ x'.2 = x.2 := by
  intro f
  induction f with
  | zero => intro p x a1 a2; omega
  | succ f ih =>
    intro p x a1 a2 hH hgt
    have fin : ∃ x' : SX, x' = si (si x 33 p (iI a)) 34 p (iI b) ∧ Hol x' F L c p ∧ x'.1 33 p = iI a ∧ x'.1 34 p = iI b ∧ (∀ r, r ≠ 33 → r ≠ 34 → x'.1 r = x.1 r) ∧ x'.2 = x.2 := by
      refine ⟨_, rfl, ⟨fun i hi => ?_, fun i hi hi2 => ?_⟩, ?_, ?_, fun r h1 h2 => ?_, rfl⟩
      · rw [sg_r (by decide), sg_k (by omega), sg_k (by omega), sg_r (by decide)]
        exact hH.1 i hi
      · rw [sg_r (by decide), sg_k (by omega), sg_k (by omega), sg_r (by decide)]
        exact hH.2 i hi hi2
      · rw [sg_r (by decide), sg_s]
      · rw [sg_s]
      · rw [sg_r h2, sg_r h1]
    obtain ⟨xf, ef, f1, f2, f3, f4, f5⟩ := fin
    rw [f_X4_insert_l3, show (-1 : Int32) = iI (-1) from rfl, show (1 : Int32) = iI 1 from rfl, i_0, it_le (by omega) (by omega) (by omega) (by omega), i_sub, i_add]
    by_cases e : (p : Int) ≤ 0
    · rw [if_pos e, i_gd (by omega) (by omega) (by decide), i_clN (by omega), q_nm, q_nm, ← ef]
      exact ⟨xf, p, rfl, Nat.le_refl _, fun q => by omega, hgt, f1, f2, f3, f4, f5⟩
    · have hp := hH.1 (p - 1) (by omega)
      have hFp := hF (p - 1) (by omega)
      rw [if_neg e, i_gd (a := (p : Int) - 1) (by omega) (by omega) (by decide), i_cl (a := (p : Int) - 1) (by omega) (by omega), show ((p : Int) - 1).toNat = p - 1 by omega, hp.1, it_le (by omega) (by omega) (by omega) (by omega), i_gd (by omega) (by omega) (by decide), i_clN (by omega)]
      by_cases e2 : F (p - 1) ≤ a
      · rw [if_pos e2, q_nm, q_nm, ← ef]
        exact ⟨xf, p, rfl, Nat.le_refl _, fun _ => e2, hgt, f1, f2, f3, f4, f5⟩
      · rw [if_neg e2, i_gd (by omega) (by omega) (by decide), q_nm, sg_r (by decide), hp.2, q_nm, q_nm]
        have hH' : Hol (si (si x 33 p (iI (F (p - 1)))) 34 p (iI (L (p - 1)))) F L c (p - 1) := by
          refine ⟨fun i hi => ?_, fun i hi hi2 => ?_⟩
          · rw [sg_r (by decide), sg_k (by omega), sg_k (by omega), sg_r (by decide)]
            exact hH.1 i (by omega)
          · by_cases q : i = p
            · subst q
              rw [sg_r (by decide), sg_s, sg_s]
              exact ⟨rfl, rfl⟩
            · rw [sg_r (by decide), sg_k q, sg_k q, sg_r (by decide)]
              exact hH.2 i (by omega) hi2
        obtain ⟨x', q, k1, k2, k3, k4, k5, k6, k7, k8, k9⟩ := ih (p - 1) _ (by omega) (by omega) hH' (fun i hi hi2 => by
          by_cases q : i = p - 1
          · rw [q]; omega
          · exact hgt i (by omega) hi2)
        refine ⟨x', q, ?_, by omega, k3, k4, k5, k6, k7, fun r h1 h2 => ?_, k9⟩
        · rw [show (p : Int) + -1 = ((p - 1 : Nat) : Int) by omega]
          exact k1
        · rw [k8 r h1 h2, sg_r h2, sg_r h1]
/-- the sorted periods of a chain among the first k -/
def Srt (A : AA) (m : Nat) (x : SX) (k c : Nat) (F L : Nat → Int) : Prop := c ≤ k ∧ (∀ i, i < c → x.1 33 i = iI (F i) ∧ x.1 34 i = iI (L i)) ∧ (∀ i, i < c → 0 ≤ F i ∧ F i ≤ L i ∧ L i < A 0 1) ∧ (∀ i, i + 1 < c → F i ≤ F (i + 1)) ∧ (∀ d : Nat, (∃ i, i < c ∧ F i ≤ d ∧ (d : Int) ≤ L i) ↔ covF A m k d = true)
theorem sort_l {n : Nat} (hn : 40000 ≤ n) {A : AA} (h : WF A) {m : Nat} : ∀ (f k c : Nat) (F L : Nat → Int) (x : SX), MX x A → Srt A m x k c F L → (k : Int) ≤ A 0 14 → A 0 14 < k + f → ∃ (x' : SX) (c' : Nat) (F' L' : Nat → Int), f_X4_sort_l4 n (nI m) f (iI c) (iI k) x = some (iI (c' : Nat), x') ∧ Srt A m x' (A 0 14).toNat c' F' L' ∧ (∀ r, r ≠ 33 → r ≠ 34 → x'.1 r = x.1 r) ∧ x'.2 = x.2 := by
  intro f
  have w14 := h.2.2.1
  have w1 := h.1
  induction f with
  | zero => intro k c F L x _ _ a1 a2; omega
  | succ f ih =>
    intro k c F L x hM hS a1 a2
    have m25 := hM.2.2.2.2.1
    have r31 := hM.2.2.2.2.2.2.2.2.2.2.2.2.2.2.2.2.2.1
    have r32 := hM.2.2.2.2.2.2.2.2.2.2.2.2.2.2.2.2.2.2.1
    rw [f_X4_sort_l4, m25, it_le (by omega) (by omega) (by omega) (by omega)]
    by_cases e : A 0 14 ≤ k
    · rw [if_pos e]
      refine ⟨x, c, F, L, rfl, ?_, fun _ _ _ => rfl, rfl⟩
      rw [show (A 0 14).toNat = k by omega]
      exact hS
    · have wk := h.pe k (by omega)
      obtain ⟨s1, s2, s3, s4, s5⟩ := hS
      rw [if_neg e, xq_belongs h hM (by omega), q_some]
      by_cases c2 : m.testBit (A 25 k).toNat = true
      · rw [if_pos c2, if_neg (by decide), i_gd (by omega) (by omega) (by decide), i_clN (by omega), r31, r32]
        obtain ⟨x1, q, k1, k2, k3, k4, k5, k6, k7, k8, k9⟩ := ins_l (a := A 26 k) (b := A 27 k) (F := F) (L := L) (c := c) (by omega) (by omega) (fun i hi => by have := s3 i hi; omega) n c x (Nat.le_refl _) (by omega) ⟨s2, fun i hi hi2 => by omega⟩ (fun i hi hi2 => by omega)
        have k1' : f_X4_insert n x (iI c) (iI (A 26 k)) (iI (A 27 k)) = some x1 := k1
        rw [k1', q_some, i_1, q_nm, q_some2, i_1, q_nm]
        obtain ⟨F', eF⟩ : ∃ F' : Nat → Int, F' = fun i => if i < q then F i else if i = q then A 26 k else F (i - 1) := ⟨_, rfl⟩
        obtain ⟨L', eL⟩ : ∃ L' : Nat → Int, L' = fun i => if i < q then L i else if i = q then A 27 k else L (i - 1) := ⟨_, rfl⟩
        have F1 : ∀ i, i < q → F' i = F i ∧ L' i = L i := fun i hi => by rw [eF, eL]; exact ⟨if_pos hi, if_pos hi⟩
        have F2 : F' q = A 26 k ∧ L' q = A 27 k := by
          rw [eF, eL]
          exact ⟨(if_neg (Nat.lt_irrefl q)).trans (if_pos rfl), (if_neg (Nat.lt_irrefl q)).trans (if_pos rfl)⟩
        have F3 : ∀ i, q < i → F' i = F (i - 1) ∧ L' i = L (i - 1) := fun i hi => by
          rw [eF, eL]
          exact ⟨(if_neg (by omega)).trans (if_neg (by omega)), (if_neg (by omega)).trans (if_neg (by omega))⟩
        obtain ⟨x', c', F'', L'', g1, g2, g3, g4⟩ := ih (k + 1) (c + 1) F' L' x1 (MX_s k8 hM) (by
          refine ⟨by omega, fun i hi => ?_, fun i hi => ?_, fun i hi => ?_, fun d => ?_⟩
          · rcases Nat.lt_trichotomy i q with o | o | o
            · rw [(F1 i o).1, (F1 i o).2]; exact k5.1 i o
            · rw [o, F2.1, F2.2]; exact ⟨k6, k7⟩
            · rw [(F3 i o).1, (F3 i o).2]; exact k5.2 i o (by omega)
          · rcases Nat.lt_trichotomy i q with o | o | o
            · rw [(F1 i o).1, (F1 i o).2]; exact s3 i (by omega)
            · rw [o, F2.1, F2.2]; exact ⟨wk.2.1, wk.2.2.1, wk.2.2.2⟩
            · rw [(F3 i o).1, (F3 i o).2]; exact s3 (i - 1) (by omega)
          · rcases Nat.lt_trichotomy i q with o | o | o
            · rw [(F1 i o).1]
              by_cases o2 : i + 1 < q
              · rw [(F1 _ o2).1]; exact s4 i (by omega)
              · have o3 : i + 1 = q := by omega
                rw [o3, F2.1]
                have := k3 (by omega)
                rw [show q - 1 = i by omega] at this
                exact this
            · rw [o, F2.1, (F3 _ (Nat.lt_succ_self q)).1]
              have := k4 q (Nat.le_refl _) (by omega)
              rw [show q + 1 - 1 = q by omega]
              omega
            · rw [(F3 i o).1, (F3 (i + 1) (by omega)).1, show i + 1 - 1 = i - 1 + 1 by omega]
              exact s4 (i - 1) (by omega)
          · rw [covF, Bool.or_eq_true, ← s5 d, c2, Bool.true_and, Bool.and_eq_true, decide_eq_true_eq, decide_eq_true_eq]
            constructor
            · rintro ⟨i, i1, i2, i3⟩
              rcases Nat.lt_trichotomy i q with o | o | o
              · rw [(F1 i o).1] at i2
                rw [(F1 i o).2] at i3
                exact Or.inl ⟨i, by omega, i2, i3⟩
              · rw [o, F2.1] at i2
                rw [o, F2.2] at i3
                exact Or.inr ⟨i2, i3⟩
              · rw [(F3 i o).1] at i2
                rw [(F3 i o).2] at i3
                exact Or.inl ⟨i - 1, by omega, i2, i3⟩
            · rintro (⟨i, i1, i2, i3⟩ | ⟨i2, i3⟩)
              · by_cases o : i < q
                · exact ⟨i, by omega, by rw [(F1 i o).1]; exact i2, by rw [(F1 i o).2]; exact i3⟩
                · refine ⟨i + 1, by omega, ?_, ?_⟩
                  · rw [(F3 (i + 1) (by omega)).1]; exact i2
                  · rw [(F3 (i + 1) (by omega)).2]; exact i3
              · exact ⟨q, by omega, by rw [F2.1]; exact i2, by rw [F2.2]; exact i3⟩) (by omega) (by omega)
        refine ⟨x', c', F'', L'', g1, g2, fun r h1 h2 => ?_, g4.trans k9⟩
        rw [g3 r h1 h2, k8 r h1 h2]
      · rw [if_neg c2, if_pos rfl, q_some2, i_1, q_nm]
        refine ih (k + 1) c F L x hM ⟨by omega, s2, s3, s4, fun d => ?_⟩ (by omega) (by omega)
        rw [s5 d, covF, bool_f c2, Bool.false_and, Bool.false_and, Bool.or_false]
theorem c_sort {n : Nat} (hn : 40000 ≤ n) {A : AA} (h : WF A) {m : Nat} {x : SX} (hM : MX x A) : ∃ (x' : SX) (c' : Nat) (F' L' : Nat → Int), f_X4_sort n x (nI m) = some (iI (c' : Nat), x') ∧ Srt A m x' (A 0 14).toNat c' F' L' ∧ (∀ r, r ≠ 33 → r ≠ 34 → x'.1 r = x.1 r) ∧ x'.2 = x.2 := by
  have w14 := h.2.2.1
  refine sort_l hn h (m := m) n 0 0 (fun _ => 0) (fun _ => 0) x hM ⟨Nat.le_refl _, fun i hi => by omega, fun i hi => by omega, fun i hi => by omega, fun d => ?_⟩ (by omega) (by omega)
  constructor
  · rintro ⟨i, hi, -⟩; omega
  · intro q; cases q
theorem ct_all : ∀ n, fb_ct (fun _ => true) n = n := by
  intro n
  induction n with
  | zero => rfl
  | succ n ih => rw [fb_ct_succ, ih, if_pos rfl]
/-- days from a to b that were not served -/
def unsR (A : AA) (a b : Int) : Nat := fb_ct (fun d => decide (a ≤ (d : Int) ∧ (d : Int) ≤ b) && uns A d) 14656
theorem c_unserved {n : Nat} (hn : 40000 ≤ n) {x : SX} {A : AA} (hW : WX x A) {a b : Int} (h1 : 0 ≤ a) (h2 : a < 14656) (h3 : a ≤ b + 1) (h4 : b < 14656) : f_X6_unservedDays n x (iI a) (iI b) = some (iI (unsR A a b : Nat)) := by
  have e := sw5 hn (x := x) (a := a) (b := b) h1 h2 (by omega) h4 (P := fun d => decide (A 12 d = 2) && decide (a ≤ (d : Int) ∧ (d : Int) ≤ b)) (fun d hd => by
    show (decide (A 12 d = 2) && _) = _
    rw [(hW d hd).1])
  unfold f_X6_unservedDays
  rw [e, q_some, i_sub, i_1, i_sub]
  congr 2
  have e1 := ct_rng (fun _ => true) (a := a.toNat) (b := (b + 1).toNat) (by omega) 14656
  rw [Nat.min_eq_left (by omega), Nat.min_eq_left (by omega), ct_all, ct_all] at e1
  have e2 : fb_ct (fun d => decide (a.toNat ≤ d ∧ d < (b + 1).toNat) && true) 14656 = fb_ct (fun d => decide (A 12 d = 2) && decide (a ≤ (d : Int) ∧ (d : Int) ≤ b)) 14656 + unsR A a b := by
    unfold unsR
    rw [← fb_ct_or]
    · refine fb_ct_cong fun d hd => ?_
      show (decide (a.toNat ≤ d ∧ d < (b + 1).toNat) && true) = ((decide (A 12 d = 2) && decide (a ≤ (d : Int) ∧ (d : Int) ≤ b)) || (decide (a ≤ (d : Int) ∧ (d : Int) ≤ b) && uns A d))
      unfold uns
      rw [Bool.eq_iff_iff]
      simp only [Bool.or_eq_true, Bool.and_eq_true, decide_eq_true_eq, and_true]
      omega
    · rintro d hd ⟨q1, q2⟩
      unfold uns at q2
      simp only [Bool.and_eq_true, decide_eq_true_eq] at q1 q2
      omega
  omega
/-- covered by one of the first i sorted periods -/
noncomputable def cvS (F L : Nat → Int) (i d : Nat) : Bool := @decide (∃ j, j < i ∧ F j ≤ (d : Int) ∧ (d : Int) ≤ L j) (Classical.propDecidable _)
theorem cvS_i {F L : Nat → Int} {i d : Nat} : cvS F L i d = true ↔ ∃ j, j < i ∧ F j ≤ (d : Int) ∧ (d : Int) ≤ L j := by
  unfold cvS
  exact @decide_eq_true_iff _ (Classical.propDecidable _)
theorem cvS_s {F L : Nat → Int} {i d : Nat} : cvS F L (i + 1) d = true ↔ cvS F L i d = true ∨ (F i ≤ (d : Int) ∧ (d : Int) ≤ L i) := by
  rw [cvS_i, cvS_i]
  constructor
  · rintro ⟨j, j1, j2⟩
    by_cases c : j = i
    · rw [c] at j2; exact Or.inr j2
    · exact Or.inl ⟨j, by omega, j2⟩
  · rintro (⟨j, j1, j2⟩ | q)
    · exact ⟨j, by omega, j2⟩
    · exact ⟨i, by omega, q⟩
theorem merge_l {n : Nat} (hn : 40000 ≤ n) {A : AA} (h : WF A) {m : Nat} {x : SX} (hW : WX x A) {c : Nat} {F L : Nat → Int} (hS : Srt A m x (A 0 14).toNat c F L) {t : Nat} (ht : t < 10) {al : Int} (h22 : x.1 22 t = iI al) (hal : 0 ≤ al ∧ al < 1000000) : ∀ (f i : Nat) (a b : Int), i ≤ c → c < i + f → 0 ≤ a → a ≤ b + 1 → b < A 0 1 → a ≤ A 0 1 → (∀ j, i ≤ j → j < c → a ≤ F j) → (∀ d : Nat, a ≤ d → (cvS F L i d = true ↔ (d : Int) ≤ b)) → f_X6_mergedCredit_l28 (iI (c : Nat)) n x (iI t) f (iI (fb_ct (fun d => (cvS F L i d && decide ((d : Int) < a)) && uns A d) 14656 : Nat)) (iI a) (iI b) (iI i) = some (iI (if al < (crM A m : Nat) then al else (crM A m : Nat)), x) := by
  intro f
  have w14 := h.2.2.1
  have w1 := h.1
  obtain ⟨s1, s2, s3, s4, s5⟩ := hS
  induction f with
  | zero => intro i a b a1 a2; omega
  | succ f ih =>
    intro i a b a1 a2 a3 a4 a5 a6 a7 a8
    have eu := c_unserved hn hW (a := a) (b := b) a3 (by omega) a4 (by omega)
    -- all that is covered so far: what is counted, and the open stretch
    have hall : fb_ct (fun d => (cvS F L i d && decide ((d : Int) < a)) && uns A d) 14656 + unsR A a b = fb_ct (fun d => cvS F L i d && uns A d) 14656 := by
      unfold unsR
      rw [← fb_ct_or]
      · refine fb_ct_cong fun d hd => ?_
        show (((cvS F L i d && decide ((d : Int) < a)) && uns A d) || (decide (a ≤ (d : Int) ∧ (d : Int) ≤ b) && uns A d)) = (cvS F L i d && uns A d)
        rw [← Bool.and_or_distrib_right]
        congr 1
        rw [Bool.eq_iff_iff]
        simp only [Bool.or_eq_true, Bool.and_eq_true, decide_eq_true_eq]
        by_cases q : a ≤ (d : Int)
        · rw [a8 d q]; omega
        · constructor
          · rintro (⟨q1, -⟩ | q1)
            · exact q1
            · omega
          · intro q1; exact Or.inl ⟨q1, by omega⟩
      · rintro d hd ⟨q1, q2⟩
        simp only [Bool.and_eq_true, decide_eq_true_eq] at q1 q2
        omega
    have hcr : crM A m ≤ 14656 := fb_ct_le _ _
    have hc0 : fb_ct (fun d => cvS F L i d && uns A d) 14656 ≤ 14656 := fb_ct_le _ _
    rw [f_X6_mergedCredit_l28, it_le (by omega) (by omega) (by omega) (by omega)]
    by_cases e : (c : Int) ≤ i
    · have ei : i = c := by omega
      have ec : fb_ct (fun d => cvS F L i d && uns A d) 14656 = crM A m := fb_ct_cong fun d hd => by
        show (cvS F L i d && uns A d) = (cov A m d && uns A d)
        congr 1
        rw [Bool.eq_iff_iff, cvS_i, ei]
        exact s5 d
      rw [if_pos e, f_X6_mergedCredit_e110, eu, q_some, i_add, q_nm, i_gd (by omega) (by omega) (by decide), i_clN (by omega), h22]
      rw [show ((fb_ct (fun d => (cvS F L i d && decide ((d : Int) < a)) && uns A d) 14656 : Nat) : Int) + (unsR A a b : Nat) = (crM A m : Nat) by omega]
      rw [it_lt (by omega) (by omega) (by omega) (by omega), i_ite]
    · have si := s2 i (by omega)
      have sb := s3 i (by omega)
      rw [if_neg e, i_gd (by omega) (by omega) (by decide), i_clN (by omega), si.1, si.2, it_le (by omega) (by omega) (by omega) (by omega)]
      have smono : ∀ j, i ≤ j → j < c → F i ≤ F j := by
        intro j
        induction j with
        | zero => intro q1 q2; rw [show i = 0 by omega]; exact Int.le_refl _
        | succ j jh =>
          intro q1 q2
          by_cases q3 : i = j + 1
          · rw [q3]; exact Int.le_refl _
          · have := jh (by omega) (by omega)
            have := s4 j q2
            omega
      by_cases e2 : F i ≤ b
      · rw [if_pos e2, it_lt (by omega) (by omega) (by omega) (by omega), i_ite, q_nm]
        show qnm (iI (i : Int) + 1) _ = _
        rw [i_1, q_nm]
        have hf : fb_ct (fun d => (cvS F L i d && decide ((d : Int) < a)) && uns A d) 14656 = fb_ct (fun d => (cvS F L (i + 1) d && decide ((d : Int) < a)) && uns A d) 14656 := fb_ct_cong fun d hd => by
          show ((cvS F L i d && decide ((d : Int) < a)) && uns A d) = ((cvS F L (i + 1) d && decide ((d : Int) < a)) && uns A d)
          congr 1
          rw [Bool.eq_iff_iff, Bool.and_eq_true, Bool.and_eq_true, decide_eq_true_eq, cvS_s]
          have := a7 i (Nat.le_refl _) (by omega)
          constructor
          · rintro ⟨q1, q2⟩; exact ⟨Or.inl q1, q2⟩
          · rintro ⟨q1 | q1, q2⟩
            · exact ⟨q1, q2⟩
            · omega
        rw [hf]
        refine ih (i + 1) a (if b < L i then L i else b) (by omega) (by omega) a3 (by split <;> omega) (by split <;> omega) a6 (fun j j1 j2 => a7 j (by omega) j2) fun d hd => ?_
        rw [cvS_s, a8 d hd]
        have := a7 i (Nat.le_refl _) (by omega)
        split <;> omega
      · rw [if_neg e2, eu, q_some, i_add, q_nm, q_nm, q_nm]
        show qnm (iI (i : Int) + 1) _ = _
        rw [i_1, q_nm]
        have hf : ((fb_ct (fun d => (cvS F L i d && decide ((d : Int) < a)) && uns A d) 14656 : Nat) : Int) + (unsR A a b : Nat) = (fb_ct (fun d => (cvS F L (i + 1) d && decide ((d : Int) < F i)) && uns A d) 14656 : Nat) := by
          have : fb_ct (fun d => cvS F L i d && uns A d) 14656 = fb_ct (fun d => (cvS F L (i + 1) d && decide ((d : Int) < F i)) && uns A d) 14656 := fb_ct_cong fun d hd => by
            show (cvS F L i d && uns A d) = ((cvS F L (i + 1) d && decide ((d : Int) < F i)) && uns A d)
            congr 1
            rw [Bool.eq_iff_iff, Bool.and_eq_true, decide_eq_true_eq, cvS_s]
            constructor
            · intro q1
              refine ⟨Or.inl q1, ?_⟩
              refine Classical.byContradiction fun q2 => ?_
              have := (a8 d (by omega)).mp q1
              omega
            · rintro ⟨q1 | q1, q2⟩
              · exact q1
              · omega
          omega
        rw [hf]
        refine ih (i + 1) (F i) (L i) (by omega) (by omega) sb.1 (by omega) sb.2.2 (by omega) (fun j j1 j2 => smono j (by omega) j2) fun d hd => ?_
        rw [cvS_s]
        constructor
        · rintro (q1 | q1)
          · have := (a8 d (by omega)).mp q1
            omega
          · exact q1.2
        · intro q1; exact Or.inr ⟨hd, q1⟩
theorem c_merged {n : Nat} (hn : 40000 ≤ n) {A : AA} (h : WF A) {x : SX} (hM : MX x A) (hD : DX x A) (hW : WX x A) {t : Nat} (ht : (t : Int) < A 0 6) (hq : A 23 t = 0) : ∃ x' : SX, f_X6_mergedCredit n x (iI t) = some (iI (cdZ A t), x') ∧ (∀ r, r ≠ 33 → r ≠ 34 → x'.1 r = x.1 r) ∧ x'.2 = x.2 := by
  have w6 := h.2.1
  have ha := h.al t ht
  obtain ⟨x', c, F, L, g1, g2, g3, g4⟩ := c_sort hn h (m := chM A t) hM
  refine ⟨x', ?_, g3, g4⟩
  have hW' : WX x' A := WX_1 hW (by rw [g4]) (by rw [g4])
  have h22 : x'.1 22 t = iI (alZ A t) := by rw [g3 22 (by decide) (by decide)]; exact (hD t ht hq).2.2.2.2.1
  have e0 : fb_ct (fun d => (cvS F L 0 d && decide ((d : Int) < 0)) && uns A d) 14656 = 0 := fb_ct_zero.mpr fun d hd => by
    show ((cvS F L 0 d && decide ((d : Int) < 0)) && uns A d) = false
    rw [decide_eq_false (by omega), Bool.and_false, Bool.false_and]
  have w14 := h.2.2.1
  have w1 := h.1
  have hc := g2.1
  have e := merge_l hn h hW' g2 (t := t) (by omega) h22 (by omega) n 0 0 (-1) (by omega) (by omega) (by omega) (by omega) (by omega) (by omega) (fun j _ j2 => (g2.2.2.1 j j2).1) (fun d _ => by
    rw [cvS_i]
    constructor
    · rintro ⟨j, j1, -⟩; omega
    · intro q; omega)
  rw [e0, cd_alt] at e
  unfold f_X6_mergedCredit
  rw [i_gd (by omega) (by omega) (by decide), i_clN (by omega), (hD t ht hq).1, g1, q_some2]
  exact e
theorem sp_creditByMerging : SP_creditByMerging Rel := by
  intro x t k z a hR
  have hR' := hR
  obtain ⟨A, h, hM, hD, hW, hz, hDz, hT⟩ := hR
  have w6 := h.2.1
  rcases st_cases h hM hz a with ⟨s, rfl, hs, hq, e1, e2⟩ | ⟨e1, e2⟩ | ⟨e1, e2⟩
  · obtain ⟨x', g1, g2, g3⟩ := c_merged (Nat.le_refl 40000) h hM hD hW hs hq
    refine ⟨40000, x', 0, iI (cdZ A s), 0, 40000, iI (cdZ A s), si z 0 0 0, ?_, Or.inl ⟨rfl, rfl⟩, ?_, sg_s, fun _ => rfl, ⟨A, h, MX_s g2 hM, DX_s g2 hD, WX_1 hW (by rw [g3]) (by rw [g3]), MZ_scr hz rfl, DZ_scr hDz (by omega), hT⟩⟩
    · unfold f_X6_creditByMerging
      rw [e1, q_x0, g1, q_some2]
    · unfold f_X7_creditByMerging f_X7_credit
      rw [e2, q_some2, if_pos rfl, i_gd (by omega) (by omega) (by decide), i_clN (by omega), sg_r (by decide), (hDz s hs hq).2.2.2.2.2.2.1, q_some, q_some2]
  · refine ⟨40000, x, 3, 0, 1, 40000, 0, si z 0 0 1, ?_, Or.inr (Or.inl ⟨rfl, rfl⟩), ?_, sg_s, fun q => absurd q (by decide), hR'.th 1⟩
    · unfold f_X6_creditByMerging
      rw [e1]
      rfl
    · unfold f_X7_creditByMerging f_X7_credit
      rw [e2]
      rfl
  · refine ⟨40000, x, 2, 0, 2, 40000, 0, si z 0 0 2, ?_, Or.inr (Or.inr ⟨rfl, rfl⟩), ?_, sg_s, fun q => absurd q (by decide), hR'.th 2⟩
    · unfold f_X6_creditByMerging
      rw [e1]
      rfl
    · unfold f_X7_creditByMerging f_X7_credit
      rw [e2]
      rfl
