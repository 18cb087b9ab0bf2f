/-! ===== the model's remand days, its added days ===== -/
theorem WF.pe {A : AA} (h : WF A) (k : Nat) (hk : (k : Int) < A 0 14) : (0 ≤ A 25 k ∧ A 25 k < A 0 6) ∧ 0 ≤ A 26 k ∧ A 26 k ≤ A 27 k ∧ A 27 k < A 0 1 := h.2.2.2.2.2.2.2.1 k hk
theorem WF.aw {A : AA} (h : WF A) (k : Nat) (hk : (k : Int) < A 0 18) : (0 ≤ A 29 k ∧ A 29 k ≤ 42) ∧ (0 ≤ A 30 k ∧ A 30 k < 1024) ∧ (-1 ≤ A 31 k ∧ A 31 k < A 0 22) := h.2.2.2.2.2.2.2.2.1 k hk
theorem WF.te {A : AA} (h : WF A) (t : Nat) (ht : (t : Int) < A 0 6) : (0 ≤ A 17 t ∧ A 17 t ≤ 3) ∧ (0 ≤ A 18 t ∧ A 18 t ≤ 60) ∧ (0 ≤ A 19 t ∧ A 19 t ≤ 99) ∧ (0 ≤ A 20 t ∧ A 20 t ≤ 14609) ∧ (0 ≤ A 21 t ∧ A 21 t ≤ 14609) ∧ (-1 ≤ A 22 t ∧ A 22 t < t) ∧ (A 23 t = 0 ∨ A 23 t = 1) ∧ (A 23 t = 0 → 0 ≤ A 22 t → A 23 (A 22 t).toNat = 0) := h.2.2.2.2.2.1 t ht
theorem WF.re {A : AA} (h : WF A) (h0 : 0 < A 0 22) : (0 ≤ A 0 23 ∧ A 0 23 ≤ 14609) ∧ (0 ≤ A 0 24 ∧ A 0 24 ≤ 28) ∧ (0 ≤ A 0 25 ∧ A 0 25 ≤ 1000000) := h.2.2.2.2.2.2.2.2.2.1 h0
theorem WF.pa {A : AA} (h : WF A) (d : Nat) : (A 12 d = 0 ∨ A 12 d = 1 ∨ A 12 d = 2) ∧ (A 0 1 ≤ d → A 12 d = 0) := h.2.2.2.2.2.2.2.2.2.2.1 d
theorem WF.u0 {A : AA} (h : WF A) : A 13 0 = 0 := h.2.2.2.2.2.2.2.2.2.2.2.1
theorem WF.us {A : AA} (h : WF A) (d : Nat) (hd : (d : Int) < A 0 1) : A 13 (d + 1) = A 13 d + (if A 12 d = 2 then 0 else 1) := h.2.2.2.2.2.2.2.2.2.2.2.2.1 d hd
theorem WF.sv {A : AA} (h : WF A) : A 0 4 = fb_ct (fun d => decide (A 12 d = 2)) (A 0 1).toNat := h.2.2.2.2.2.2.2.2.2.2.2.2.2.1
theorem WF.lc {A : AA} (h : WF A) : A 0 5 = fb_ct (fun d => decide (A 12 d = 1)) (A 0 1).toNat := h.2.2.2.2.2.2.2.2.2.2.2.2.2.2.1
theorem WF.td {A : AA} (h : WF A) : 0 ≤ A 0 26 ∧ A 0 26 ≤ A 0 1 := h.2.2.2.2.2.2.2.2.2.2.2.2.2.2.2
theorem it_shr0 {α : Type} {u v : α} {m p : Nat} (hm : m < 1024) (hp : p < 31) : (if (nI m >>> (iI (p : Int) &&& 31)) &&& (1 : Int32) = 0 then u else v) = if m.testBit p = true then v else u := by
  have hd : m / 2 ^ p ≤ m := Nat.div_le_self _ _
  rw [i_N, pk_shrN (by omega) _ p (s_l p (by omega)), pk_andN (k := 1) (by omega) (by decide), show (0 : Int32) = nI 0 from rfl]
  have e := nI_eq (a := m / 2 ^ p % 2 ^ 1) (b := 0) (by omega) (by decide)
  have e2 : m.testBit p = decide (m / 2 ^ p % 2 = 1) := Nat.testBit_eq_decide_div_mod_eq
  rw [e2]
  by_cases c : m / 2 ^ p % 2 = 1
  · rw [if_neg (fun q => by have := e.mp q; omega), decide_eq_true c, if_pos rfl]
  · rw [if_pos (e.mpr (by omega)), decide_eq_false c, if_neg (by decide)]
theorem it_shr1 {α : Type} {u v : α} {m p : Nat} (hm : m < 1024) (hp : p < 31) : (if (nI m >>> (iI (p : Int) &&& 31)) &&& (1 : Int32) = 1 then u else v) = if m.testBit p = true then u else v := by
  rw [i_N]
  exact it_shr hm hp
/-- period k belongs to the chain m and isn't taken yet -/
def fre (A : AA) (m tk k : Nat) : Prop := m.testBit (A 25 k).toNat = true ∧ tk.testBit k = false
def NP (A : AA) (m tk : Nat) (v : Int) (k : Nat) : Prop := (v = -1 ∧ ∀ j, j < k → ¬ fre A m tk j) ∨ (∃ f : Nat, v = f ∧ f < k ∧ fre A m tk f ∧ ∀ j, j < k → fre A m tk j → A 26 f ≤ A 26 j)
theorem np_skip {A : AA} {m tk k : Nat} {v : Int} (h : NP A m tk v k) (hk : ¬ fre A m tk k) : NP A m tk v (k + 1) := by
  rcases h with ⟨h1, h2⟩ | ⟨f, h1, h2, h3, h4⟩
  · refine Or.inl ⟨h1, fun j hj => ?_⟩
    by_cases c : j = k
    · rw [c]; exact hk
    · exact h2 j (by omega)
  · refine Or.inr ⟨f, h1, by omega, h3, fun j hj hf => ?_⟩
    by_cases c : j = k
    · rw [c] at hf; exact absurd hf hk
    · exact h4 j (by omega) hf
theorem np_l {n : Nat} (hn : 40000 ≤ n) {z : SX} {A : AA} (h : WF A) (hz : MZ z A) {t tk : Nat} (ht : (t : Int) < A 0 6) (htk : tk < 1024) : ∀ (f k : Nat) (v : Int), (k : Int) ≤ A 0 14 → A 0 14 < k + f → NP A (chM A t) tk v k → ∃ v' : Int, f_X7_nextPeriod_l5 z (nI tk) n (iI t) f (iI v) (iI k) = some (iI v') ∧ NP A (chM A t) tk v' (A 0 14).toNat := by
  intro f
  have w14 := h.2.2.1
  have w6 := h.2.1
  induction f with
  | zero => intro k v a b; omega
  | succ f ih =>
    intro k v a b hN
    rw [f_X7_nextPeriod_l5, hz 0 14 rfl, it_le (by omega) (by omega) (by omega) (by omega)]
    by_cases e : A 0 14 ≤ k
    · rw [if_pos e]
      refine ⟨v, rfl, ?_⟩
      rw [show (A 0 14).toNat = k by omega]
      exact hN
    · have w := h.pe k (by omega)
      have hv : -1 ≤ v ∧ v < 8 := by
        rcases hN with ⟨q, -⟩ | ⟨g, q, q2, -⟩ <;> omega
      rw [if_neg e, it_shr0 htk (by omega)]
      by_cases c1 : tk.testBit k = true
      · rw [if_pos c1, q_some, if_pos rfl, q_some, i_1, q_nm]
        refine ih (k + 1) v (by omega) (by omega) (np_skip hN fun q => ?_)
        have := q.2
        rw [c1] at this
        cases this
      · have c1' : tk.testBit k = false := by
          cases q : tk.testBit k
          · rfl
          · exact absurd q c1
        rw [if_neg c1, i_gd (by omega) (by omega) (by decide), i_clN (by omega), hz 25 k rfl, show iI (A 25 k) = iI (((A 25 k).toNat : Nat) : Int) by congr 1; omega, isC hn h hz (by omega) ht, q_some]
        by_cases c2 : (chM A t).testBit (A 25 k).toNat = true
        · rw [if_pos c2, if_neg (by decide), q_some, if_neg (by decide), show (-1 : Int32) = iI (-1) from rfl, it_eq (by omega) (by omega) (by omega) (by omega)]
          by_cases c3 : v = -1
          · rw [if_pos c3, q_some, i_1, q_nm]
            refine ih (k + 1) k (by omega) (by omega) (Or.inr ⟨k, rfl, by omega, ⟨c2, c1'⟩, fun j hj hf => ?_⟩)
            rcases hN with ⟨-, q2⟩ | ⟨g, q, -⟩
            · by_cases c4 : j = k
              · rw [c4]; exact Int.le_refl _
              · exact absurd hf (q2 j (by omega))
            · omega
          · obtain ⟨g, g1, g2, g3, g4⟩ : ∃ g : Nat, v = g ∧ g < k ∧ fre A (chM A t) tk g ∧ ∀ j, j < k → fre A (chM A t) tk j → A 26 g ≤ A 26 j := by
              rcases hN with ⟨q, -⟩ | q
              · exact absurd q c3
              · exact q
            subst g1
            have wg := h.pe g (by omega)
            have w1 := h.1
            rw [if_neg c3, i_gd (a := (k : Int)) (by omega) (by omega) (by decide), i_gd (a := (g : Int)) (by omega) (by omega) (by decide), i_clN (t := g) (by omega), hz 26 g rfl, hz 26 k rfl, it_le (by omega) (by omega) (by omega) (by omega)]
            by_cases c4 : A 26 g ≤ A 26 k
            · rw [if_pos c4, q_some, i_1, q_nm]
              refine ih (k + 1) g (by omega) (by omega) (Or.inr ⟨g, rfl, by omega, g3, fun j hj hf => ?_⟩)
              by_cases c5 : j = k
              · rw [c5]; exact c4
              · exact g4 j (by omega) hf
            · rw [if_neg c4, q_some, i_1, q_nm]
              refine ih (k + 1) k (by omega) (by omega) (Or.inr ⟨k, rfl, by omega, ⟨c2, c1'⟩, fun j hj hf => ?_⟩)
              by_cases c5 : j = k
              · rw [c5]; exact Int.le_refl _
              · have := g4 j (by omega) hf
                omega
        · rw [if_neg c2, if_pos rfl, q_some, if_pos rfl, q_some, i_1, q_nm]
          exact ih (k + 1) v (by omega) (by omega) (np_skip hN fun q => c2 q.1)
theorem np {n : Nat} (hn : 40000 ≤ n) {z : SX} {A : AA} (h : WF A) (hz : MZ z A) {t tk : Nat} (ht : (t : Int) < A 0 6) (htk : tk < 1024) : ∃ v' : Int, f_X7_nextPeriod n z (iI t) (nI tk) = some (iI v') ∧ NP A (chM A t) tk v' (A 0 14).toNat := by
  have w14 := h.2.2.1
  exact np_l hn h hz ht htk n 0 (-1) (by omega) (by omega) (Or.inl ⟨rfl, fun j hj => by omega⟩)
theorem WF.un {A : AA} (h : WF A) : ∀ d : Nat, (d : Int) ≤ A 0 1 → A 13 d = fb_ct (uns A) d := by
  intro d
  induction d with
  | zero => intro _; exact h.u0
  | succ d ih =>
    intro hd
    rw [h.us d (by omega), ih (by omega), fb_ct_succ]
    unfold uns
    by_cases c : A 12 d = 2
    · rw [if_pos c, decide_eq_false (fun q => q c), if_neg (by decide)]
      omega
    · rw [if_neg c, decide_eq_true c, if_pos rfl]
      omega
theorem ct_rng (u : Nat → Bool) {a b : Nat} (hab : a ≤ b) : ∀ N, fb_ct (fun d => decide (a ≤ d ∧ d < b) && u d) N + fb_ct u (min a N) = fb_ct u (min b N) := by
  intro N
  induction N with
  | zero => rw [Nat.min_zero, Nat.min_zero]; rfl
  | succ N ih =>
    rw [fb_ct_succ]
    by_cases c1 : N < a
    · rw [Nat.min_eq_right (by omega : N ≤ a), Nat.min_eq_right (by omega : N ≤ b)] at ih
      rw [Nat.min_eq_right (by omega : N + 1 ≤ a), Nat.min_eq_right (by omega : N + 1 ≤ b), decide_eq_false (by omega), Bool.false_and, if_neg (by decide), fb_ct_succ]
      omega
    · by_cases c2 : N < b
      · rw [Nat.min_eq_left (by omega : a ≤ N), Nat.min_eq_right (by omega : N ≤ b)] at ih
        rw [Nat.min_eq_left (by omega : a ≤ N + 1), Nat.min_eq_right (by omega : N + 1 ≤ b), decide_eq_true (by omega), Bool.true_and, fb_ct_succ]
        omega
      · rw [Nat.min_eq_left (by omega : a ≤ N), Nat.min_eq_left (by omega : b ≤ N)] at ih
        rw [Nat.min_eq_left (by omega : a ≤ N + 1), Nat.min_eq_left (by omega : b ≤ N + 1), decide_eq_false (by omega), Bool.false_and, if_neg (by decide)]
        omega
noncomputable def cvT (A : AA) (tk : Nat) (d : Nat) : Bool := @decide (∃ k : Nat, (k : Int) < A 0 14 ∧ tk.testBit k = true ∧ A 26 k ≤ d ∧ (d : Int) ≤ A 27 k) (Classical.propDecidable _)
theorem cvT_i {A : AA} {tk d : Nat} : cvT A tk d = true ↔ ∃ k : Nat, (k : Int) < A 0 14 ∧ tk.testBit k = true ∧ A 26 k ≤ d ∧ (d : Int) ≤ A 27 k := by
  unfold cvT
  exact @decide_eq_true_iff _ (Classical.propDecidable _)
theorem covF_i {A : AA} {m d : Nat} : ∀ {k : Nat}, covF A m k d = true ↔ ∃ j, j < k ∧ m.testBit (A 25 j).toNat = true ∧ A 26 j ≤ d ∧ (d : Int) ≤ A 27 j := by
  intro k
  induction k with
  | zero =>
    constructor
    · intro q; cases q
    · rintro ⟨j, hj, -⟩; omega
  | succ k ih =>
    rw [covF, Bool.or_eq_true, ih]
    simp only [Bool.and_eq_true, decide_eq_true_eq]
    constructor
    · rintro (⟨j, hj, q⟩ | ⟨⟨q1, q2⟩, q3⟩)
      · exact ⟨j, by omega, q⟩
      · exact ⟨k, by omega, q1, q2, q3⟩
    · rintro ⟨j, hj, q1, q2, q3⟩
      by_cases c : j = k
      · rw [c] at q1 q2 q3; exact Or.inr ⟨⟨q1, q2⟩, q3⟩
      · exact Or.inl ⟨j, by omega, q1, q2, q3⟩
theorem tb_or {tk f k : Nat} : (tk ||| 2 ^ f).testBit k = true ↔ tk.testBit k = true ∨ f = k := by
  rw [Nat.testBit_or, Nat.testBit_two_pow, Bool.or_eq_true, decide_eq_true_eq]
theorem cvT_or {A : AA} {tk f d : Nat} (hf : (f : Int) < A 0 14) : cvT A (tk ||| 2 ^ f) d = true ↔ cvT A tk d = true ∨ (A 26 f ≤ d ∧ (d : Int) ≤ A 27 f) := by
  rw [cvT_i, cvT_i]
  constructor
  · rintro ⟨k, k1, k2, k3⟩
    rcases tb_or.mp k2 with q | q
    · exact Or.inl ⟨k, k1, q, k3⟩
    · subst q; exact Or.inr k3
  · rintro (⟨k, k1, k2, k3⟩ | q)
    · exact ⟨k, k1, tb_or.mpr (Or.inl k2), k3⟩
    · exact ⟨f, hf, tb_or.mpr (Or.inr rfl), q⟩
theorem bool_f {b : Bool} (h : ¬ b = true) : b = false := by
  cases b
  · rfl
  · exact absurd rfl h
theorem rem_l {n : Nat} (hn : 40000 ≤ n) {z : SX} {A : AA} (h : WF A) (hz : MZ z A) {t : Nat} (ht : (t : Int) < A 0 6) : ∀ (f tk : Nat) (b v : Int), tk < 256 → (∀ j, tk.testBit j = true → (j : Int) < A 0 14 ∧ (chM A t).testBit (A 25 j).toNat = true) → 0 ≤ b → b ≤ A 0 1 → (∀ d : Nat, (∀ j, tk.testBit j = true → A 26 j ≤ d) → (cvT A tk d = true ↔ (d : Int) < b)) → (∀ i : Nat, (i : Int) < A 0 14 → fre A (chM A t) tk i → ∀ j, tk.testBit j = true → A 26 j ≤ A 26 i) → NP A (chM A t) tk v (A 0 14).toNat → 256 < tk + f → f_X7_remandOf_l15 z n (iI t) f (iI (fb_ct (fun d => cvT A tk d && uns A d) 14656 : Nat)) (nI tk) (iI b) (iI v) = some (iI (crM A (chM A t) : Nat)) := by
  intro f
  have w14 := h.2.2.1
  have w1 := h.1
  induction f with
  | zero => intro tk b v a1 a2 a3 a4 a5 a6 a7 a8; omega
  | succ f ih =>
    intro tk b v a1 a2 a3 a4 a5 a6 a7 a8
    rcases a7 with ⟨rfl, hN⟩ | ⟨g, rfl, hg, hfr, hmin⟩
    · rw [f_X7_remandOf_l15, if_pos (show iI (-1) = (-1 : Int32) from rfl)]
      have e : fb_ct (fun d => cvT A tk d && uns A d) 14656 = crM A (chM A t) := fb_ct_cong fun d hd => by
        have e2 : cvT A tk d = cov A (chM A t) d := by
          rw [Bool.eq_iff_iff, cvT_i]
          unfold cov
          rw [covF_i]
          constructor
          · rintro ⟨k, k1, k2, k3⟩
            exact ⟨k, by omega, (a2 k k2).2, k3⟩
          · rintro ⟨k, k1, k2, k3⟩
            refine ⟨k, by omega, ?_, k3⟩
            refine Classical.byContradiction fun q => hN k (by omega) ⟨k2, bool_f q⟩
        show (cvT A tk d && uns A d) = (cov A (chM A t) d && uns A d)
        rw [e2]
      rw [e]
    · have hg' : (g : Int) < A 0 14 := by omega
      have w := h.pe g hg'
      have hin : A 27 g + 1 ≤ A 0 1 := by omega
      obtain ⟨fr, efr⟩ : ∃ fr : Int, fr = if A 26 g ≤ b then b else A 26 g := ⟨_, rfl⟩
      have f1 : 0 ≤ fr ∧ fr ≤ A 0 1 ∧ A 26 g ≤ fr ∧ b ≤ fr ∧ (fr = b ∨ fr = A 26 g) := by rw [efr]; split <;> omega
      obtain ⟨b', eb⟩ : ∃ b' : Int, b' = if A 27 g + 1 ≤ b then b else A 27 g + 1 := ⟨_, rfl⟩
      have f2 : 0 ≤ b' ∧ b' ≤ A 0 1 ∧ b ≤ b' ∧ A 27 g + 1 ≤ b' ∧ (b' = b ∨ b' = A 27 g + 1) := by rw [eb]; split <;> omega
      have hgm : g < 8 := by omega
      have hp8 : 2 ^ g < 2 ^ 8 := Nat.pow_lt_pow_right (by decide) hgm
      have htk' : tk ||| 2 ^ g < 256 := Nat.or_lt_two_pow (n := 8) a1 hp8
      have hlt : tk < tk ||| 2 ^ g := by
        have l1 : tk ≤ tk ||| 2 ^ g := Nat.left_le_or
        have l2 : tk ≠ tk ||| 2 ^ g := fun q => by
          have q2 : (tk ||| 2 ^ g).testBit g = true := tb_or.mpr (Or.inr rfl)
          rw [← q, hfr.2] at q2
          cases q2
        omega
      obtain ⟨v', n1, n2⟩ := np hn h hz ht (tk := tk ||| 2 ^ g) (by omega)
      have e : f_X7_remandOf_l15 z n (iI t) (f + 1) (iI (fb_ct (fun d => cvT A tk d && uns A d) 14656 : Nat)) (nI tk) (iI b) (iI g) = f_X7_remandOf_l15 z n (iI t) f (iI ((fb_ct (fun d => cvT A tk d && uns A d) 14656 : Nat) + (if A 27 g + 1 ≤ fr then 0 else A 13 (A 27 g + 1).toNat - A 13 fr.toNat))) (nI (tk ||| 2 ^ g)) (iI b') (iI v') := by
        rw [f_X7_remandOf_l15, show (-1 : Int32) = iI (-1) from rfl, it_eq (by omega) (by omega) (by omega) (by omega), if_neg (by omega), i_gd (by omega) (by omega) (by decide), i_clN (by omega), hz 26 g rfl, hz 27 g rfl, it_le (by omega) (by omega) (by omega) (by omega), q_ite, i_ite, ← efr, i_1, q_nm, it_le (by omega) (by omega) (by omega) (by omega), it_le (by omega) (by omega) (by omega) (by omega)]
        rw [sh1I (by omega), fa_or]
        have e2 : (if A 27 g + 1 ≤ fr then some (0 : Int32) else qgd (qin (iI (A 27 g + 1)) 14611) (qgd (qin (iI fr) 14611) (some (z.1 13 (iI (A 27 g + 1)).toNatClampNeg - z.1 13 (iI fr).toNatClampNeg)))) = some (iI (if A 27 g + 1 ≤ fr then 0 else A 13 (A 27 g + 1).toNat - A 13 fr.toNat)) := by
          by_cases c : A 27 g + 1 ≤ fr
          · rw [if_pos c, if_pos c]; rfl
          · rw [if_neg c, if_neg c, i_gd (by omega) (by omega) (by decide), i_gd (by omega) (by omega) (by decide), i_cl (by omega) (by omega), i_cl (by omega) (by omega), hz 13 _ rfl, hz 13 _ rfl, i_sub]
        rw [e2, q_some, i_add, q_nm, q_ite, i_ite, ← eb, q_nm, n1, q_some]
      have hdis : ∀ d : Nat, fr ≤ d → ¬ cvT A tk d = true := fun d hd q => by
        have := (a5 d (fun j hj => by have := a6 g hg' hfr j hj; omega)).mp q
        omega
      have hcov : ∀ d : Nat, cvT A (tk ||| 2 ^ g) d = (cvT A tk d || decide (fr.toNat ≤ d ∧ d < (A 27 g + 1).toNat)) := fun d => by
        rw [Bool.eq_iff_iff, cvT_or hg', Bool.or_eq_true, decide_eq_true_eq]
        constructor
        · rintro (q | ⟨q1, q2⟩)
          · exact Or.inl q
          · by_cases c : (d : Int) < b
            · exact Or.inl ((a5 d (fun j hj => by have := a6 g hg' hfr j hj; omega)).mpr c)
            · exact Or.inr (by omega)
        · rintro (q | ⟨q1, q2⟩)
          · exact Or.inl q
          · exact Or.inr (by omega)
      have hsum : ((fb_ct (fun d => cvT A tk d && uns A d) 14656 : Nat) : Int) + (if A 27 g + 1 ≤ fr then 0 else A 13 (A 27 g + 1).toNat - A 13 fr.toNat) = (fb_ct (fun d => cvT A (tk ||| 2 ^ g) d && uns A d) 14656 : Nat) := by
        have e1 : fb_ct (fun d => cvT A (tk ||| 2 ^ g) d && uns A d) 14656 = fb_ct (fun d => cvT A tk d && uns A d) 14656 + fb_ct (fun d => decide (fr.toNat ≤ d ∧ d < (A 27 g + 1).toNat) && uns A d) 14656 := by
          rw [← fb_ct_or]
          · exact fb_ct_cong fun d hd => by
              show (cvT A (tk ||| 2 ^ g) d && uns A d) = _
              rw [hcov d, Bool.and_or_distrib_right]
          · rintro d hd ⟨q1, q2⟩
            rw [Bool.and_eq_true] at q1 q2
            have := of_decide_eq_true q2.1
            exact hdis d (by omega) q1.1
        rw [e1]
        by_cases c : A 27 g + 1 ≤ fr
        · rw [if_pos c]
          have e3 : fb_ct (fun d => decide (fr.toNat ≤ d ∧ d < (A 27 g + 1).toNat) && uns A d) 14656 = 0 := fb_ct_zero.mpr fun d hd => by
            rw [decide_eq_false (by omega), Bool.false_and]
          rw [e3]
          omega
        · have e3 := ct_rng (uns A) (a := fr.toNat) (b := (A 27 g + 1).toNat) (by omega) 14656
          rw [Nat.min_eq_left (by omega), Nat.min_eq_left (by omega)] at e3
          have u1 := h.un (A 27 g + 1).toNat (by omega)
          have u2 := h.un fr.toNat (by omega)
          rw [if_neg c]
          omega
      rw [e, hsum]
      refine ih (tk ||| 2 ^ g) b' v' htk' (fun j hj => ?_) f2.1 f2.2.1 (fun d hd => ?_) (fun i hi hfi j hj => ?_) n2 (by omega)
      · rcases tb_or.mp hj with q | q
        · exact a2 j q
        · subst q; exact ⟨hg', hfr.1⟩
      · have q0 := a5 d fun j hj => hd j (tb_or.mpr (Or.inl hj))
        have q1 := hd g (tb_or.mpr (Or.inr rfl))
        rw [cvT_or hg', q0]
        omega
      · have hfi' : fre A (chM A t) tk i := ⟨hfi.1, bool_f fun q => by
          have := hfi.2
          rw [tb_or.mpr (Or.inl q)] at this
          cases this⟩
        rcases tb_or.mp hj with q | q
        · exact a6 i hi hfi' j q
        · subst q; exact hmin i (by omega) hfi'
theorem rem {n : Nat} (hn : 40000 ≤ n) {z : SX} {A : AA} (h : WF A) (hz : MZ z A) {t : Nat} (ht : (t : Int) < A 0 6) : f_X7_remandOf n z (iI t) = some (iI (crM A (chM A t) : Nat)) := by
  obtain ⟨v', n1, n2⟩ := np hn h hz ht (tk := 0) (by decide)
  have e0 : fb_ct (fun d => cvT A 0 d && uns A d) 14656 = 0 := fb_ct_zero.mpr fun d hd => by
    have : cvT A 0 d = false := bool_f fun q => by
      obtain ⟨k, -, k2, -⟩ := cvT_i.mp q
      rw [Nat.zero_testBit] at k2
      cases k2
    show (cvT A 0 d && uns A d) = false
    rw [this, Bool.false_and]
  have e := rem_l hn h hz ht n 0 0 v' (by decide) (fun j hj => by rw [Nat.zero_testBit] at hj; cases hj) (by omega) h.1.1 (fun d _ => by
    constructor
    · intro q
      obtain ⟨k, -, k2, -⟩ := cvT_i.mp q
      rw [Nat.zero_testBit] at k2
      cases k2
    · intro q; omega) (fun i _ _ j hj => by rw [Nat.zero_testBit] at hj; cases hj) n2 (by omega)
  rw [e0] at e
  unfold f_X7_remandOf
  have n1 : f_X7_nextPeriod n z (iI t) 0 = some (iI v') := n1
  rw [n1, q_some]
  exact e
theorem and_po (M R t : Nat) : decide (M &&& (2 ^ t ||| R) ≠ 0) = (M.testBit t || decide (M &&& R ≠ 0)) := by
  have key : ∀ X : Nat, X ≠ 0 ↔ ∃ i, X.testBit i = true := fun X => by
    constructor
    · intro q
      exact Nat.exists_testBit_of_ne_zero q
    · rintro ⟨i, q⟩ q2
      rw [q2, Nat.zero_testBit] at q
      cases q
  rw [Bool.eq_iff_iff, Bool.or_eq_true, decide_eq_true_eq, decide_eq_true_eq, key, key]
  constructor
  · rintro ⟨i, q⟩
    rw [Nat.testBit_and, Nat.testBit_or, Nat.testBit_two_pow, Bool.and_eq_true, Bool.or_eq_true, decide_eq_true_eq] at q
    rcases q with ⟨q1, q2 | q2⟩
    · subst q2; exact Or.inl q1
    · exact Or.inr ⟨i, by rw [Nat.testBit_and, q1, q2]; rfl⟩
  · rintro (q | ⟨i, q⟩)
    · exact ⟨t, by rw [Nat.testBit_and, Nat.testBit_or, Nat.testBit_two_pow, q, decide_eq_true rfl]; rfl⟩
    · rw [Nat.testBit_and, Bool.and_eq_true] at q
      exact ⟨i, by rw [Nat.testBit_and, Nat.testBit_or, q.1, q.2, Bool.or_true]; rfl⟩
theorem add_in {z : SX} {A : AA} (h : WF A) (hz : MZ z A) {k : Nat} (hk : (k : Int) < A 0 18) {s : Int} {kb : Int32 → Int32 → Option Int32} : ∀ (f : Nat) (v : Int) (b : Bool), -1 ≤ v → v < A 0 6 → v + 1 < f → f_X7_addedTo_l18 (iI k) z (iI s) kb f (if b = true then 1 else 0) (iI v) = kb (iI (s + (if (b || decide ((A 30 k).toNat &&& chV A v ≠ 0)) = true then A 29 k else 0))) (iI ((k : Int) + 1)) := by
  intro f
  have w6 := h.2.1
  have w18 := h.2.2.2.1
  have wa := h.aw k hk
  induction f with
  | zero => intro v b a1 a2 a3; omega
  | succ f ih =>
    intro v b a1 a2 a3
    rw [f_X7_addedTo_l18, show (-1 : Int32) = iI (-1) from rfl, it_eq (by omega) (by omega) (by omega) (by omega)]
    by_cases c : v = -1
    · rw [if_pos c, f_X7_addedTo_e63]
      unfold chV
      rw [if_pos c, Nat.and_zero, decide_eq_false (fun q => q rfl), Bool.or_false]
      cases b
      · rw [if_pos (by decide), q_some, q_nm, i_1, q_nm, i_0, i_add, if_neg (by decide)]
      · rw [if_neg (by decide), i_gd (by omega) (by omega) (by decide), i_clN (by omega), hz 29 k rfl, q_some, q_nm, i_1, q_nm, i_add, if_pos rfl]
    · obtain ⟨t, rfl⟩ := Int.eq_ofNat_of_zero_le (show 0 ≤ v by omega)
      have wt := (h.te t (by omega)).2.2.2.2.2.1
      rw [if_neg c, i_qin (a := (k : Int)) (by omega) (by omega) (by decide), i_qin (a := (t : Int)) (by omega) (by omega) (by decide), i_clN (t := k) (by omega), i_clN (t := t) (by omega), hz 30 k rfl, hz 22 t rfl, i_nat wa.2.1.1, it_shr1 (by omega) (by omega)]
      simp only [q_gdt]
      have e : qbd (if (if b = true then (1 : Int32) else 0) = 0 then (if (A 30 k).toNat.testBit t = true then some (1 : Int32) else some 0) else some 1) (fun v18 => qnm (iI (A 22 t)) fun v21 => f_X7_addedTo_l18 (iI k) z (iI s) kb f v18 v21) = f_X7_addedTo_l18 (iI k) z (iI s) kb f (if (b || (A 30 k).toNat.testBit t) = true then 1 else 0) (iI (A 22 t)) := by
        cases b
        · rw [if_pos (by decide), Bool.false_or]
          cases (A 30 k).toNat.testBit t <;> rfl
        · rw [if_neg (by decide), Bool.true_or]
          rfl
      refine e.trans ?_
      rw [ih (A 22 t) _ (by omega) (by omega) (by omega), chV_t, h.cm_V (by omega), and_po, Bool.or_assoc]
theorem add_l {n : Nat} (hn : 40000 ≤ n) {z : SX} {A : AA} (h : WF A) (hz : MZ z A) {t : Nat} (ht : (t : Int) < A 0 6) : ∀ (f k : Nat), (k : Int) ≤ A 0 18 → A 0 18 < k + f → f_X7_addedTo_l4 z n (iI t) f (iI (fb_si (fun k => if (A 30 k).toNat &&& chM A t = 0 then 0 else A 29 k) k)) (iI k) = some (iI (adZ A t)) := by
  intro f
  have w6 := h.2.1
  have w18 := h.2.2.2.1
  induction f with
  | zero => intro k a b; omega
  | succ f ih =>
    intro k a b
    rw [f_X7_addedTo_l4, hz 0 18 rfl, it_le (by omega) (by omega) (by omega) (by omega)]
    by_cases e : A 0 18 ≤ k
    · rw [if_pos e]
      unfold adZ adM
      rw [show (A 0 18).toNat = k by omega]
    · have i := ih (k + 1) (by omega) (by omega)
      have g := add_in h hz (k := k) (by omega) (s := fb_si (fun k => if (A 30 k).toNat &&& chM A t = 0 then 0 else A 29 k) k) (kb := f_X7_addedTo_l4 z n (iI t) f) n t false (by omega) ht (by omega)
      rw [fb_si_succ] at i
      rw [Bool.false_or, chV_t] at g
      rw [if_neg e]
      refine g.trans ?_
      by_cases c : (A 30 k).toNat &&& chM A t = 0
      · rw [if_pos c] at i
        rw [decide_eq_false (fun q => q c), if_neg (by decide)]
        exact i
      · rw [if_neg c] at i
        rw [decide_eq_true c, if_pos rfl]
        exact i
theorem addd {n : Nat} (hn : 40000 ≤ n) {z : SX} {A : AA} (h : WF A) (hz : MZ z A) {t : Nat} (ht : (t : Int) < A 0 6) : f_X7_addedTo n z (iI t) = some (iI (adZ A t)) := by
  have w18 := h.2.2.2.1
  exact add_l hn h hz ht n 0 (by omega) (by omega)
