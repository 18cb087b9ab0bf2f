/-! ===== quash ===== -/
def qL (A : AA) (s k : Nat) : AA := fun r t => if (r = 21 ∨ r = 22) ∧ t < k ∧ A 23 t = 0 ∧ A 22 t = s then A r s else A r t
def quA (A : AA) (s : Nat) : AA := aU (qL A s (A 0 6).toNat) 23 s 1
def mvZ (A : AA) (s k : Nat) : Nat := fb_ct (fun t => decide (A 23 t = 0) && decide (A 22 t = s)) k
theorem qL_r {A : AA} {s k r : Nat} (h1 : r ≠ 21) (h2 : r ≠ 22) : qL A s k r = A r := by
  funext t
  unfold qL
  rw [if_neg (by omega)]
theorem qL_0 {A : AA} {s : Nat} : qL A s 0 = A := by
  funext r t
  unfold qL
  rw [if_neg (by omega)]
theorem qL_g {A : AA} {s k r t : Nat} (h : k ≤ t) : qL A s k r t = A r t := by
  unfold qL
  rw [if_neg (by omega)]
theorem qL_n {A : AA} {s k r t : Nat} (h : ¬ A 22 t = s) : qL A s k r t = A r t := by
  unfold qL
  rw [if_neg (by omega)]
theorem qL_s0 {A : AA} {s k : Nat} (h : ¬ (A 23 k = 0 ∧ A 22 k = s)) : qL A s (k + 1) = qL A s k := by
  funext r t
  unfold qL
  by_cases c : (r = 21 ∨ r = 22) ∧ t < k ∧ A 23 t = 0 ∧ A 22 t = s
  · rw [if_pos c, if_pos ⟨c.1, by omega, c.2.2⟩]
  · rw [if_neg c]
    by_cases c2 : t = k
    · rw [if_neg (fun q => h (c2 ▸ q.2.2))]
    · rw [if_neg (fun q => c ⟨q.1, by omega, q.2.2⟩)]
theorem qL_s1 {A : AA} {s k : Nat} (h1 : A 23 k = 0) (h2 : A 22 k = s) : qL A s (k + 1) = aU (aU (qL A s k) 21 k (A 21 s)) 22 k (A 22 s) := by
  funext r t
  rw [aU_ap, aU_ap]
  by_cases c : r = 22 ∧ t = k
  · rw [if_pos c]
    unfold qL
    rw [if_pos (by rw [c.2]; exact ⟨Or.inr c.1, by omega, h1, h2⟩), c.1]
  · rw [if_neg c]
    by_cases c2 : r = 21 ∧ t = k
    · rw [if_pos c2]
      unfold qL
      rw [if_pos (by rw [c2.2]; exact ⟨Or.inl c2.1, by omega, h1, h2⟩), c2.1]
    · rw [if_neg c2]
      unfold qL
      by_cases c3 : (r = 21 ∨ r = 22) ∧ t < k ∧ A 23 t = 0 ∧ A 22 t = s
      · rw [if_pos c3, if_pos ⟨c3.1, by omega, c3.2.2⟩]
      · rw [if_neg c3, if_neg (fun q => c3 ⟨q.1, by omega, q.2.2⟩)]
theorem WF_qu {A : AA} (h : WF A) {s : Nat} (hs : (s : Int) < A 0 6) (hq : A 23 s = 0) : WF (quA A s) := by
  have ws := h.te s hs
  unfold WF at h ⊢
  unfold quA
  simp (disch := decide) only [aU_r, qL_r]
  obtain ⟨h1, h2, h3, h4, h5, h6, h7, h8⟩ := h
  refine ⟨h1, h2, h3, h4, h5, fun t ht => ?_, fun t ht => ?_, h8⟩
  · obtain ⟨w1, w2, w3, w4, w5, w6, w7, w8⟩ := h6 t ht
    have e23 : ∀ j, aU (qL A s (A 0 6).toNat) 23 s 1 23 j = if j = s then 1 else A 23 j := fun j => by
      by_cases q : j = s
      · rw [q, aU_s, if_pos rfl]
      · rw [aU_k q, if_neg q, qL_r (by decide) (by decide)]
    by_cases c : A 23 t = 0 ∧ A 22 t = s
    · have e1 : qL A s (A 0 6).toNat 21 t = A 21 s := by
        unfold qL
        rw [if_pos ⟨Or.inl rfl, by omega, c.1, c.2⟩]
      have e2 : qL A s (A 0 6).toNat 22 t = A 22 s := by
        unfold qL
        rw [if_pos ⟨Or.inr rfl, by omega, c.1, c.2⟩]
      rw [e1, e2, e23, e23]
      refine ⟨w1, w2, w3, w4, ws.2.2.2.2.1, by omega, ?_, fun _ q => ?_⟩
      · split
        · exact Or.inr rfl
        · exact w7
      · have q2 := ws.2.2.2.2.2.2.2 hq q
        rw [if_neg (by omega)]
        exact q2
    · have e1 : qL A s (A 0 6).toNat 21 t = A 21 t := by
        unfold qL
        rw [if_neg (fun q => c q.2.2)]
      have e2 : qL A s (A 0 6).toNat 22 t = A 22 t := by
        unfold qL
        rw [if_neg (fun q => c q.2.2)]
      rw [e1, e2, e23, e23]
      refine ⟨w1, w2, w3, w4, w5, w6, ?_, fun q q2 => ?_⟩
      · split
        · exact Or.inr rfl
        · exact w7
      · by_cases c2 : t = s
        · rw [if_pos c2] at q; omega
        · rw [if_neg c2] at q
          have q3 := w8 q q2
          rw [if_neg (fun q4 => c ⟨q, by omega⟩)]
          exact q3
  · have c : t ≠ s := by omega
    rw [aU_k c, qL_r (by decide) (by decide)]
    exact h7 t ht
theorem d_next {n : Nat} {z : SX} {A : AA} (h : WF A) {s k : Nat} (hs : (s : Int) < A 0 6) (hk : (k : Int) < A 0 6) (hz : MZ z (qL A s k)) : f_X7_isNext n z (iI k) (iI s) = some (if A 23 k = 0 ∧ A 22 k = s then 1 else 0) := by
  have w6 := h.2.1
  have wk := h.te k hk
  have hq := q_23 h k
  unfold f_X7_isNext f_X7_isIn
  rw [i_gd (by omega) (by omega) (by decide), i_clN (by omega), hz 23 k rfl, qL_r (by decide) (by decide), i_0, it_eq (by omega) (by omega) (by omega) (by omega)]
  by_cases c : A 23 k = 0
  · rw [if_pos c, q_some]
    have e : qgd (qz 1) (some (1 : Int32)) = some 1 := rfl
    rw [e, q_some, if_neg (by decide), i_gd (by omega) (by omega) (by decide), hz 22 k rfl, qL_g (Nat.le_refl k), it_eq (by omega) (by omega) (by omega) (by omega)]
    by_cases c2 : A 22 k = s
    · rw [if_pos c2, if_pos ⟨c, c2⟩]; rfl
    · rw [if_neg c2, if_neg (fun q => c2 q.2)]; rfl
  · rw [if_neg c, if_neg (show ¬ (A 23 k = 0 ∧ A 22 k = s) from fun q => c q.1)]; rfl
theorem d_qu_l {n : Nat} {A : AA} (h : WF A) {s : Nat} (hs : (s : Int) < A 0 6) : ∀ (f k : Nat) (z : SX), MZ z (qL A s k) → (k : Int) ≤ A 0 6 → A 0 6 < k + f → ∃ z' : SX, f_X7_quashes_l12 (iI s) n (iI (A 22 s)) f (iI (mvZ A s k : Nat)) (iI k) z = f_X7_quashes_e61 (iI s) n (iI (mvZ A s (A 0 6).toNat : Nat)) z' ∧ MZ z' (qL A s (A 0 6).toNat) ∧ (∀ r, r ≠ 21 → r ≠ 22 → z'.1 r = z.1 r) := by
  intro f
  have w6 := h.2.1
  have ws := h.te s hs
  induction f with
  | zero => intro k z _ a b; omega
  | succ f ih =>
    intro k z hz a b
    have e06 : z.1 0 6 = iI (A 0 6) := by rw [hz 0 6 rfl, qL_r (by decide) (by decide)]
    rw [f_X7_quashes_l12, e06, it_le (by omega) (by omega) (by omega) (by omega)]
    by_cases e : A 0 6 ≤ k
    · rw [if_pos e]
      have ek : (A 0 6).toNat = k := by omega
      rw [ek]
      exact ⟨z, rfl, hz, fun _ _ _ => rfl⟩
    · rw [if_neg e, d_next h hs (by omega) hz, q_some]
      have em : mvZ A s (k + 1) = mvZ A s k + (if (decide (A 23 k = 0) && decide (A 22 k = s)) = true then 1 else 0) := fb_ct_succ _ _
      by_cases c : A 23 k = 0 ∧ A 22 k = s
      · have e21 : z.1 21 s = iI (A 21 s) := by rw [hz 21 s rfl, qL_n (by omega)]
        rw [decide_eq_true c.1, decide_eq_true c.2, if_pos (by decide)] at em
        rw [if_pos c, if_neg (by decide), i_gd (by omega) (by omega) (by decide), i_clN (t := k) (by omega), i_clN (t := s) (by omega), e21, q_nm, q_nm, i_1, q_nm, q_some2, i_1, q_nm]
        obtain ⟨z', k1, k2, k3⟩ := ih (k + 1) (si (si z 21 k (iI (A 21 s))) 22 k (iI (A 22 s))) (by rw [qL_s1 c.1 c.2]; exact MZ_put (MZ_put hz)) (by omega) (by omega)
        refine ⟨z', ?_, k2, fun r h1 h2 => ?_⟩
        · rw [em] at k1
          exact k1
        · rw [k3 r h1 h2, sg_r h2, sg_r h1]
      · have hd : (decide (A 23 k = 0) && decide (A 22 k = (s : Int))) = false := bool_f fun q => c (by simpa using q)
        rw [hd, if_neg (by decide), Nat.add_zero] at em
        rw [if_neg c, if_pos rfl, q_some2, i_1, q_nm]
        obtain ⟨z', k1, k2, k3⟩ := ih (k + 1) z (by rw [qL_s0 c]; exact hz) (by omega) (by omega)
        rw [em] at k1
        exact ⟨z', k1, k2, k3⟩
theorem d_quash {A : AA} (h : WF A) {s : Nat} (hs : (s : Int) < A 0 6) (hq : A 23 s = 0) {z : SX} (hz : MZ z A) : ∃ z' : SX, f_X7_quashes 40000 z (iI s) = some (iI (mvZ A s (A 0 6).toNat : Nat), z') ∧ MZ z' (quA A s) ∧ DZ z' (quA A s) ∧ ∀ r k, WK r k → r ≠ 21 → r ≠ 22 → r ≠ 23 → z'.1 r k = z.1 r k := by
  have w6 := h.2.1
  obtain ⟨z1, g1, g2, g3⟩ := d_qu_l (n := 40000) h hs 40000 0 z (by rw [qL_0]; exact hz) (by omega) (by omega)
  obtain ⟨z', k1, k2, k3, k4⟩ := works (Nat.le_refl 40000) (WF_qu h hs hq) (z := si z1 23 s (iI 1)) (MZ_put g2)
  refine ⟨z', ?_, k2, k3, fun r k hr h1 h2 h3 => ?_⟩
  · unfold f_X7_quashes
    rw [i_gd (by omega) (by omega) (by decide), i_clN (by omega), hz 22 s rfl, q_nm]
    refine Eq.trans g1 ?_
    unfold f_X7_quashes_e61
    rw [i_gd (by omega) (by omega) (by decide), i_clN (by omega), show (1 : Int32) = iI 1 from rfl, q_nm, k1, q_some]
  · rw [k4 r k hr, sg_r h3, g3 r h1 h2]
theorem c_qu_l {A : AA} (h : WF A) {s : Nat} (hs : (s : Int) < A 0 6) (hq : A 23 s = 0) : ∀ (f k : Nat) (x : SX), MX x (qL A s k) → (k : Int) ≤ A 0 6 → A 0 6 < k + f → ∃ x' : SX, f_X5_remove_l4 (iI s) f (iI (mvZ A s k : Nat)) (iI k) x = some (iI (mvZ A s (A 0 6).toNat : Nat), x') ∧ MX x' (quA A s) ∧ (∀ r, r ≠ 14 → r ≠ 15 → r ≠ 16 → x'.1 r = x.1 r) ∧ x'.1 15 s = x.1 15 s ∧ x'.2 = x.2 := by
  intro f
  have w6 := h.2.1
  have ws := h.te s hs
  induction f with
  | zero => intro k x _ a b; omega
  | succ f ih =>
    intro k x hM a b
    obtain ⟨m8, m9, m10, m17, m25, m33, m40, mR, mR0, r10, r11, r12, r13, r14, r15, r16, r30, r31, r32, r35, r36, r37⟩ := hM
    have hM : MX x (qL A s k) := ⟨m8, m9, m10, m17, m25, m33, m40, mR, mR0, r10, r11, r12, r13, r14, r15, r16, r30, r31, r32, r35, r36, r37⟩
    have e06 : qL A s k 0 6 = A 0 6 := by rw [qL_r (by decide) (by decide)]
    have e23 : qL A s k 23 = A 23 := qL_r (by decide) (by decide)
    rw [f_X5_remove_l4, m17, e06, it_le (by omega) (by omega) (by omega) (by omega)]
    by_cases e : A 0 6 ≤ k
    · have ek : (A 0 6).toNat = k := by omega
      rw [if_pos e, i_gd (by omega) (by omega) (by decide), i_clN (by omega), q_nm, ek]
      refine ⟨_, rfl, ?_, fun r h1 h2 h3 => by rw [sg_r h3], by rw [sg_r (by decide)], rfl⟩
      unfold quA
      rw [ek]
      unfold MX
      simp (disch := decide) only [sg_r, aU_r]
      refine ⟨m8, m9, m10, m17, m25, m33, m40, mR, mR0, r10, r11, r12, r13, r14, fun t q1 q2 q3 => ?_, up (v := 1) r16, r30, r31, r32, r35, r36, r37⟩
      by_cases c : t = s
      · rw [c, aU_s] at q2
        omega
      · rw [aU_k c] at q2
        exact r15 t q1 q2 q3
    · have wk := h.te k (by omega)
      have hq2 := q_23 h k
      have em : mvZ A s (k + 1) = mvZ A s k + (if (decide (A 23 k = 0) && decide (A 22 k = s)) = true then 1 else 0) := fb_ct_succ _ _
      rw [if_neg e, i_gd (by omega) (by omega) (by decide), i_clN (t := k) (by omega), r16, r14, e23, qL_g (Nat.le_refl k), show (0 : Int32) = iI 0 from rfl, it_eq (by omega) (by omega) (by omega) (by omega), it_eq (by omega) (by omega) (by omega) (by omega)]
      by_cases c : A 23 k = 0 ∧ A 22 k = s
      · have e14 : x.1 14 s = iI (A 22 s) := by rw [r14 s, qL_n (by omega)]
        rw [decide_eq_true c.1, decide_eq_true c.2, if_pos (by decide)] at em
        rw [if_pos c.1, if_pos c.2, i_gd (by omega) (by omega) (by decide), i_clN (t := s) (by omega), e14, q_nm, sg_r (by decide), q_nm, i_1, q_nm, q_some2, i_1, q_nm]
        have hM' : MX (si (si x 14 k (iI (A 22 s))) 15 k (x.1 15 s)) (qL A s (k + 1)) := by
          rw [qL_s1 c.1 c.2]
          unfold MX
          simp (disch := decide) only [sg_r, aU_r]
          refine ⟨m8, m9, m10, m17, m25, m33, m40, mR, mR0, r10, r11, r12, r13, ?_, fun t q1 q2 q3 => ?_, r16, r30, r31, r32, r35, r36, r37⟩
          · intro j
            by_cases q : j = k
            · rw [q, sg_s, aU_s]
            · rw [sg_k q, aU_k q, aU_r (by decide)]; exact r14 j
          · by_cases q : t = k
            · rw [q, aU_s] at q3
              rw [q, sg_s, aU_s]
              have := r15 s (by rw [e06]; exact hs) (by rw [e23]; exact hq) (by rw [qL_n (by omega)]; exact q3)
              rw [this, qL_n (by omega)]
            · rw [aU_k q, aU_r (by decide)] at q3
              rw [sg_k q, aU_k q]
              exact r15 t q1 q2 q3
        obtain ⟨x', k1, k2, k3, k4, k5⟩ := ih (k + 1) _ hM' (by omega) (by omega)
        refine ⟨x', ?_, k2, fun r h1 h2 h3 => ?_, ?_, k5⟩
        · rw [em] at k1
          exact k1
        · rw [k3 r h1 h2 h3, sg_r h2, sg_r h1]
        · rw [k4, sg_k (by omega), sg_r (by decide)]
      · have hd : (decide (A 23 k = 0) && decide (A 22 k = (s : Int))) = false := bool_f fun q => c (by simpa using q)
        rw [hd, if_neg (by decide), Nat.add_zero] at em
        have ei : (if A 23 k = 0 then (if A 22 k = (s : Int) then (qgd (qin (iI (s : Int)) 10) ((qnm (si x 14 k (x.1 14 (iI (s : Int)).toNatClampNeg)) fun x16 => (qnm (si x16 15 k (x16.1 15 (iI (s : Int)).toNatClampNeg)) fun x17 => (qnm (iI (mvZ A s k : Nat) + (1 : Int32)) fun v18 => some (v18, x17)))))) else some (iI (mvZ A s k : Nat), x)) else some (iI (mvZ A s k : Nat), x)) = some (iI (mvZ A s k : Nat), x) := by
          by_cases c1 : A 23 k = 0
          · rw [if_pos c1, if_neg (fun q => c ⟨c1, q⟩)]
          · rw [if_neg c1]
        rw [ei, q_some2, i_1, q_nm]
        obtain ⟨x', k1, k2⟩ := ih (k + 1) x (by rw [qL_s0 c]; exact hM) (by omega) (by omega)
        rw [em] at k1
        exact ⟨x', k1, k2⟩
theorem c_remove {A : AA} (h : WF A) {s : Nat} (hs : (s : Int) < A 0 6) (hq : A 23 s = 0) {x : SX} (hM : MX x A) : ∃ x' : SX, f_X5_remove 40000 x (iI s) = some (iI (mvZ A s (A 0 6).toNat : Nat), x') ∧ MX x' (quA A s) ∧ (∀ r, r ≠ 14 → r ≠ 15 → r ≠ 16 → x'.1 r = x.1 r) ∧ x'.1 15 s = x.1 15 s ∧ x'.2 = x.2 := by
  have w6 := h.2.1
  exact c_qu_l h hs hq 40000 0 x (by rw [qL_0]; exact hM) (by omega) (by omega)
theorem qu_r {A : AA} {s r : Nat} (h1 : r ≠ 21) (h2 : r ≠ 22) (h3 : r ≠ 23) : quA A s r = A r := by
  unfold quA
  rw [aU_r h3, qL_r h1 h2]
theorem WX_q {x : SX} {A : AA} {s : Nat} (hW : WX x A) : WX x (quA A s) := by
  unfold WX at hW ⊢
  rw [qu_r (by decide) (by decide) (by decide)]
  exact hW
theorem HT_q {A : AA} {s : Nat} {t : Nat → Nat} {k : Nat} (hT : HT A t k) : HT (quA A s) t k := HT_c (by rw [qu_r (by decide) (by decide) (by decide)]) (fun d _ => by rw [qu_r (by decide) (by decide) (by decide)]) hT
theorem qu_fail {z : SX} {a c : Int32} (e : f_X7_failsFor 40000 z a = some (1, si z 0 0 c)) : f_X7_quash 40000 z a = some (0, si z 0 0 c) := by
  unfold f_X7_failsFor at e
  unfold f_X7_quash
  cases o1 : f_X7_isTerm 40000 z a with
  | none => rw [o1] at e; cases e
  | some r1 =>
    rw [o1, q_some] at e
    rw [q_some]
    generalize (if r1 = 0 then some (1 : Int32) else (qbd (f_X7_isIn 40000 z a) fun r10 => (if r10 = 0 then some (2 : Int32) else some (0 : Int32)))) = o2 at e ⊢
    cases o2 with
    | none => cases e
    | some v3 =>
      rw [q_some] at e ⊢
      cases o3 : f_X7_fails 40000 z v3 with
      | none => rw [o3] at e; cases e
      | some p =>
        obtain ⟨r5, x6⟩ := p
        rw [o3, q_some2] at e
        rw [q_some2]
        obtain ⟨-, e⟩ := qgd_e e
        obtain ⟨rfl, rfl⟩ := q_s2 e
        rfl
theorem sp_quash : SP_quash Rel := by
  intro x t k z a hR
  have hR' := hR
  obtain ⟨A, h, hM, hD, hW, hz, hDz, hT⟩ := hR
  have w6 := h.2.1
  rcases st_cases h hM hz a with ⟨s, rfl, hs, hq, e1, e2⟩ | ⟨e1, e2⟩ | ⟨e1, e2⟩
  · obtain ⟨x1, g1, g2, g3, g4, g5⟩ := c_remove h hs hq hM
    have hWF := WF_qu h hs hq
    obtain ⟨x2, l1, l2, l3, l4, -⟩ := xq_settle (Nat.le_refl 40000) hWF g2 (WX_1 (WX_q hW) (by rw [g5]) (by rw [g5]))
    obtain ⟨z1, k1, k2, k3, k4⟩ := d_quash h hs hq (z := si z 0 0 0) (MZ_scr hz rfl)
    obtain ⟨x3, z2, p1, p2, p3, -, -, p6⟩ := lim hWF l2 l4 l3 k2 k3 (HT_q hT)
    refine ⟨40000, x3, 0, iI (mvZ A s (A 0 6).toNat : Nat), 0, 40000, iI (mvZ A s (A 0 6).toNat : Nat), z2, ?_, Or.inl ⟨rfl, rfl⟩, ?_, ?_, fun _ => rfl, p3⟩
    · have p1' := qbd_c p1 (fun x10 => some (0, iI (mvZ A s (A 0 6).toNat : Nat), x10))
      unfold f_X6_quash
      rw [e1, q_x0, g1, q_some2, l1, q_some]
      exact p1'
    · unfold f_X7_quash
      rw [(d_isTerm (n := 40000) h hz (v := (s : Int)) (by omega) (by omega)).1 (by omega), q_some, if_neg (by decide), d_isIn1 hz (by omega) hq, q_some, if_neg (by decide), q_some, d_fails0, q_some2, if_pos rfl, k1, q_some2, p2, q_some]
    · rw [p6, k4 0 0 (Or.inl ⟨rfl, Or.inl (by decide)⟩) (by decide) (by decide) (by decide), sg_s]
  · exact ⟨40000, x, 3, 0, 1, 40000, 0, si z 0 0 1, by unfold f_X6_quash; rw [e1]; rfl, Or.inr (Or.inl ⟨rfl, rfl⟩), qu_fail e2, sg_s, fun q => absurd q (by decide), hR'.th 1⟩
  · exact ⟨40000, x, 2, 0, 2, 40000, 0, si z 0 0 2, by unfold f_X6_quash; rw [e1]; rfl, Or.inr (Or.inr ⟨rfl, rfl⟩), qu_fail e2, sg_s, fun q => absurd q (by decide), hR'.th 2⟩
