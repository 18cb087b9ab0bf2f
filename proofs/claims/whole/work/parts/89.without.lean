/-! ===== lastReleaseWithout ===== -/
theorem MX_q {x x' : SX} {A : AA} (e : ∀ r, r ≠ 25 → x'.1 r = x.1 r) (h : MX x A) : MX x' A := by
  unfold MX at h ⊢
  rw [e 0 (by decide), e 1 (by decide), e 2 (by decide), e 3 (by decide), e 4 (by decide), e 10 (by decide), e 11 (by decide), e 12 (by decide), e 13 (by decide), e 14 (by decide), e 15 (by decide), e 16 (by decide), e 30 (by decide), e 31 (by decide), e 32 (by decide), e 35 (by decide), e 36 (by decide), e 37 (by decide)]
  exact h
theorem ns_qu {A : AA} {s : Nat} (hs : (s : Int) < A 0 6) (hq : A 23 s = 0) : nsA (quA A s) + 1 = nsA A := by
  have e := fb_ct_upd (fun t => decide (A 23 t = 0)) false (i := s) (n := (A 0 6).toNat) (by omega)
  have e1 : nsA (quA A s) = fb_ct (fun k => if k = s then false else decide (A 23 k = 0)) (A 0 6).toNat := by
    unfold nsA
    rw [show quA A s 0 = A 0 from qu_r (by decide) (by decide) (by decide)]
    refine fb_ct_cong fun k hk => ?_
    show decide (quA A s 23 k = 0) = _
    unfold quA
    by_cases q : k = s
    · rw [q, aU_s, if_pos rfl]; rfl
    · rw [aU_k q, if_neg q, qL_r (by decide) (by decide)]
  simp only [hq, decide_true, if_true] at e
  unfold nsA at e1 ⊢
  rw [e1]
  simpa using e
/-- the model keeps parents and begins -/
theorem d_keep_l {n : Nat} {a1 : Int32} {A : AA} : ∀ (f k : Nat) (z : SX), MZ z A → (∀ j, j < k → z.1 50 j = iI (A 22 j) ∧ z.1 51 j = iI (A 21 j)) → k ≤ 10 → 10 < k + f → ∃ z' : SX, f_X7_lastReleaseWithout_l12 n a1 f (iI k) z = f_X7_lastReleaseWithout_e48 n a1 z' ∧ MZ z' A ∧ (∀ j, j < 10 → z'.1 50 j = iI (A 22 j) ∧ z'.1 51 j = iI (A 21 j)) := by
  intro f
  induction f with
  | zero => intro k z _ _ a b; omega
  | succ f ih =>
    intro k z hz hk a b
    rw [f_X7_lastReleaseWithout_l12, show (10 : Int32) = iI 10 from rfl, it_le (by omega) (by omega) (by omega) (by omega)]
    by_cases e : (10 : Int) ≤ k
    · rw [if_pos e]
      exact ⟨z, rfl, hz, fun j hj => hk j (by omega)⟩
    · rw [if_neg e, i_gd (by omega) (by omega) (by decide), i_clN (by omega), q_nm, sg_r (by decide), q_nm, i_1, q_nm]
      refine ih (k + 1) _ (MZ_scr (MZ_scr hz rfl) rfl) (fun j hj => ?_) (by omega) (by omega)
      by_cases q : j = k
      · subst q
        rw [sg_r (by decide), sg_s, sg_s, hz 22 j rfl, hz 21 j rfl]
        exact ⟨rfl, rfl⟩
      · rw [sg_r (by decide), sg_k q, sg_k q, sg_r (by decide)]
        exact hk j (by omega)
/-- and gives them back -/
def bbA (A Q : AA) (k : Nat) : AA := fun r j => if (r = 21 ∨ r = 22) ∧ j < k then A r j else Q r j
theorem bb_s {A Q : AA} {k : Nat} : bbA A Q (k + 1) = aU (aU (bbA A Q k) 22 k (A 22 k)) 21 k (A 21 k) := by
  funext r j
  rw [aU_ap, aU_ap]
  unfold bbA
  by_cases c : r = 21 ∧ j = k
  · rw [if_pos c, if_pos (by omega), c.1, c.2]
  · rw [if_neg c]
    by_cases c2 : r = 22 ∧ j = k
    · rw [if_pos c2, if_pos (by omega), c2.1, c2.2]
    · rw [if_neg c2]
      by_cases c3 : (r = 21 ∨ r = 22) ∧ j < k
      · rw [if_pos c3, if_pos (by omega)]
      · rw [if_neg c3, if_neg (by omega)]
theorem bb_0 {A Q : AA} : bbA A Q 0 = Q := by
  funext r j
  unfold bbA
  rw [if_neg (by omega)]
theorem bb_10 {A : AA} (h : WF A) {s : Nat} (hq : A 23 s = 0) : bbA A (aU (quA A s) 23 s 0) 10 = A := by
  have w6 := h.2.1
  funext r j
  unfold bbA
  by_cases c : (r = 21 ∨ r = 22) ∧ j < 10
  · rw [if_pos c]
  · rw [if_neg c, aU_ap]
    by_cases c2 : r = 23 ∧ j = s
    · rw [if_pos c2, c2.1, c2.2, hq]
    · rw [if_neg c2]
      unfold quA
      rw [aU_ap, if_neg c2]
      unfold qL
      rw [if_neg (by omega)]
theorem d_back_l {n : Nat} {r9 r11 : Int32} {A Q : AA} : ∀ (f k : Nat) (z : SX), MZ z (bbA A Q k) → (∀ j, j < 10 → z.1 50 j = iI (A 22 j) ∧ z.1 51 j = iI (A 21 j)) → k ≤ 10 → 10 < k + f → ∃ z' : SX, f_X7_lastReleaseWithout_l75 n r9 r11 f (iI k) z = f_X7_lastReleaseWithout_e116 n r9 r11 z' ∧ MZ z' (bbA A Q 10) := by
  intro f
  induction f with
  | zero => intro k z _ _ a b; omega
  | succ f ih =>
    intro k z hz hk a b
    rw [f_X7_lastReleaseWithout_l75, show (10 : Int32) = iI 10 from rfl, it_le (by omega) (by omega) (by omega) (by omega)]
    by_cases e : (10 : Int) ≤ k
    · rw [if_pos e]
      refine ⟨z, rfl, ?_⟩
      rw [show 10 = k by omega]
      exact hz
    · rw [if_neg e, i_gd (by omega) (by omega) (by decide), i_clN (by omega), (hk k (by omega)).1, q_nm, sg_r (by decide), (hk k (by omega)).2, q_nm, i_1, q_nm]
      refine ih (k + 1) _ ?_ (fun j hj => ?_) (by omega) (by omega)
      · rw [bb_s]; exact MZ_put (MZ_put hz)
      · rw [sg_r (by decide), sg_r (by decide), sg_r (by decide), sg_r (by decide)]
        exact hk j hj
theorem d_without {A : AA} (h : WF A) {s : Nat} (hs : (s : Int) < A 0 6) (hq : A 23 s = 0) {z : SX} (hz : MZ z A) (e2 : f_X7_failsFor 40000 z (iI s) = some (0, si z 0 0 0)) : ∃ z' : SX, MZ z' A ∧ DZ z' A ∧ f_X7_lastReleaseWithout 40000 z (iI s) = if nsA A = 1 then some (0, si z' 0 0 3) else some (iI (roA (quA A s)), si z' 0 0 0) := by
  have w6 := h.2.1
  have hWF := WF_qu h hs hq
  obtain ⟨z1, a1, a2, a3⟩ := d_keep_l (n := 40000) (a1 := iI (s : Int)) 40000 0 (si z 0 0 0) (MZ_scr hz rfl) (fun j hj => by omega) (by omega) (by omega)
  obtain ⟨z2, b1, b2, b3, b4⟩ := d_quash h hs hq a2
  have hany := d_any (Nat.le_refl 40000) hWF b2
  have hro := d_ro (Nat.le_refl 40000) hWF b2 b3
  obtain ⟨z3, c1, c2⟩ := d_back_l (n := 40000) (r9 := if nsA (quA A s) = 0 then 0 else 1) (r11 := iI (roA (quA A s))) (A := A) (Q := aU (quA A s) 23 s 0) 40000 0 (si z2 23 s (iI 0)) (by rw [bb_0]; exact MZ_put b2) (fun j hj => by
    rw [sg_r (by decide), sg_r (by decide), b4 50 j (Or.inr ⟨by decide, Or.inr (by decide)⟩) (by decide) (by decide) (by decide), b4 51 j (Or.inr ⟨by decide, Or.inr (by decide)⟩) (by decide) (by decide) (by decide)]
    exact a3 j hj) (by omega) (by omega)
  rw [bb_10 h hq] at c2
  obtain ⟨z4, d1, d2, d3, d4⟩ := works (Nat.le_refl 40000) h c2
  refine ⟨z4, d2, d3, ?_⟩
  have hns := ns_qu hs hq
  unfold f_X7_lastReleaseWithout
  rw [e2, q_some2, if_pos rfl]
  refine Eq.trans a1 ?_
  unfold f_X7_lastReleaseWithout_e48
  rw [b1, q_some2, hany, q_some, hro, q_some, i_gd (by omega) (by omega) (by decide), i_clN (by omega), show (0 : Int32) = iI 0 from rfl, q_nm]
  refine Eq.trans c1 ?_
  unfold f_X7_lastReleaseWithout_e116
  rw [d1, q_some]
  by_cases c : nsA A = 1
  · rw [if_pos c, if_pos (show nsA (quA A s) = 0 by omega)]
    rfl
  · rw [if_neg c, if_neg (show ¬ nsA (quA A s) = 0 by omega)]
    rfl
theorem c_without {A : AA} (h : WF A) {s : Nat} (hs : (s : Int) < A 0 6) (hq : A 23 s = 0) {x : SX} (hM : MX x A) (hW : WX x A) (e1 : f_X6_checkStandingTerm 40000 x (iI s) = some 0) (hns : nsA A ≠ 1) : ∃ x' : SX, MX x' A ∧ DX x' A ∧ WX x' A ∧ f_X6_lastReleaseWithout 40000 x (iI s) = some (0, iI (roA (quA A s)), x') := by
  have w6 := h.2.1
  have ws := h.te s hs
  have hWF := WF_qu h hs hq
  have hn := ns_le A h
  have hn2 := ns_qu hs hq
  obtain ⟨y, ey⟩ : ∃ y : SX, y = sr x 25 (va_cpy (x.1 14) (x.1 25) (0 : Int32).toNatClampNeg (0 : Int32).toNatClampNeg (10 : Int32).toNatClampNeg) := ⟨_, rfl⟩
  have y1 : ∀ r, r ≠ 25 → y.1 r = x.1 r := fun r hr => by rw [ey, sr_n hr]
  have y2 : ∀ j, j < 10 → y.1 25 j = iI (A 22 j) := fun j hj => by
    have e : y.1 25 = va_cpy (x.1 14) (x.1 25) 0 0 10 := by rw [ey, sr_s]; rfl
    rw [e]
    refine (if_pos ⟨Nat.zero_le j, by omega⟩).trans ?_
    rw [show 0 + (j - 0) = j by omega]
    exact hM.2.2.2.2.2.2.2.2.2.2.2.2.2.1 j
  have y3 : y.2 = x.2 := by rw [ey]; rfl
  have hMy : MX y A := MX_q y1 hM
  obtain ⟨x1, g1, g2, g3, g4, g5⟩ := c_remove h hs hq hMy
  have hW1 : WX x1 A := WX_1 hW (by rw [g5, y3]) (by rw [g5, y3])
  obtain ⟨x2, l1, l2, l3, l4, l5⟩ := xq_settle (Nat.le_refl 40000) hWF g2 (WX_q hW1)
  have x25 : ∀ j, j < 10 → x2.1 25 j = iI (A 22 j) := fun j hj => by rw [l5 25 j (by omega), g3 25 (by decide) (by decide) (by decide), y2 j hj]
  obtain ⟨m8, m9, m10, m17, m25, m33, m40, mR, mR0, r10, r11, r12, r13, r14, r15, r16, r30, r31, r32, r35, r36, r37⟩ := l2
  obtain ⟨v, ev⟩ : ∃ v : SX, v = si (sr x2 14 (va_cpy (x2.1 25) (x2.1 14) (0 : Int32).toNatClampNeg (0 : Int32).toNatClampNeg (10 : Int32).toNatClampNeg)) 16 s 0 := ⟨_, rfl⟩
  have v1 : ∀ r, r ≠ 14 → r ≠ 16 → v.1 r = x2.1 r := fun r h1 h2 => by rw [ev, sg_r h2, sr_n h1]
  have v14 : ∀ j, v.1 14 j = iI (A 22 j) := fun j => by
    have e : v.1 14 = va_cpy (x2.1 25) (x2.1 14) 0 0 10 := by rw [ev, sg_r (by decide), sr_s]; rfl
    rw [e]
    by_cases c : j < 10
    · refine (if_pos ⟨Nat.zero_le j, by omega⟩).trans ?_
      rw [show 0 + (j - 0) = j by omega]
      exact x25 j c
    · refine (if_neg (by omega)).trans ?_
      rw [r14 j]
      unfold quA
      rw [aU_r (by decide), qL_g (by omega)]
  have v16 : ∀ j, v.1 16 j = iI (A 23 j) := fun j => by
    have e : v.1 16 = upd (x2.1 16) s 0 := by
      rw [ev, sr_s, sr_n (by decide)]
    rw [e]
    by_cases c : j = s
    · rw [c, pk_us, hq]; rfl
    · rw [pk_un c, r16 j]
      unfold quA
      rw [aU_k c, qL_r (by decide) (by decide)]
  have hMv : MX v A := by
    unfold MX
    have q0 : ∀ r, r ≠ 21 → r ≠ 22 → r ≠ 23 → quA A s r = A r := fun r a b c => qu_r a b c
    rw [q0 0 (by decide) (by decide) (by decide)] at m8 m9 m10 m17 m25 m33 m40 mR mR0 r15
    rw [q0 17 (by decide) (by decide) (by decide)] at r10
    rw [q0 18 (by decide) (by decide) (by decide)] at r11
    rw [q0 19 (by decide) (by decide) (by decide)] at r12
    rw [q0 20 (by decide) (by decide) (by decide)] at r13
    rw [q0 25 (by decide) (by decide) (by decide)] at r30
    rw [q0 26 (by decide) (by decide) (by decide)] at r31
    rw [q0 27 (by decide) (by decide) (by decide)] at r32
    rw [q0 29 (by decide) (by decide) (by decide)] at r35
    rw [q0 30 (by decide) (by decide) (by decide)] at r36
    rw [q0 31 (by decide) (by decide) (by decide)] at r37
    rw [v1 0 (by decide) (by decide), v1 1 (by decide) (by decide), v1 2 (by decide) (by decide), v1 3 (by decide) (by decide), v1 4 (by decide) (by decide), v1 10 (by decide) (by decide), v1 11 (by decide) (by decide), v1 12 (by decide) (by decide), v1 13 (by decide) (by decide), v1 15 (by decide) (by decide), v1 30 (by decide) (by decide), v1 31 (by decide) (by decide), v1 32 (by decide) (by decide), v1 35 (by decide) (by decide), v1 36 (by decide) (by decide), v1 37 (by decide) (by decide)]
    refine ⟨m8, m9, m10, m17, m25, m33, m40, mR, mR0, r10, r11, r12, r13, v14, fun t q1 q2 q3 => ?_, v16, r30, r31, r32, r35, r36, r37⟩
    by_cases c : t = s
    · rw [c, l5 15 s (by omega), g4, y1 15 (by decide)]
      rw [c] at q3
      exact hM.2.2.2.2.2.2.2.2.2.2.2.2.2.2.1 s hs hq q3
    · have e22 : quA A s 22 t = A 22 t := by
        unfold quA
        rw [aU_r (by decide), qL_n (by omega)]
      have e21 : quA A s 21 t = A 21 t := by
        unfold quA
        rw [aU_r (by decide), qL_n (by omega)]
      have e23 : quA A s 23 t = A 23 t := by
        unfold quA
        rw [aU_k c, qL_r (by decide) (by decide)]
      have := r15 t q1 (by rw [e23]; exact q2) (by rw [e22]; exact q3)
      rw [this, e21]
  have hWv : WX v A := by
    unfold WX at hW1 l3 ⊢
    rw [qu_r (by decide) (by decide) (by decide)] at l3
    have e : v.2 = x2.2 := by rw [ev]; rfl
    rw [e]
    exact l3
  obtain ⟨x', p1, p2, p3, p4, -⟩ := xq_settle (Nat.le_refl 40000) h hMv hWv
  refine ⟨x', p2, p4, p3, ?_⟩
  unfold f_X6_lastReleaseWithout
  rw [e1, q_x0, c_standing (Nat.le_refl _) h hM, q_some, show (2 : Int32) = iI 2 from rfl, it_le (by omega) (by omega) (by omega) (by omega), if_pos (by omega)]
  unfold f_X5_remember
  rw [q_nm, q_some, ← ey, g1, q_some2, l1, q_some]
  have hM2 : MX x2 (quA A s) := ⟨m8, m9, m10, m17, m25, m33, m40, mR, mR0, r10, r11, r12, r13, r14, r15, r16, r30, r31, r32, r35, r36, r37⟩
  rw [c_gr (Nat.le_refl _) hWF hM2 l4, q_some]
  unfold f_X5_bringBack
  rw [q_nm, i_gd (by omega) (by omega) (by decide), i_clN (by omega), q_nm, ← ev, q_some, p1, q_some]
theorem sp_lastReleaseWithout : SP_lastReleaseWithout Rel := by
  intro x t k z a hR
  have hR' := hR
  obtain ⟨A, h, hM, hD, hW, hz, hDz, hT⟩ := hR
  rcases st_cases h hM hz a with ⟨s, rfl, hs, hq, e1, e2⟩ | ⟨e1, e2⟩ | ⟨e1, e2⟩
  · obtain ⟨z', d1, d2, d3⟩ := d_without h hs hq hz e2
    by_cases c : nsA A = 1
    · rw [if_pos c] at d3
      refine ⟨40000, x, 4, 0, 3, 40000, 0, si z' 0 0 3, ?_, Or.inr (Or.inr (Or.inr ⟨rfl, rfl⟩)), d3, sg_s, fun q => absurd q (by decide), ⟨A, h, hM, hD, hW, MZ_scr d1 rfl, DZ_scr d2 (by omega), hT⟩⟩
      unfold f_X6_lastReleaseWithout
      rw [e1, q_x0, c_standing (Nat.le_refl _) h hM, q_some, show (2 : Int32) = iI 2 from rfl, it_le (by omega) (by omega) (by omega) (by omega), if_neg (by omega)]
    · rw [if_neg c] at d3
      obtain ⟨x', g1, g2, g3, g4⟩ := c_without h hs hq hM hW e1 c
      exact ⟨40000, x', 0, _, 0, 40000, _, _, g4, Or.inl ⟨rfl, rfl⟩, d3, sg_s, fun _ => rfl, ⟨A, h, g1, g2, g3, MZ_scr d1 rfl, DZ_scr d2 (by omega), hT⟩⟩
  · exact ⟨40000, x, 3, 0, 1, 40000, 0, si z 0 0 1, by unfold f_X6_lastReleaseWithout; rw [e1]; rfl, Or.inr (Or.inl ⟨rfl, rfl⟩), by unfold f_X7_lastReleaseWithout; rw [e2]; rfl, sg_s, fun q => absurd q (by decide), hR'.th 1⟩
  · exact ⟨40000, x, 2, 0, 2, 40000, 0, si z 0 0 2, by unfold f_X6_lastReleaseWithout; rw [e1]; rfl, Or.inr (Or.inr (Or.inl ⟨rfl, rfl⟩)), by unfold f_X7_lastReleaseWithout; rw [e2]; rfl, sg_s, fun q => absurd q (by decide), hR'.th 2⟩
