/-! ===== the recall's limit; impose, imposeConsecutive, addRemand ===== -/
theorem lim {x z : SX} {A : AA} {t : Nat → Nat} {k : Nat} (h : WF A) (hM : MX x A) (hD : DX x A) (hW : WX x A) (hz : MZ z A) (hDz : DZ z A) (hT : HT A t k) : ∃ x' z' : SX, (qbd (f_X6_greatestEnd 40000 x) fun r => f_X3_lowerLimit 40000 x r) = some x' ∧ f_X7_bounds 40000 z = some z' ∧ Rel x' t k z' ∧ (∀ j, x'.1 24 j = x.1 24 j) ∧ (∀ j, z'.1 46 j = z.1 46 j) ∧ z'.1 0 0 = z.1 0 0 := by
  have heo := eo_in h
  have w22 := h.2.2.2.2.1
  obtain ⟨l, el⟩ : ∃ l : Int, l = if A 0 22 ≤ 0 then A 0 25 else if A 0 25 ≤ eoA A then A 0 25 else eoA A := ⟨_, rfl⟩
  obtain ⟨B, eB⟩ : ∃ B : AA, B = aU A 0 25 l := ⟨_, rfl⟩
  have hr : ∀ r, r ≠ 0 → B r = A r := fun r h0 => by rw [eB, aU_r h0]
  have h0 : ∀ j, j ≠ 25 → B 0 j = A 0 j := fun j hj => by rw [eB, aU_k hj]
  have h25 : B 0 25 = l := by rw [eB, aU_s]
  have hl : 0 < A 0 22 → 0 ≤ l ∧ l ≤ 1000000 := fun q => by
    have := h.re q
    rw [el, if_neg (by omega)]
    split <;> omega
  have hWF : WF B := WF_re h hr (fun j hj => h0 j (by omega)) (by rw [h0 22 (by decide)]; omega) (fun q => by
    rw [h0 22 (by decide)] at q
    have := h.re q
    have := hl q
    rw [h0 23 (by decide), h0 24 (by decide), h25]
    omega)
  have d1 : ER1 A B := ⟨hr 17 (by decide), hr 18 (by decide), hr 19 (by decide), hr 21 (by decide), hr 22 (by decide), hr 23 (by decide), h0 6 (by decide)⟩
  have d2 : ER2 A B := ⟨h0 14 (by decide), hr 25 (by decide), hr 26 (by decide), hr 27 (by decide), fun d _ => by rw [hr 12 (by decide)]⟩
  have d3 : ER3 A B := ⟨h0 18 (by decide), hr 29 (by decide), hr 30 (by decide)⟩
  obtain ⟨u, hu, hu2⟩ : ∃ u : Int, (if iI (eoA A) < x.1 4 3 then iI (eoA A) else x.1 4 3) = iI u ∧ ((0 < A 0 22 → u = l) ∧ (A 0 22 = 0 → u = 0)) := by
    obtain ⟨m8, m9, m10, m17, m25, m33, m40, mR, mR0, -⟩ := hM
    by_cases c : A 0 22 = 0
    · refine ⟨0, ?_, fun q => by omega, fun _ => rfl⟩
      rw [mR0 c, it_lt (by omega) (by omega) (by omega) (by omega), if_neg (by omega)]
    · have q := h.re (by omega)
      refine ⟨l, ?_, fun _ => rfl, fun q => absurd q c⟩
      rw [(mR (by omega)).2.2, it_lt (by omega) (by omega) (by omega) (by omega), i_ite, el, if_neg (show ¬ A 0 22 ≤ 0 by omega)]
      congr 1
      split <;> split <;> omega
  have hMX : MX (si x 4 3 (iI u)) B := by
    obtain ⟨m8, m9, m10, m17, m25, m33, m40, mR, mR0, r10, r11, r12, r13, r14, r15, r16, r30, r31, r32, r35, r36, r37⟩ := hM
    unfold MX
    rw [h0 1 (by decide), h0 4 (by decide), h0 5 (by decide), h0 6 (by decide), h0 14 (by decide), h0 18 (by decide), h0 22 (by decide), h0 23 (by decide), h0 24 (by decide), h25, hr 17 (by decide), hr 18 (by decide), hr 19 (by decide), hr 20 (by decide), hr 21 (by decide), hr 22 (by decide), hr 23 (by decide), hr 25 (by decide), hr 26 (by decide), hr 27 (by decide), hr 29 (by decide), hr 30 (by decide), hr 31 (by decide)]
    simp (disch := decide) only [sg_r, sg_s, sg_k]
    exact ⟨m8, m9, m10, m17, m25, m33, m40, fun q => ⟨(mR q).1, (mR q).2.1, by rw [hu2.1 q]⟩, fun q => by rw [hu2.2 q], r10, r11, r12, r13, r14, r15, r16, r30, r31, r32, r35, r36, r37⟩
  refine ⟨si x 4 3 (iI u), si z 0 25 (iI l), ?_, ?_, ⟨B, hWF, hMX, DX_c h d1 d2 ?_, ?_, ?_, DZ_c h d1 d2 d3 (DZ_scr hDz (by omega)), HT_c (h0 26 (by decide)) (fun d _ => by rw [hr 12 (by decide)]) hT⟩, fun j => ?_, fun j => ?_, ?_⟩
  · rw [c_ge (Nat.le_refl _) h hM hD, q_some]
    unfold f_X3_lowerLimit
    rw [hu, q_nm]
  · unfold f_X7_bounds
    rw [d_eo (Nat.le_refl _) h hz hDz, q_some, hz 0 22 rfl, hz 0 25 rfl, i_0, it_le (by omega) (by omega) (by omega) (by omega)]
    have e : (if A 0 22 ≤ 0 then some (iI (A 0 25)) else if iI (A 0 25) ≤ iI (eoA A) then some (iI (A 0 25)) else some (iI (eoA A))) = some (iI l) := by
      rw [el]
      by_cases c : A 0 22 ≤ 0
      · rw [if_pos c, if_pos c]
      · have q := h.re (by omega)
        rw [if_neg c, if_neg c, it_le (by omega) (by omega) (by omega) (by omega)]
        split <;> rfl
    rw [e, q_some, q_nm]
  · unfold DX at hD ⊢
    simp (disch := decide) only [sg_r]
    exact hD
  · unfold WX at hW ⊢
    rw [hr 12 (by decide)]
    exact hW
  · rw [eB]; exact MZ_put hz
  · rw [sg_r (by decide)]
  · rw [sg_r (by decide)]
  · rw [sg_k (by decide)]
def okS (kd mo da : Int) : Prop := (0 ≤ kd ∧ kd ≤ 3) ∧ (0 ≤ mo ∧ mo ≤ 60) ∧ (0 ≤ da ∧ da ≤ 99) ∧ ¬ (mo = 0 ∧ da = 0)
theorem c_ckS {n : Nat} {kd mo da : Int} (k1 : -2147483648 ≤ kd) (k2 : kd < 2147483648) (m1 : -2147483648 ≤ mo) (m2 : mo < 2147483648) (d1 : -2147483648 ≤ da) (d2 : da < 2147483648) : (okS kd mo da → f_X6_checkSentence n (iI kd) (iI mo) (iI da) = some 0) ∧ (¬ okS kd mo da → f_X6_checkSentence n (iI kd) (iI mo) (iI da) = some 1) := by
  unfold f_X6_checkSentence okS
  rw [show (3 : Int32) = iI 3 from rfl, show (60 : Int32) = iI 60 from rfl, show (99 : Int32) = iI 99 from rfl, show (0 : Int32) = iI 0 from rfl, it_lt (a := kd) (by omega) (by omega) (by omega) (by omega), it_lt (a := 3) (by omega) (by omega) (by omega) (by omega), it_lt (a := mo) (by omega) (by omega) (by omega) (by omega), it_lt (a := 60) (by omega) (by omega) (by omega) (by omega), it_lt (a := da) (by omega) (by omega) (by omega) (by omega), it_lt (a := 99) (by omega) (by omega) (by omega) (by omega)]
  by_cases c1 : kd < 0
  · rw [if_pos c1]; exact ⟨fun q => by omega, fun _ => rfl⟩
  by_cases c2 : 3 < kd
  · rw [if_neg c1, if_pos c2]; exact ⟨fun q => by omega, fun _ => rfl⟩
  by_cases c3 : mo < 0
  · rw [if_neg c1, if_neg c2, if_pos c3]; exact ⟨fun q => by omega, fun _ => rfl⟩
  by_cases c4 : 60 < mo
  · rw [if_neg c1, if_neg c2, if_neg c3, if_pos c4]; exact ⟨fun q => by omega, fun _ => rfl⟩
  by_cases c5 : da < 0
  · rw [if_neg c1, if_neg c2, if_neg c3, if_neg c4, if_pos c5]; exact ⟨fun q => by omega, fun _ => rfl⟩
  by_cases c6 : 99 < da
  · rw [if_neg c1, if_neg c2, if_neg c3, if_neg c4, if_neg c5, if_pos c6]; exact ⟨fun q => by omega, fun _ => rfl⟩
  rw [if_neg c1, if_neg c2, if_neg c3, if_neg c4, if_neg c5, if_neg c6, q_some, if_neg (by decide), it_eq (a := mo) (by omega) (by omega) (by omega) (by omega), it_eq (a := da) (by omega) (by omega) (by omega) (by omega)]
  by_cases c7 : mo = 0
  · rw [if_pos c7]
    by_cases c8 : da = 0
    · rw [if_pos c8]; exact ⟨fun q => by omega, fun _ => rfl⟩
    · rw [if_neg c8]; exact ⟨fun _ => rfl, fun q => by omega⟩
  · rw [if_neg c7]; exact ⟨fun _ => rfl, fun q => by omega⟩
theorem d_ckS {n : Nat} {z : SX} {kd mo da : Int} (k1 : -2147483648 ≤ kd) (k2 : kd < 2147483648) (m1 : -2147483648 ≤ mo) (m2 : mo < 2147483648) (d1 : -2147483648 ≤ da) (d2 : da < 2147483648) : (okS kd mo da → f_X7_isTermOf n z (iI kd) (iI mo) (iI da) = some 1) ∧ (¬ okS kd mo da → f_X7_isTermOf n z (iI kd) (iI mo) (iI da) = some 0) := by
  have g1 := d_in_ (n := n) (a := kd) (b := 0) (c := 3) k1 k2 (by omega) (by omega) (by omega) (by omega)
  have g2 := d_in_ (n := n) (a := mo) (b := 0) (c := 60) m1 m2 (by omega) (by omega) (by omega) (by omega)
  have g3 := d_in_ (n := n) (a := da) (b := 0) (c := 99) d1 d2 (by omega) (by omega) (by omega) (by omega)
  unfold f_X7_isTermOf okS
  rw [show (3 : Int32) = iI 3 from rfl, show (60 : Int32) = iI 60 from rfl, show (99 : Int32) = iI 99 from rfl, show (0 : Int32) = iI 0 from rfl]
  by_cases c1 : 0 ≤ kd ∧ kd ≤ 3
  · rw [g1.1 c1, q_some, if_neg (by decide)]
    by_cases c2 : 0 ≤ mo ∧ mo ≤ 60
    · rw [g2.1 c2, q_some, if_neg (by decide)]
      by_cases c3 : 0 ≤ da ∧ da ≤ 99
      · rw [g3.1 c3, q_some, if_neg (by decide), i_add, it_le (by omega) (by omega) (by omega) (by omega)]
        by_cases c4 : mo + da ≤ 0
        · rw [if_pos c4]; exact ⟨fun q => by omega, fun _ => rfl⟩
        · rw [if_neg c4]; exact ⟨fun _ => rfl, fun q => by omega⟩
      · rw [g3.2 c3]; exact ⟨fun q => by omega, fun _ => rfl⟩
    · rw [g2.2 c2]; exact ⟨fun q => by omega, fun _ => rfl⟩
  · rw [g1.2 c1]; exact ⟨fun q => by omega, fun _ => rfl⟩
def imA (A : AA) (c : Nat) (kd mo da pa : Int) : AA := aU (aU (aU (aU (aU (aU (aU A 17 c kd) 18 c mo) 19 c da) 20 c (A 0 1)) 21 c (A 0 1)) 22 c pa) 0 6 (A 0 6 + 1)
theorem WF_im {A : AA} (h : WF A) {c : Nat} (hc : (c : Int) = A 0 6) (hc2 : A 0 6 < 10) {kd mo da pa : Int} (hs : okS kd mo da) (hpa : -1 ≤ pa ∧ pa < A 0 6) (hps : 0 ≤ pa → A 23 pa.toNat = 0) : WF (imA A c kd mo da pa) := by
  unfold WF at h ⊢
  unfold imA
  simp (disch := decide) only [aU_r, aU_s, aU_k]
  obtain ⟨h1, h2, h3, h4, h5, h6, h7, h8, h9, h10, h11⟩ := h
  obtain ⟨s1, s2, s3, s4⟩ := hs
  refine ⟨h1, by omega, h3, h4, h5, fun t ht => ?_, fun t ht => h7 t (by omega), fun j hj => ?_, h9, h10, h11⟩
  · by_cases q : t = c
    · subst q
      rw [aU_s, aU_s, aU_s, aU_s, aU_s, aU_s]
      exact ⟨s1, s2, s3, h1, h1, by omega, Or.inl (h7 t (by omega)), fun _ q2 => hps q2⟩
    · rw [aU_k q, aU_k q, aU_k q, aU_k q, aU_k q, aU_k q]
      exact h6 t (by omega)
  · have := h8 j hj
    omega
theorem MX_im {x : SX} {A : AA} (h : WF A) (hM : MX x A) {c : Nat} (hc : (c : Int) = A 0 6) {kd mo da pa : Int} : MX (si (si (si (si (si (si (si x 10 c (iI kd)) 11 c (iI mo)) 12 c (iI da)) 13 c (iI (A 0 1))) 14 c (iI pa)) 15 c (iI (A 0 1))) 1 7 (iI (A 0 6 + 1))) (imA A c kd mo da pa) := by
  obtain ⟨m8, m9, m10, m17, m25, m33, m40, mR, mR0, r10, r11, r12, r13, r14, r15, r16, r30, r31, r32, r35, r36, r37⟩ := hM
  unfold MX imA
  simp (disch := decide) only [sg_r, sg_s, sg_k, aU_r, aU_s, aU_k]
  refine ⟨m8, m9, m10, trivial, m25, m33, m40, mR, mR0, up r10, up r11, up r12, up r13, up r14, fun t ht q1 q2 => ?_, r16, r30, r31, r32, r35, r36, r37⟩
  by_cases q : t = c
  · subst q
    rw [aU_s, sg_s]
  · rw [aU_k q] at q2 ⊢
    rw [sg_k q]
    exact r15 t (by omega) q1 q2
theorem imp_core {x z : SX} {A : AA} {t : Nat → Nat} {k : Nat} (h : WF A) (hM : MX x A) (hW : WX x A) (hz : MZ z A) (hT : HT A t k) (hc2 : A 0 6 < 10) {kd mo da pa : Int} (hs : okS kd mo da) (hpa : -1 ≤ pa ∧ pa < A 0 6) (hps : 0 ≤ pa → A 23 pa.toNat = 0) : ∃ x' z' : SX, f_X6_addTerm 40000 x (iI pa) (iI kd) (iI mo) (iI da) = some (iI (A 0 6), x') ∧ f_X7_imposes 40000 z (iI pa) (iI kd) (iI mo) (iI da) = some (iI (A 0 6), z') ∧ z'.1 0 0 = z.1 0 0 ∧ Rel x' t k z' := by
  have w6 := h.2.1
  obtain ⟨c, hc⟩ : ∃ c : Nat, (c : Int) = A 0 6 := ⟨(A 0 6).toNat, by omega⟩
  have hWF := WF_im h hc hc2 hs hpa hps
  have hMX := MX_im h hM hc (kd := kd) (mo := mo) (da := da) (pa := pa)
  have e12 : imA A c kd mo da pa 12 = A 12 := by
    unfold imA
    simp (disch := decide) only [aU_r]
  have e26 : imA A c kd mo da pa 0 26 = A 0 26 := by
    unfold imA
    simp (disch := decide) only [aU_r, aU_k]
  obtain ⟨x', g1, g2, g3, g4, -⟩ := xq_settle (Nat.le_refl 40000) hWF hMX (by
    unfold WX at hW ⊢
    rw [e12]
    exact hW)
  have hz' : MZ (si (si (si (si (si (si (si z 17 c (iI kd)) 18 c (iI mo)) 19 c (iI da)) 20 c (iI (A 0 1))) 21 c (iI (A 0 1))) 22 c (iI pa)) 0 6 (iI (A 0 6 + 1))) (imA A c kd mo da pa) := MZ_put (MZ_put (MZ_put (MZ_put (MZ_put (MZ_put (MZ_put hz))))))
  obtain ⟨z', k1, k2, k3, k4⟩ := works (Nat.le_refl 40000) hWF hz'
  have m17 := hM.2.2.2.1
  refine ⟨x', z', ?_, ?_, ?_, ⟨_, hWF, g2, g4, g3, k2, k3, HT_c e26 (fun d _ => by rw [e12]) hT⟩⟩
  · unfold f_X6_addTerm f_X5_add
    rw [hM.1]
    rw [m17, ← hc, i_gd (by omega) (by omega) (by decide), i_clN (by omega), q_nm, sg_r (by decide), m17, ← hc, i_gd (by omega) (by omega) (by decide), i_clN (by omega), q_nm, sg_r (by decide), sg_r (by decide), m17, ← hc, i_gd (by omega) (by omega) (by decide), i_clN (by omega), q_nm, sg_r (by decide), sg_r (by decide), sg_r (by decide), m17, ← hc, i_gd (by omega) (by omega) (by decide), i_clN (by omega), q_nm, sg_r (by decide), sg_r (by decide), sg_r (by decide), sg_r (by decide), m17, ← hc, i_gd (by omega) (by omega) (by decide), i_clN (by omega), q_nm, sg_r (by decide), sg_r (by decide), sg_r (by decide), sg_r (by decide), sg_r (by decide), m17, ← hc, i_gd (by omega) (by omega) (by decide), i_clN (by omega), q_nm, sg_r (by decide), sg_r (by decide), sg_r (by decide), sg_r (by decide), sg_r (by decide), sg_r (by decide), m17, ← hc, i_1, q_nm, sg_s, show iI ((c : Int) + 1) - 1 = iI ((c : Int) + 1 - 1) from i_sub _ 1, show (c : Int) + 1 - 1 = c by omega, q_some2]
    rw [← hc] at g1
    rw [g1, q_some]
  · unfold f_X7_imposes
    rw [hz 0 6 rfl, ← hc, q_nm, i_gd (by omega) (by omega) (by decide), i_clN (by omega), q_nm, q_nm, q_nm, sg_r (by decide), sg_r (by decide), sg_r (by decide), hz 0 1 rfl, q_nm, sg_r (by decide), sg_r (by decide), sg_r (by decide), sg_r (by decide), hz 0 1 rfl, q_nm, q_nm, sg_r (by decide), sg_r (by decide), sg_r (by decide), sg_r (by decide), sg_r (by decide), sg_r (by decide), hz 0 6 rfl, ← hc, i_1, q_nm]
    rw [← hc] at k1
    rw [k1, q_some]
  · rw [k4 0 0 (Or.inl ⟨rfl, Or.inl (by decide)⟩), sg_k (by decide), sg_r (by decide), sg_r (by decide), sg_r (by decide), sg_r (by decide), sg_r (by decide), sg_r (by decide)]
theorem ck_room {n : Nat} {x : SX} {A : AA} (h : WF A) (hM : MX x A) : f_X6_checkRoomForTerm n x = if A 0 6 < 10 then some 0 else some 2 := by
  have w6 := h.2.1
  unfold f_X6_checkRoomForTerm
  rw [hM.2.2.2.1, show (10 : Int32) = iI 10 from rfl, it_lt (by omega) (by omega) (by omega) (by omega)]
theorem sp_impose : SP_impose Rel := by
  intro x t k z a1 a2 a3 hR
  have hR' := hR
  obtain ⟨A, h, hM, hD, hW, hz, hDz, hT⟩ := hR
  have w6 := h.2.1
  obtain ⟨kd, k1, k2, rfl⟩ := i_of a1
  obtain ⟨mo, m1, m2, rfl⟩ := i_of a2
  obtain ⟨da, d1, d2, rfl⟩ := i_of a3
  have e := c_ckS (n := 40000) k1 k2 m1 m2 d1 d2
  have g := d_ckS (n := 40000) (z := z) k1 k2 m1 m2 d1 d2
  have er := ck_room (n := 40000) h hM
  by_cases c : okS kd mo da
  · by_cases c2 : A 0 6 < 10
    · obtain ⟨x', z', i1, i2, i3, i4⟩ := imp_core h hM hW (z := si z 0 0 0) (MZ_scr hz rfl) hT c2 c (pa := -1) (by omega) (fun q => by omega)
      refine ⟨40000, x', 0, iI (A 0 6), 0, 40000, iI (A 0 6), z', ?_, Or.inl ⟨rfl, rfl⟩, ?_, i3.trans sg_s, fun _ => rfl, i4⟩
      · unfold f_X6_impose
        rw [if_pos c2] at er
        rw [e.1 c, q_x0, er, q_x0, show (-1 : Int32) = iI (-1) from rfl, i1, q_some2]
      · unfold f_X7_impose
        rw [g.1 c, q_some, if_neg (by decide), hz 0 6 rfl, show (10 : Int32) = iI 10 from rfl, it_eq (by omega) (by omega) (by omega) (by omega), if_neg (by omega), q_some, d_fails0, q_some2, if_pos rfl, show (-1 : Int32) = iI (-1) from rfl, i2, q_some2]
    · refine ⟨40000, x, 2, 0, 2, 40000, 0, si z 0 0 2, ?_, Or.inr (Or.inr ⟨rfl, rfl⟩), ?_, sg_s, fun q => absurd q (by decide), hR'.th 2⟩
      · unfold f_X6_impose
        rw [if_neg c2] at er
        rw [e.1 c, q_x0, er]
        rfl
      · unfold f_X7_impose
        rw [g.1 c, q_some, if_neg (by decide), hz 0 6 rfl, show (10 : Int32) = iI 10 from rfl, it_eq (by omega) (by omega) (by omega) (by omega), if_pos (by omega)]
        rfl
  · refine ⟨40000, x, 1, 0, 1, 40000, 0, si z 0 0 1, ?_, Or.inr (Or.inl ⟨rfl, rfl⟩), ?_, sg_s, fun q => absurd q (by decide), hR'.th 1⟩
    · unfold f_X6_impose
      rw [e.2 c]
      rfl
    · unfold f_X7_impose
      rw [g.2 c]
      rfl
theorem d_canF {n : Nat} {z : SX} {A : AA} (h : WF A) (hz : MZ z A) (hDz : DZ z A) {s : Nat} (hs : (s : Int) < A 0 6) : (A 0 6 < 10 ∧ A 23 s = 0 ∧ A 0 1 < rlZ A s → f_X7_canFollow n z (iI s) = some 1) ∧ (¬ (A 0 6 < 10 ∧ A 23 s = 0 ∧ A 0 1 < rlZ A s) → f_X7_canFollow n z (iI s) = some 0) := by
  have w6 := h.2.1
  have w1 := h.1
  unfold f_X7_canFollow
  rw [hz 0 6 rfl, show (10 : Int32) = iI 10 from rfl, it_le (by omega) (by omega) (by omega) (by omega)]
  by_cases c1 : 10 ≤ A 0 6
  · rw [if_pos c1]; exact ⟨fun q => by omega, fun _ => rfl⟩
  · rw [if_neg c1]
    by_cases c2 : A 23 s = 0
    · have hr := rl_in h hs
      rw [d_isIn1 hz (by omega) c2, q_some, if_neg (by decide), i_gd (by omega) (by omega) (by decide), i_clN (by omega), (hDz s hs c2).2.2.2.2.2.2.2.2.1, hz 0 1 rfl, it_le (by omega) (by omega) (by omega) (by omega)]
      by_cases c3 : rlZ A s ≤ A 0 1
      · rw [if_pos c3]; exact ⟨fun q => by omega, fun _ => rfl⟩
      · rw [if_neg c3]; exact ⟨fun _ => rfl, fun q => by omega⟩
    · rw [d_isIn0 h hz (by omega) c2]; exact ⟨fun q => absurd q.2.1 c2, fun _ => rfl⟩
theorem sp_imposeConsecutive : SP_imposeConsecutive Rel := by
  intro x t k z a0 a1 a2 a3 hR
  have hR' := hR
  obtain ⟨A, h, hM, hD, hW, hz, hDz, hT⟩ := hR
  have w6 := h.2.1
  have w1 := h.1
  obtain ⟨kd, k1, k2, rfl⟩ := i_of a1
  obtain ⟨mo, m1, m2, rfl⟩ := i_of a2
  obtain ⟨da, d1, d2, rfl⟩ := i_of a3
  have e := c_ckS (n := 40000) k1 k2 m1 m2 d1 d2
  have g := d_ckS (n := 40000) (z := z) k1 k2 m1 m2 d1 d2
  have er := ck_room (n := 40000) h hM
  have r16 := hM.2.2.2.2.2.2.2.2.2.2.2.2.2.2.2.1
  rcases t_cases h hM hz a0 with ⟨s, rfl, hs, e1, e2⟩ | ⟨e1, e2⟩
  · have hq := q_23 h s
    by_cases c : okS kd mo da
    · have f := d_canF (n := 40000) h hz hDz hs
      by_cases c2 : A 0 6 < 10 ∧ A 23 s = 0 ∧ A 0 1 < rlZ A s
      · obtain ⟨x', z', i1, i2, i3, i4⟩ := imp_core h hM hW (z := si z 0 0 0) (MZ_scr hz rfl) hT c2.1 c (pa := s) (by omega) (fun _ => c2.2.1)
        have hr := rl_in h hs
        refine ⟨40000, x', 0, iI (A 0 6), 0, 40000, iI (A 0 6), z', ?_, Or.inl ⟨rfl, rfl⟩, ?_, i3.trans sg_s, fun _ => rfl, i4⟩
        · unfold f_X6_imposeConsecutive
          rw [if_pos c2.1] at er
          rw [e1, q_x0, e.1 c, q_x0, er, q_x0, i_gd (by omega) (by omega) (by decide), i_clN (by omega), r16, c2.2.1, if_pos (show iI 0 = (0 : Int32) from rfl), c_relIn (Nat.le_refl _) h hM hD hs c2.2.1, q_some, hM.1, it_lt (by omega) (by omega) (by omega) (by omega), if_pos c2.2.2, i1, q_some2]
        · unfold f_X7_imposeConsecutive
          rw [e2, q_some, if_neg (by decide), g.1 c, q_some, if_neg (by decide), f.1 c2, q_some, if_neg (by decide), q_some, d_fails0, q_some2, if_pos rfl, i2, q_some2]
      · refine ⟨40000, x, 2, 0, 3, 40000, 0, si z 0 0 3, ?_, Or.inr (Or.inr (Or.inr ⟨rfl, rfl⟩)), ?_, sg_s, fun q => absurd q (by decide), hR'.th 3⟩
        · unfold f_X6_imposeConsecutive
          rw [e1, q_x0, e.1 c, q_x0]
          by_cases c3 : A 0 6 < 10
          · rw [if_pos c3] at er
            rw [er, q_x0, i_gd (by omega) (by omega) (by decide), i_clN (by omega), r16, show (0 : Int32) = iI 0 from rfl, it_eq (by omega) (by omega) (by omega) (by omega)]
            by_cases c4 : A 23 s = 0
            · have hr := rl_in h hs
              rw [if_pos c4, c_relIn (Nat.le_refl _) h hM hD hs c4, q_some, hM.1, it_lt (by omega) (by omega) (by omega) (by omega), if_neg (fun q => c2 ⟨c3, c4, q⟩)]
            · rw [if_neg c4]
          · rw [if_neg c3] at er
            rw [er]
            rfl
        · unfold f_X7_imposeConsecutive
          rw [e2, q_some, if_neg (by decide), g.1 c, q_some, if_neg (by decide), f.2 c2]
          rfl
    · refine ⟨40000, x, 1, 0, 2, 40000, 0, si z 0 0 2, ?_, Or.inr (Or.inr (Or.inl ⟨rfl, rfl⟩)), ?_, sg_s, fun q => absurd q (by decide), hR'.th 2⟩
      · unfold f_X6_imposeConsecutive
        rw [e1, q_x0, e.2 c]
        rfl
      · unfold f_X7_imposeConsecutive
        rw [e2, q_some, if_neg (by decide), g.2 c]
        rfl
  · refine ⟨40000, x, 3, 0, 1, 40000, 0, si z 0 0 1, ?_, Or.inr (Or.inl ⟨rfl, rfl⟩), ?_, sg_s, fun q => absurd q (by decide), hR'.th 1⟩
    · unfold f_X6_imposeConsecutive
      rw [e1]
      rfl
    · unfold f_X7_imposeConsecutive
      rw [e2]
      rfl
