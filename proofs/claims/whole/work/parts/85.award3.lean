/-! ===== award, recall ===== -/
theorem WF_aw {A B : AA} (h : WF A) (e : ∀ r, r ≠ 0 → r ≠ 29 → r ≠ 30 → r ≠ 31 → B r = A r) (e0 : ∀ j, j ≠ 18 → B 0 j = A 0 j) (h18 : 0 ≤ B 0 18 ∧ B 0 18 ≤ 8) (haw : ∀ k : Nat, (k : Int) < B 0 18 → (0 ≤ B 29 k ∧ B 29 k ≤ 42) ∧ (0 ≤ B 30 k ∧ B 30 k < 1024) ∧ (-1 ≤ B 31 k ∧ B 31 k < A 0 22)) : WF B := by
  unfold WF at h ⊢
  rw [e0 1 (by decide), e0 4 (by decide), e0 5 (by decide), e0 6 (by decide), e0 14 (by decide), e0 22 (by decide), e0 23 (by decide), e0 24 (by decide), e0 25 (by decide), e0 26 (by decide), e 12 (by decide) (by decide) (by decide) (by decide), e 13 (by decide) (by decide) (by decide) (by decide), e 17 (by decide) (by decide) (by decide) (by decide), e 18 (by decide) (by decide) (by decide) (by decide), e 19 (by decide) (by decide) (by decide) (by decide), e 20 (by decide) (by decide) (by decide) (by decide), e 21 (by decide) (by decide) (by decide) (by decide), e 22 (by decide) (by decide) (by decide) (by decide), e 23 (by decide) (by decide) (by decide) (by decide), e 25 (by decide) (by decide) (by decide) (by decide), e 26 (by decide) (by decide) (by decide) (by decide), e 27 (by decide) (by decide) (by decide) (by decide)]
  obtain ⟨h1, h2, h3, h4, h5, h6, h7, h8, h9, h10, h11⟩ := h
  exact ⟨h1, h2, h3, h18, h5, h6, h7, h8, haw, h10, h11⟩
def awA (A : AA) (k : Nat) (v m rc : Int) : AA := aU (aU (aU (aU A 29 k v) 30 k m) 31 k rc) 0 18 (A 0 18 + 1)
theorem awA_r {A : AA} {k : Nat} {v m rc : Int} : ∀ r, r ≠ 0 → r ≠ 29 → r ≠ 30 → r ≠ 31 → awA A k v m rc r = A r := fun r h0 h1 h2 h3 => by
  unfold awA
  rw [aU_r h0, aU_r h3, aU_r h2, aU_r h1]
theorem awA_0 {A : AA} {k : Nat} {v m rc : Int} : ∀ j, j ≠ 18 → awA A k v m rc 0 j = A 0 j := fun j hj => by
  unfold awA
  rw [aU_k hj, aU_r (by decide), aU_r (by decide), aU_r (by decide)]
theorem awA_18 {A : AA} {k : Nat} {v m rc : Int} : awA A k v m rc 0 18 = A 0 18 + 1 := by
  unfold awA
  rw [aU_s]
theorem awA_x {A : AA} {k : Nat} {v m rc : Int} (j : Nat) : awA A k v m rc 29 j = (if j = k then v else A 29 j) ∧ awA A k v m rc 30 j = (if j = k then m else A 30 j) ∧ awA A k v m rc 31 j = (if j = k then rc else A 31 j) := by
  unfold awA
  simp (disch := decide) only [aU_r]
  by_cases c : j = k
  · rw [c, if_pos rfl, if_pos rfl, if_pos rfl, aU_s, aU_s, aU_s]
    exact ⟨rfl, rfl, rfl⟩
  · rw [if_neg c, if_neg c, if_neg c, aU_k c, aU_k c, aU_k c]
    exact ⟨rfl, rfl, rfl⟩
theorem sp_award : SP_award Rel := by
  intro x t k z a hR
  have hR' := hR
  obtain ⟨A, h, hM, hD, hW, hz, hDz, hT⟩ := hR
  have w1 := h.1
  have w6 := h.2.1
  have w18 := h.2.2.2.1
  have w22 := h.2.2.2.2.1
  obtain ⟨v, v1, v2, rfl⟩ := i_of a
  have e1 := c_ckAw (n := 40000) v1 v2
  have g := d_in_ (n := 40000) (a := v) (b := 1) (c := 42) v1 v2 (by omega) (by omega) (by omega) (by omega)
  obtain ⟨s1, s2, s3, -⟩ := st_in A
  have m33 := hM.2.2.2.2.2.1
  have m40 := hM.2.2.2.2.2.2.1
  have hrw : A 0 1 < rcE A → 0 < A 0 22 := fun q => by
    refine Classical.byContradiction fun q2 => ?_
    unfold rcE at q
    rw [if_pos (by omega)] at q
    omega
  by_cases c : 1 ≤ v ∧ v ≤ 42
  · obtain ⟨u, e2, u1, u2, u3⟩ := c_custodyEnd (Nat.le_refl 40000) h hM hD
    by_cases c2 : stA A = 2 ∧ A 0 18 < 8
    · have c3 := s3.mp c2.1
      have hmask := un_lt h
      obtain ⟨p, ep⟩ : ∃ p : Nat, (p : Int) = A 0 18 := ⟨(A 0 18).toNat, by omega⟩
      obtain ⟨rc, erc⟩ : ∃ rc : Int, rc = if A 0 1 < rcE A then A 0 22 - 1 else -1 := ⟨_, rfl⟩
      have hrc : -1 ≤ rc ∧ rc < A 0 22 := by
        rw [erc]
        by_cases q : A 0 1 < rcE A
        · have := hrw q
          rw [if_pos q]; omega
        · rw [if_neg q]; omega
      have hWF : WF (awA A p v (unM A : Nat) rc) := WF_aw h awA_r awA_0 (by rw [awA_18]; omega) fun j hj => by
        rw [awA_18] at hj
        rw [(awA_x j).1, (awA_x j).2.1, (awA_x j).2.2]
        by_cases q : j = p
        · rw [if_pos q, if_pos q, if_pos q]; omega
        · rw [if_neg q, if_neg q, if_neg q]; exact h.aw j (by omega)
      have hMX : MX (si (si (si (si x 35 p (iI v)) 36 p (iI (unM A : Nat))) 37 p (iI rc)) 3 3 (iI (A 0 18 + 1))) (awA A p v (unM A : Nat) rc) := MX_018 (MX_31 (MX_30 (MX_29 hM)))
      have d1 : ER1 A (awA A p v (unM A : Nat) rc) := ⟨awA_r 17 (by decide) (by decide) (by decide) (by decide), awA_r 18 (by decide) (by decide) (by decide) (by decide), awA_r 19 (by decide) (by decide) (by decide) (by decide), awA_r 21 (by decide) (by decide) (by decide) (by decide), awA_r 22 (by decide) (by decide) (by decide) (by decide), awA_r 23 (by decide) (by decide) (by decide) (by decide), awA_0 6 (by decide)⟩
      have d2 : ER2 A (awA A p v (unM A : Nat) rc) := ⟨awA_0 14 (by decide), awA_r 25 (by decide) (by decide) (by decide) (by decide), awA_r 26 (by decide) (by decide) (by decide) (by decide), awA_r 27 (by decide) (by decide) (by decide) (by decide), fun d _ => by rw [awA_r 12 (by decide) (by decide) (by decide) (by decide)]⟩
      have hDX : DX (si (si (si (si x 35 p (iI v)) 36 p (iI (unM A : Nat))) 37 p (iI rc)) 3 3 (iI (A 0 18 + 1))) (awA A p v (unM A : Nat) rc) := DX_c h d1 d2 (by
        unfold DX at hD ⊢
        simp (disch := decide) only [sg_r]
        exact hD)
      have hz0 : MZ (si z 0 0 0) A := MZ_scr hz rfl
      have hz5 : MZ (si (si (si z 0 0 0) 29 p (iI v)) 30 p (iI (unM A : Nat))) (aU (aU A 29 p v) 30 p (unM A : Nat)) := MZ_put (MZ_put hz0)
      have hz12 : MZ (si (si (si (si (si z 0 0 0) 29 p (iI v)) 30 p (iI (unM A : Nat))) 31 p (iI rc)) 0 18 (iI (A 0 18 + 1))) (awA A p v (unM A : Nat) rc) := MZ_put (MZ_put hz5)
      obtain ⟨z', k1, k2, k3, k4⟩ := works (Nat.le_refl 40000) hWF hz12
      have hWF5 : WF (aU (aU A 29 p v) 30 p (unM A : Nat)) := WF_aw h (fun r h0 h1 h2 h3 => by rw [aU_r h2, aU_r h1]) (fun j hj => by rw [aU_r (by decide), aU_r (by decide)]) (by rw [aU_r (by decide), aU_r (by decide)]; omega) fun j hj => by
        rw [aU_r (by decide), aU_r (by decide)] at hj
        have q : j ≠ p := by omega
        rw [aU_r (r' := 29) (by decide), aU_k q, aU_k q, aU_r (r' := 30) (by decide), aU_r (r' := 31) (by decide), aU_r (r' := 31) (by decide)]
        exact h.aw j hj
      have hrc5 : rcE (aU (aU A 29 p v) 30 p (unM A : Nat)) = rcE A := by
        have e5 : arZ (aU (aU A 29 p v) 30 p (unM A : Nat)) = arZ A := by
          unfold arZ
          simp (disch := decide) only [aU_r]
          refine fb_si_cong fun j hj => ?_
          rw [aU_k (show j ≠ p by omega)]
        unfold rcE
        rw [e5]
        simp (disch := decide) only [aU_r]
      have er : f_X7_isRecalled 40000 (si (si (si z 0 0 0) 29 p (iI v)) 30 p (iI (unM A : Nat))) = some (if A 0 1 < rcE A then 1 else 0) := by
        have e5 := d_recalled (Nat.le_refl 40000) hWF5 hz5
        rw [hrc5] at e5
        simp (disch := decide) only [aU_r] at e5
        by_cases q : A 0 1 < rcE A
        · rw [if_pos q]; exact e5.1 q
        · rw [if_neg q]; exact e5.2 q
      refine ⟨40000, _, 0, iI (A 0 18), 0, 40000, iI (A 0 18), z', ?_, Or.inl ⟨rfl, rfl⟩, ?_, ?_, fun _ => rfl, ⟨awA A p v (unM A : Nat) rc, hWF, hMX, hDX, ?_, k2, k3, HT_c (awA_0 26 (by decide)) (fun d _ => by rw [awA_r 12 (by decide) (by decide) (by decide) (by decide)]) hT⟩⟩
      · have eru := c_running (Nat.le_refl 40000) h hM
        have er2 : f_X6_recallIsRunning 40000 x = some (if A 0 1 < rcE A then 1 else 0) := by
          unfold runs at eru
          by_cases q : A 0 1 < rcE A
          · rw [if_pos q]; exact eru.1 ⟨hrw q, q⟩
          · rw [if_neg q]; exact eru.2 (fun q2 => q q2.2)
        have er3 : (if (if A 0 1 < rcE A then (1 : Int32) else 0) = 0 then some (-1 : Int32) else some (x.1 4 0)) = some (iI rc) := by
          rw [erc, m40]
          by_cases q : A 0 1 < rcE A
          · rw [if_pos q, if_pos q, if_neg (by decide)]
          · rw [if_neg q, if_neg q, if_pos rfl]; rfl
        unfold f_X6_award
        rw [e1.1 c, q_x0, e2, q_some, hM.1, it_le (by omega) (by omega) (by omega) (by omega), if_neg (by omega), m33, show (8 : Int32) = iI 8 from rfl, it_lt (by omega) (by omega) (by omega) (by omega), if_pos c2.2, er2, q_some, er3, q_some, c_un (Nat.le_refl _) h hM hD, q_some]
        unfold f_X0_add
        rw [m33, ← ep, i_gd (by omega) (by omega) (by decide), i_clN (by omega), q_nm, sg_r (by decide), m33, ← ep, i_gd (by omega) (by omega) (by decide), i_clN (by omega), q_nm, sg_r (by decide), sg_r (by decide), m33, ← ep, i_gd (by omega) (by omega) (by decide), i_clN (by omega), q_nm, sg_r (by decide), sg_r (by decide), sg_r (by decide), m33, ← ep, i_1, q_nm, sg_s, show iI ((p : Int) + 1) - 1 = iI ((p : Int) + 1 - 1) from i_sub _ 1, show (p : Int) + 1 - 1 = p by omega, q_some2, i_N (unM A)]
      · unfold f_X7_award
        rw [show (1 : Int32) = iI 1 from rfl, show (42 : Int32) = iI 42 from rfl, g.1 c, q_some, if_neg (by decide), d_status (Nat.le_refl _) h hz hDz, q_some, show (2 : Int32) = iI 2 from rfl, it_eq (by omega) (by omega) (by omega) (by omega), if_pos c2.1, hz 0 18 rfl, show (8 : Int32) = iI 8 from rfl, it_eq (by omega) (by omega) (by omega) (by omega), if_neg (by omega), q_some, d_fails0, q_some2, if_pos rfl, d_unA (Nat.le_refl _) h hz0 (DZ_scr hDz (by omega))]
        unfold f_X7_awards_e49
        rw [hz0 0 18 rfl, ← ep, i_gd (by omega) (by omega) (by decide), i_clN (by omega), q_nm, sg_r (by decide), hz0 0 18 rfl, ← ep, i_gd (by omega) (by omega) (by decide), i_clN (by omega), q_nm, ← i_N, er, q_some, sg_r (by decide), sg_r (by decide), hz0 0 18 rfl, hz0 0 22 rfl, ← ep, i_qin (by omega) (by omega) (by decide), i_clN (by omega)]
        simp only [q_gdt]
        have er3 : (if (if A 0 1 < rcE A then (1 : Int32) else 0) = 0 then some (-1 : Int32) else some (iI (A 0 22) - 1)) = some (iI rc) := by
          rw [erc, show iI (A 0 22) - 1 = iI (A 0 22 - 1) from i_sub _ 1]
          by_cases q : A 0 1 < rcE A
          · rw [if_pos q, if_pos q, if_neg (by decide)]
          · rw [if_neg q, if_neg q, if_pos rfl]; rfl
        rw [er3, q_some, q_nm, sg_r (by decide), sg_r (by decide), sg_r (by decide), hz0 0 18 rfl, i_1, ep, q_nm, k1, q_some, q_some, k2 0 18 rfl, awA_18, i_sub, show A 0 18 + 1 - 1 = A 0 18 by omega]
      · rw [k4 0 0 (Or.inl ⟨rfl, Or.inl (by decide)⟩), sg_k (by decide), sg_r (by decide), sg_r (by decide), sg_r (by decide), sg_s]
      · unfold WX at hW ⊢
        rw [awA_r 12 (by decide) (by decide) (by decide) (by decide)]
        exact hW
    · refine ⟨40000, x, 2, 0, 2, 40000, 0, si z 0 0 2, ?_, Or.inr (Or.inr ⟨rfl, rfl⟩), ?_, sg_s, fun q => absurd q (by decide), hR'.th 2⟩
      · unfold f_X6_award
        rw [e1.1 c, q_x0, e2, q_some, hM.1, it_le (by omega) (by omega) (by omega) (by omega), m33, show (8 : Int32) = iI 8 from rfl, it_lt (by omega) (by omega) (by omega) (by omega)]
        by_cases c4 : u ≤ A 0 1
        · rw [if_pos c4]
        · rw [if_neg c4, if_neg (by omega)]
      · unfold f_X7_award
        rw [show (1 : Int32) = iI 1 from rfl, show (42 : Int32) = iI 42 from rfl, g.1 c, q_some, if_neg (by decide), d_status (Nat.le_refl _) h hz hDz, q_some, show (2 : Int32) = iI 2 from rfl, it_eq (by omega) (by omega) (by omega) (by omega), hz 0 18 rfl, show (8 : Int32) = iI 8 from rfl, it_eq (by omega) (by omega) (by omega) (by omega)]
        by_cases c4 : stA A = 2
        · rw [if_pos c4, if_pos (by omega)]
          rfl
        · rw [if_neg c4]
          rfl
  · refine ⟨40000, x, 1, 0, 1, 40000, 0, si z 0 0 1, ?_, Or.inr (Or.inl ⟨rfl, rfl⟩), ?_, sg_s, fun q => absurd q (by decide), hR'.th 1⟩
    · unfold f_X6_award
      rw [e1.2 c]
      rfl
    · unfold f_X7_award
      rw [show (1 : Int32) = iI 1 from rfl, show (42 : Int32) = iI 42 from rfl, g.2 c]
      rfl
theorem WF_re {A B : AA} (h : WF A) (e : ∀ r, r ≠ 0 → B r = A r) (e0 : ∀ j, j < 22 ∨ 25 < j → B 0 j = A 0 j) (h22 : A 0 22 ≤ B 0 22 ∧ B 0 22 ≤ 6) (hre : 0 < B 0 22 → (0 ≤ B 0 23 ∧ B 0 23 ≤ 14609) ∧ (0 ≤ B 0 24 ∧ B 0 24 ≤ 28) ∧ (0 ≤ B 0 25 ∧ B 0 25 ≤ 1000000)) : WF B := by
  unfold WF at h ⊢
  rw [e0 1 (by decide), e0 4 (by decide), e0 5 (by decide), e0 6 (by decide), e0 14 (by decide), e0 18 (by decide), e0 26 (by decide), e 12 (by decide), e 13 (by decide), e 17 (by decide), e 18 (by decide), e 19 (by decide), e 20 (by decide), e 21 (by decide), e 22 (by decide), e 23 (by decide), e 25 (by decide), e 26 (by decide), e 27 (by decide), e 29 (by decide), e 30 (by decide), e 31 (by decide)]
  obtain ⟨h1, h2, h3, h4, h5, h6, h7, h8, h9, h10, h11⟩ := h
  refine ⟨h1, h2, h3, h4, by omega, h6, h7, h8, fun k hk => ?_, hre, h11⟩
  have := h9 k hk
  omega
def reA (A : AA) (d v l n : Int) : AA := aU (aU (aU (aU A 0 23 d) 0 24 v) 0 25 l) 0 22 n
theorem reA_r {A : AA} {d v l n : Int} : ∀ r, r ≠ 0 → reA A d v l n r = A r := fun r h0 => by
  unfold reA
  rw [aU_r h0, aU_r h0, aU_r h0, aU_r h0]
theorem reA_0 {A : AA} {d v l n : Int} : ∀ j, j < 22 ∨ 25 < j → reA A d v l n 0 j = A 0 j := fun j hj => by
  unfold reA
  rw [aU_k (by omega), aU_k (by omega), aU_k (by omega), aU_k (by omega)]
theorem reA_x {A : AA} {d v l n : Int} : reA A d v l n 0 22 = n ∧ reA A d v l n 0 23 = d ∧ reA A d v l n 0 24 = v ∧ reA A d v l n 0 25 = l := by
  unfold reA
  simp (disch := decide) only [aU_s, aU_k, and_self]
theorem sp_recall : SP_recall Rel := by
  intro x t k z a hR
  have hR' := hR
  obtain ⟨A, h, hM, hD, hW, hz, hDz, hT⟩ := hR
  have w1 := h.1
  have w22 := h.2.2.2.2.1
  have heo := eo_in h
  obtain ⟨v, v1, v2, rfl⟩ := i_of a
  have g := d_in_ (n := 40000) (a := v) (b := 0) (c := 28) v1 v2 (by omega) (by omega) (by omega) (by omega)
  obtain ⟨s1, s2, -, s3⟩ := st_in A
  have m40 := hM.2.2.2.2.2.2.1
  by_cases c : 0 ≤ v ∧ v ≤ 28
  · by_cases c2 : stA A = 1 ∧ A 0 22 < 6
    · obtain ⟨B, eB⟩ : ∃ B : AA, B = reA A (A 0 1) v (eoA A) (A 0 22 + 1) := ⟨_, rfl⟩
      have hr : ∀ r, r ≠ 0 → B r = A r := by rw [eB]; exact reA_r
      have h0 : ∀ j, j < 22 ∨ 25 < j → B 0 j = A 0 j := by rw [eB]; exact reA_0
      have hx : B 0 22 = A 0 22 + 1 ∧ B 0 23 = A 0 1 ∧ B 0 24 = v ∧ B 0 25 = eoA A := by rw [eB]; exact reA_x
      have hWF : WF B := WF_re h hr h0 (by omega) (fun _ => by omega)
      obtain ⟨x', ex⟩ : ∃ x' : SX, x' = si (si (si (si x 4 0 (iI (A 0 22))) 4 1 (iI (A 0 1))) 4 2 (iI v)) 4 3 (iI (eoA A)) := ⟨_, rfl⟩
      have hxr : ∀ r, r ≠ 4 → x'.1 r = x.1 r := fun r hr => by rw [ex, sg_r hr, sg_r hr, sg_r hr, sg_r hr]
      have hx4 : x'.1 4 0 = iI (A 0 22) ∧ x'.1 4 1 = iI (A 0 1) ∧ x'.1 4 2 = iI v ∧ x'.1 4 3 = iI (eoA A) := by
        rw [ex]
        simp (disch := decide) only [sg_s, sg_k, and_self]
      have hMX : MX x' B := by
        obtain ⟨m8, m9, m10, m17, m25, m33, m40, mR, mR0, r10, r11, r12, r13, r14, r15, r16, r30, r31, r32, r35, r36, r37⟩ := hM
        unfold MX
        rw [hxr 0 (by decide), hxr 1 (by decide), hxr 2 (by decide), hxr 3 (by decide), hxr 10 (by decide), hxr 11 (by decide), hxr 12 (by decide), hxr 13 (by decide), hxr 14 (by decide), hxr 15 (by decide), hxr 16 (by decide), hxr 30 (by decide), hxr 31 (by decide), hxr 32 (by decide), hxr 35 (by decide), hxr 36 (by decide), hxr 37 (by decide), h0 1 (by decide), h0 4 (by decide), h0 5 (by decide), h0 6 (by decide), h0 14 (by decide), h0 18 (by decide), hr 17 (by decide), hr 18 (by decide), hr 19 (by decide), hr 20 (by decide), hr 21 (by decide), hr 22 (by decide), hr 23 (by decide), hr 25 (by decide), hr 26 (by decide), hr 27 (by decide), hr 29 (by decide), hr 30 (by decide), hr 31 (by decide), hx.1, hx.2.1, hx.2.2.1, hx.2.2.2, hx4.1, hx4.2.1, hx4.2.2.1, hx4.2.2.2]
        exact ⟨m8, m9, m10, m17, m25, m33, by rw [show A 0 22 + 1 - 1 = A 0 22 by omega], fun _ => ⟨rfl, rfl, rfl⟩, fun q => by omega, r10, r11, r12, r13, r14, r15, r16, r30, r31, r32, r35, r36, r37⟩
      have d1 : ER1 A B := ⟨hr 17 (by decide), hr 18 (by decide), hr 19 (by decide), hr 21 (by decide), hr 22 (by decide), hr 23 (by decide), h0 6 (by decide)⟩
      have d2 : ER2 A B := ⟨h0 14 (by decide), hr 25 (by decide), hr 26 (by decide), hr 27 (by decide), fun d _ => by rw [hr 12 (by decide)]⟩
      have d3 : ER3 A B := ⟨h0 18 (by decide), hr 29 (by decide), hr 30 (by decide)⟩
      have hDX : DX x' B := DX_c h d1 d2 (by
        unfold DX at hD ⊢
        rw [hxr 18 (by decide), hxr 19 (by decide), hxr 20 (by decide), hxr 21 (by decide), hxr 22 (by decide), hxr 23 (by decide), hxr 24 (by decide)]
        exact hD)
      have hz0 : MZ (si z 0 0 0) A := MZ_scr hz rfl
      have hzA : MZ (si (si (si z 0 0 0) 0 23 (iI (A 0 1))) 0 24 (iI v)) (aU (aU A 0 23 (A 0 1)) 0 24 v) := MZ_put (MZ_put hz0)
      have hzB : MZ (si (si (si (si (si z 0 0 0) 0 23 (iI (A 0 1))) 0 24 (iI v)) 0 25 (iI (eoA A))) 0 22 (iI (A 0 22 + 1))) B := by rw [eB]; exact MZ_put (MZ_put hzA)
      have hDz0 : DZ (si (si (si z 0 0 0) 0 23 (iI (A 0 1))) 0 24 (iI v)) A := DZ_scr (DZ_scr (DZ_scr hDz (by omega)) (by omega)) (by omega)
      have hDzB : DZ (si (si (si (si (si z 0 0 0) 0 23 (iI (A 0 1))) 0 24 (iI v)) 0 25 (iI (eoA A))) 0 22 (iI (A 0 22 + 1))) B := DZ_c h d1 d2 d3 (DZ_scr (DZ_scr hDz0 (by omega)) (by omega))
      refine ⟨40000, x', 0, iI (rcE B), 0, 40000, iI (rcE B), _, ?_, Or.inl ⟨rfl, rfl⟩, ?_, ?_, fun _ => rfl, ⟨B, hWF, hMX, hDX, ?_, hzB, hDzB, HT_c (h0 26 (by decide)) (fun d _ => by rw [hr 12 (by decide)]) hT⟩⟩
      · unfold f_X6_recall
        rw [i_0, it_lt (by omega) (by omega) (by omega) (by omega), if_neg (by omega), show (28 : Int32) = iI 28 from rfl, it_le (by omega) (by omega) (by omega) (by omega), if_pos c.2, xq_status (Nat.le_refl _) h hM hD, q_some, show (1 : Int32) = iI 1 from rfl, it_eq (by omega) (by omega) (by omega) (by omega), if_pos c2.1]
        unfold f_X6_recallsMade
        rw [m40, i_1, show A 0 22 - 1 + 1 = A 0 22 by omega, q_some, show (6 : Int32) = iI 6 from rfl, it_lt (by omega) (by omega) (by omega) (by omega), if_pos c2.2, c_ge (Nat.le_refl _) h hM hD, q_some]
        unfold f_X3_replace
        rw [m40, i_1, show A 0 22 - 1 + 1 = A 0 22 by omega, hM.1, q_nm, q_nm, q_nm, q_nm, q_some, ← ex, c_lre (Nat.le_refl _) hWF hMX (by omega), q_some]
      · unfold f_X7_recall
        rw [show (28 : Int32) = iI 28 from rfl, show f_X7_in 40000 (iI v) 0 (iI 28) = some 1 from g.1 c, q_some, if_neg (by decide), d_status (Nat.le_refl _) h hz hDz, q_some, show (1 : Int32) = iI 1 from rfl, it_eq (by omega) (by omega) (by omega) (by omega), if_pos c2.1, hz 0 22 rfl, show (6 : Int32) = iI 6 from rfl, it_eq (by omega) (by omega) (by omega) (by omega), if_neg (by omega), q_some, d_fails0, q_some2, if_pos rfl, hz0 0 1 rfl, q_nm, q_nm]
        have c0 : ∀ j, j < 22 ∨ 25 < j → aU (aU A 0 23 (A 0 1)) 0 24 v 0 j = A 0 j := fun j hj => by rw [aU_k (by omega), aU_k (by omega)]
        have cr : ∀ r, r ≠ 0 → aU (aU A 0 23 (A 0 1)) 0 24 v r = A r := fun r h0 => by rw [aU_r h0, aU_r h0]
        have cx : aU (aU A 0 23 (A 0 1)) 0 24 v 0 22 = A 0 22 ∧ aU (aU A 0 23 (A 0 1)) 0 24 v 0 23 = A 0 1 ∧ aU (aU A 0 23 (A 0 1)) 0 24 v 0 24 = v ∧ aU (aU A 0 23 (A 0 1)) 0 24 v 0 25 = A 0 25 := by
          simp (disch := decide) only [aU_s, aU_k, and_self]
        have hWC : WF (aU (aU A 0 23 (A 0 1)) 0 24 v) := WF_re h cr c0 (by omega) (fun q => by
          have := h.re (by omega)
          omega)
        have e1 : ER1 A (aU (aU A 0 23 (A 0 1)) 0 24 v) := ⟨cr 17 (by decide), cr 18 (by decide), cr 19 (by decide), cr 21 (by decide), cr 22 (by decide), cr 23 (by decide), c0 6 (by decide)⟩
        have e2 : ER2 A (aU (aU A 0 23 (A 0 1)) 0 24 v) := ⟨c0 14 (by decide), cr 25 (by decide), cr 26 (by decide), cr 27 (by decide), fun d _ => by rw [cr 12 (by decide)]⟩
        have e3 : ER3 A (aU (aU A 0 23 (A 0 1)) 0 24 v) := ⟨c0 18 (by decide), cr 29 (by decide), cr 30 (by decide)⟩
        rw [d_eo (Nat.le_refl _) hWC hzA (DZ_c h e1 e2 e3 hDz0), e2.eo h e1, q_some, q_nm, sg_k (by decide), sg_k (by decide), sg_k (by decide), hz0 0 22 rfl, i_add, q_nm, d_rc (Nat.le_refl _) hWF hzB, q_some]
      · rw [sg_k (by decide), sg_k (by decide), sg_k (by decide), sg_k (by decide), sg_s]
      · unfold WX at hW ⊢
        rw [hr 12 (by decide), ex]
        exact hW
    · refine ⟨40000, x, 2, 0, 2, 40000, 0, si z 0 0 2, ?_, Or.inr (Or.inr ⟨rfl, rfl⟩), ?_, sg_s, fun q => absurd q (by decide), hR'.th 2⟩
      · unfold f_X6_recall
        rw [i_0, it_lt (by omega) (by omega) (by omega) (by omega), if_neg (by omega), show (28 : Int32) = iI 28 from rfl, it_le (by omega) (by omega) (by omega) (by omega), if_pos c.2, xq_status (Nat.le_refl _) h hM hD, q_some, show (1 : Int32) = iI 1 from rfl, it_eq (by omega) (by omega) (by omega) (by omega)]
        by_cases c4 : stA A = 1
        · unfold f_X6_recallsMade
          rw [if_pos c4, m40, i_1, show A 0 22 - 1 + 1 = A 0 22 by omega, q_some, show (6 : Int32) = iI 6 from rfl, it_lt (by omega) (by omega) (by omega) (by omega), if_neg (by omega)]
        · rw [if_neg c4]
      · unfold f_X7_recall
        rw [show (28 : Int32) = iI 28 from rfl, show f_X7_in 40000 (iI v) 0 (iI 28) = some 1 from g.1 c, q_some, if_neg (by decide), d_status (Nat.le_refl _) h hz hDz, q_some, show (1 : Int32) = iI 1 from rfl, it_eq (by omega) (by omega) (by omega) (by omega), hz 0 22 rfl, show (6 : Int32) = iI 6 from rfl, it_eq (by omega) (by omega) (by omega) (by omega)]
        by_cases c4 : stA A = 1
        · rw [if_pos c4, if_pos (by omega)]
          rfl
        · rw [if_neg c4]
          rfl
  · refine ⟨40000, x, 1, 0, 1, 40000, 0, si z 0 0 1, ?_, Or.inr (Or.inl ⟨rfl, rfl⟩), ?_, sg_s, fun q => absurd q (by decide), hR'.th 1⟩
    · unfold f_X6_recall
      rw [i_0, it_lt (by omega) (by omega) (by omega) (by omega), show (28 : Int32) = iI 28 from rfl, it_le (by omega) (by omega) (by omega) (by omega)]
      by_cases c4 : v < 0
      · rw [if_pos c4]
      · rw [if_neg c4, if_neg (by omega)]
    · unfold f_X7_recall
      rw [show (28 : Int32) = iI 28 from rfl, show f_X7_in 40000 (iI v) 0 (iI 28) = some 0 from g.2 c]
      rfl
