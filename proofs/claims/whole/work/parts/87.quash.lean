/-! ===== addRemand ===== -/
def rmA (A : AA) (p : Nat) (s a b : Int) : AA := aU (aU (aU (aU A 25 p s) 26 p a) 27 p b) 0 14 (A 0 14 + 1)
theorem WF_rm {A : AA} (h : WF A) {p : Nat} (hp : (p : Int) = A 0 14) (hp2 : A 0 14 < 8) {s a b : Int} (hs : 0 ≤ s ∧ s < A 0 6) (ha : 0 ≤ a) (hb : a ≤ b) (hb2 : b < A 0 1) : WF (rmA A p s a b) := by
  unfold WF at h ⊢
  unfold rmA
  simp (disch := decide) only [aU_r, aU_s, aU_k]
  obtain ⟨h1, h2, h3, h4, h5, h6, h7, h8, h9, h10, h11⟩ := h
  refine ⟨h1, h2, by omega, h4, h5, h6, h7, fun j hj => ?_, h9, h10, h11⟩
  by_cases q : j = p
  · subst q
    rw [aU_s, aU_s, aU_s]
    omega
  · rw [aU_k q, aU_k q, aU_k q]
    exact h8 j (by omega)
theorem sp_addRemand : SP_addRemand Rel := by
  intro x t k z a0 a1 a2 hR
  have hR' := hR
  obtain ⟨A, h, hM, hD, hW, hz, hDz, hT⟩ := hR
  have w6 := h.2.1
  have w1 := h.1
  have w14 := h.2.2.1
  obtain ⟨a, k1, k2, rfl⟩ := i_of a1
  obtain ⟨b, m1, m2, rfl⟩ := i_of a2
  have r16 := hM.2.2.2.2.2.2.2.2.2.2.2.2.2.2.2.1
  have r13 := hM.2.2.2.2.2.2.2.2.2.2.2.2.1
  have m25 := hM.2.2.2.2.1
  have em : (if iI a < 0 then some (0 : Int32) else (if iI b < iI a then some (0 : Int32) else (if (z.1 0 1) ≤ iI b then some (0 : Int32) else some (1 : Int32)))) = some (if 0 ≤ a ∧ a ≤ b ∧ b < A 0 1 then 1 else 0) := by
    rw [hz 0 1 rfl, i_0, it_lt (by omega) (by omega) (by omega) (by omega), it_lt (by omega) (by omega) (by omega) (by omega), it_le (by omega) (by omega) (by omega) (by omega)]
    by_cases c1 : a < 0
    · rw [if_pos c1, if_neg (by omega)]
    · rw [if_neg c1]
      by_cases c2 : b < a
      · rw [if_pos c2, if_neg (by omega)]
      · rw [if_neg c2]
        by_cases c3 : A 0 1 ≤ b
        · rw [if_pos c3, if_neg (by omega)]
        · rw [if_neg c3, if_pos (by omega)]
  rcases t_cases h hM hz a0 with ⟨s, rfl, hs, e1, e2⟩ | ⟨e1, e2⟩
  · have hq := q_23 h s
    have ws := h.te s hs
    by_cases c : 0 ≤ a ∧ a ≤ b ∧ b < A 0 1
    · rw [if_pos c] at em
      have ex : f_X6_addRemand 40000 x (iI s) (iI a) (iI b) = (if A 23 s = 0 then (if A 20 s = A 0 1 then (if A 0 14 < 8 then (qbd (f_X4_add 40000 x (iI s) (iI a) (iI b)) fun x10 => (qbd (f_X6_settle 40000 x10) fun x12 => (qbd (f_X6_greatestEnd 40000 x12) fun r14 => (qbd (f_X3_lowerLimit 40000 x12 r14) fun x16 => some (0, (x16.1 24 s), x16))))) else some (2, (0 : Int32), x)) else some (2, (0 : Int32), x)) else some (2, (0 : Int32), x)) := by
        unfold f_X6_addRemand
        rw [e1, q_x0, i_0, it_lt (by omega) (by omega) (by omega) (by omega), if_neg (by omega), it_lt (by omega) (by omega) (by omega) (by omega), if_neg (by omega), hM.1, it_lt (by omega) (by omega) (by omega) (by omega), if_pos c.2.2, i_gd (by omega) (by omega) (by decide), i_clN (by omega), r16, it_eq (by omega) (by omega) (by omega) (by omega), r13, it_eq (by omega) (by omega) (by omega) (by omega), m25, show (8 : Int32) = iI 8 from rfl, it_lt (by omega) (by omega) (by omega) (by omega)]
      have ec : f_X7_canHaveRemand 40000 z (iI s) = some (if A 23 s = 0 ∧ A 20 s = A 0 1 ∧ A 0 14 < 8 then 1 else 0) := by
        unfold f_X7_canHaveRemand
        by_cases c1 : A 23 s = 0
        · rw [d_isIn1 hz (by omega) c1, q_some, if_neg (by decide), i_gd (by omega) (by omega) (by decide), i_clN (by omega), hz 20 s rfl, hz 0 1 rfl, it_eq (by omega) (by omega) (by omega) (by omega), hz 0 14 rfl, show (8 : Int32) = iI 8 from rfl, it_le (by omega) (by omega) (by omega) (by omega)]
          by_cases c2 : A 20 s = A 0 1
          · rw [if_pos c2]
            by_cases c3 : 8 ≤ A 0 14
            · rw [if_pos c3, if_neg (by omega)]; rfl
            · rw [if_neg c3, if_pos (by omega)]; rfl
          · rw [if_neg c2, if_neg (by omega)]; rfl
        · rw [d_isIn0 h hz (by omega) c1, if_neg (show ¬ (A 23 s = 0 ∧ A 20 s = A 0 1 ∧ A 0 14 < 8) from fun q => c1 q.1)]; rfl
      by_cases c2 : A 23 s = 0 ∧ A 20 s = A 0 1 ∧ A 0 14 < 8
      · rw [if_pos c2] at ec
        rw [if_pos c2.1, if_pos c2.2.1, if_pos c2.2.2] at ex
        obtain ⟨p, hp⟩ : ∃ p : Nat, (p : Int) = A 0 14 := ⟨(A 0 14).toNat, by omega⟩
        have hWF := WF_rm h hp c2.2.2 (s := s) (by omega) c.1 c.2.1 c.2.2
        have hMX : MX (si (si (si (si x 30 p (iI s)) 31 p (iI a)) 32 p (iI b)) 2 5 (iI (A 0 14 + 1))) (rmA A p s a b) := MX_014 (MX_27 (MX_26 (MX_25 hM)))
        have e12 : rmA A p s a b 12 = A 12 := by
          unfold rmA
          simp (disch := decide) only [aU_r]
        have e26 : rmA A p s a b 0 26 = A 0 26 := by
          unfold rmA
          simp (disch := decide) only [aU_r, aU_k]
        have e06 : rmA A p s a b 0 6 = A 0 6 := by
          unfold rmA
          simp (disch := decide) only [aU_r, aU_k]
        have e23 : rmA A p s a b 23 = A 23 := by
          unfold rmA
          simp (disch := decide) only [aU_r]
        obtain ⟨x1, g1, g2, g3, g4, -⟩ := xq_settle (Nat.le_refl 40000) hWF hMX (by
          unfold WX at hW ⊢
          rw [e12]
          exact hW)
        have hz' : MZ (si (si (si (si (si z 0 0 0) 25 p (iI s)) 26 p (iI a)) 27 p (iI b)) 0 14 (iI (A 0 14 + 1))) (rmA A p s a b) := MZ_put (MZ_put (MZ_put (MZ_put (MZ_scr hz rfl))))
        obtain ⟨z1, k1, k2, k3, k4⟩ := works (Nat.le_refl 40000) hWF hz'
        obtain ⟨x2, z2, l1, l2, l3, l4, l5, l6⟩ := lim hWF g2 g4 g3 k2 k3 (HT_c e26 (fun d _ => by rw [e12]) hT)
        have hcd := (g4 s (by rw [e06]; exact hs) (by rw [e23]; exact c2.1)).2.2.2.2.2.2
        have hcd2 := (k3 s (by rw [e06]; exact hs) (by rw [e23]; exact c2.1)).2.2.2.2.2.2.1
        refine ⟨40000, x2, 0, iI (cdZ (rmA A p s a b) s), 0, 40000, iI (cdZ (rmA A p s a b) s), z2, ?_, Or.inl ⟨rfl, rfl⟩, ?_, ?_, fun _ => rfl, l3⟩
        · have ea : f_X4_add 40000 x (iI s) (iI a) (iI b) = some (si (si (si (si x 30 p (iI s)) 31 p (iI a)) 32 p (iI b)) 2 5 (iI (A 0 14 + 1))) := by
            unfold f_X4_add
            rw [m25, ← hp, i_gd (by omega) (by omega) (by decide), i_clN (by omega), q_nm, sg_r (by decide), m25, ← hp, i_gd (by omega) (by omega) (by decide), i_clN (by omega), q_nm, sg_r (by decide), sg_r (by decide), m25, ← hp, i_gd (by omega) (by omega) (by decide), i_clN (by omega), q_nm, sg_r (by decide), sg_r (by decide), sg_r (by decide), m25, ← hp, i_1, q_nm]
          have l1' := qbd_c l1 (fun x16 => some (0, x16.1 24 s, x16))
          rw [ex, ea, q_some, g1, q_some]
          refine l1'.trans ?_
          rw [l4, hcd]
        · unfold f_X7_addRemand
          rw [em, q_some, e2, q_some, if_neg (by decide), if_neg (by decide), ec, q_some, if_neg (by decide), q_some, d_fails0, q_some2, if_pos rfl]
          have hz0 : MZ (si z 0 0 0) A := MZ_scr hz rfl
          rw [hz0 0 14 rfl, ← hp, i_gd (by omega) (by omega) (by decide), i_clN (by omega), q_nm, sg_r (by decide), hz0 0 14 rfl, ← hp, i_gd (by omega) (by omega) (by decide), i_clN (by omega), q_nm, sg_r (by decide), sg_r (by decide), hz0 0 14 rfl, ← hp, i_gd (by omega) (by omega) (by decide), i_clN (by omega), q_nm, sg_r (by decide), sg_r (by decide), sg_r (by decide), hz0 0 14 rfl, i_1, q_nm, k1, q_some, l2, q_some, i_gd (by omega) (by omega) (by decide), i_clN (by omega), l5, hcd2]
        · rw [l6, k4 0 0 (Or.inl ⟨rfl, Or.inl (by decide)⟩), sg_k (by decide), sg_r (by decide), sg_r (by decide), sg_r (by decide), sg_s]
      · rw [if_neg c2] at ec
        refine ⟨40000, x, 2, 0, 3, 40000, 0, si z 0 0 3, ?_, Or.inr (Or.inr (Or.inr ⟨rfl, rfl⟩)), ?_, sg_s, fun q => absurd q (by decide), hR'.th 3⟩
        · rw [ex]
          by_cases c3 : A 23 s = 0
          · rw [if_pos c3]
            by_cases c4 : A 20 s = A 0 1
            · rw [if_pos c4, if_neg (fun q => c2 ⟨c3, c4, q⟩)]
            · rw [if_neg c4]
          · rw [if_neg c3]
        · unfold f_X7_addRemand
          rw [em, q_some, e2, q_some, if_neg (by decide), if_neg (by decide), ec]
          rfl
    · rw [if_neg c] at em
      refine ⟨40000, x, 1, 0, 2, 40000, 0, si z 0 0 2, ?_, Or.inr (Or.inr (Or.inl ⟨rfl, rfl⟩)), ?_, sg_s, fun q => absurd q (by decide), hR'.th 2⟩
      · unfold f_X6_addRemand
        rw [e1, q_x0, show (0 : Int32) = iI 0 from rfl, it_lt (by omega) (by omega) (by omega) (by omega), it_lt (by omega) (by omega) (by omega) (by omega), hM.1, it_lt (by omega) (by omega) (by omega) (by omega)]
        by_cases c1 : a < 0
        · rw [if_pos c1]
        · rw [if_neg c1]
          by_cases c2 : b < a
          · rw [if_pos c2]
          · rw [if_neg c2, if_neg (by omega)]
      · unfold f_X7_addRemand
        rw [em, q_some, e2, q_some, if_neg (by decide), if_pos rfl]
        rfl
  · refine ⟨40000, x, 3, 0, 1, 40000, 0, si z 0 0 1, ?_, Or.inr (Or.inl ⟨rfl, rfl⟩), ?_, sg_s, fun q => absurd q (by decide), hR'.th 1⟩
    · unfold f_X6_addRemand
      rw [e1]
      rfl
    · unfold f_X7_addRemand
      rw [em, q_some, e2]
      rfl
