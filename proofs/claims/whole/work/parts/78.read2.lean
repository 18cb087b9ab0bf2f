/-! ===== the other calls that only read ===== -/
theorem q_x3 {β : Type} (k : Nat) (d : β) (f : Option (Nat × β)) : qxb (some (k + 1)) d f = some (k + 1, d) := rfl
theorem t_cases {x z : SX} {A : AA} (h : WF A) (hM : MX x A) (hz : MZ z A) (a : Int32) : (∃ t : Nat, a = iI t ∧ (t : Int) < A 0 6 ∧ f_X6_checkTerm 40000 x a = some 0 ∧ f_X7_isTerm 40000 z a = some 1) ∨ (f_X6_checkTerm 40000 x a = some 3 ∧ f_X7_isTerm 40000 z a = some 0) := by
  obtain ⟨v, v1, v2, rfl⟩ := i_of a
  have e := c_checkTerm (n := 40000) h hM v1 v2
  have g := d_isTerm (n := 40000) h hz v1 v2
  by_cases c : 0 ≤ v ∧ v < A 0 6
  · obtain ⟨t, rfl⟩ := Int.eq_ofNat_of_zero_le c.1
    exact Or.inl ⟨t, rfl, c.2, e.1 c, g.1 c⟩
  · exact Or.inr ⟨e.2 c, g.2 c⟩
theorem a_cases {x z : SX} {A : AA} (h : WF A) (hM : MX x A) (hz : MZ z A) (a : Int32) : (∃ t : Nat, a = iI t ∧ (t : Int) < A 0 18 ∧ f_X6_checkAward 40000 x a = some 0 ∧ f_X7_isAward 40000 z a = some 1) ∨ (f_X6_checkAward 40000 x a = some 3 ∧ f_X7_isAward 40000 z a = some 0) := by
  obtain ⟨v, v1, v2, rfl⟩ := i_of a
  have e := c_checkAward (n := 40000) h hM v1 v2
  have g := d_isAward (n := 40000) h hz v1 v2
  by_cases c : 0 ≤ v ∧ v < A 0 18
  · obtain ⟨t, rfl⟩ := Int.eq_ofNat_of_zero_le c.1
    exact Or.inl ⟨t, rfl, c.2, e.1 c, g.1 c⟩
  · exact Or.inr ⟨e.2 c, g.2 c⟩
theorem sp_kindOf : SP_kindOf Rel := by
  intro x t k z a hR
  have hR' := hR
  obtain ⟨A, h, hM, hD, hW, hz, hDz, hT⟩ := hR
  have w6 := h.2.1
  rcases t_cases h hM hz a with ⟨s, rfl, hs, e1, e2⟩ | ⟨e1, e2⟩
  · refine ⟨40000, 0, iI (A 17 s), 0, 40000, iI (A 17 s), si z 0 0 0, ?_, Or.inl ⟨rfl, rfl⟩, ?_, sg_s, fun _ => rfl, hR'.th 0⟩
    · unfold f_X6_kindOf
      rw [e1, q_x0, i_gd (by omega) (by omega) (by decide), i_clN (by omega), hM.2.2.2.2.2.2.2.2.2.1 s]
    · unfold f_X7_kindOf
      rw [e2, q_some, if_neg (by decide), q_some, d_fails0, q_some2, if_pos rfl, i_gd (by omega) (by omega) (by decide), i_clN (by omega), sg_r (by decide), hz 17 s rfl, q_some]
  · refine ⟨40000, 3, 0, 1, 40000, 0, si z 0 0 1, ?_, Or.inr ⟨rfl, rfl⟩, ?_, sg_s, fun q => absurd q (by decide), hR'.th 1⟩
    · unfold f_X6_kindOf
      rw [e1]
      rfl
    · unfold f_X7_kindOf
      rw [e2]
      rfl
theorem sp_isQuashed : SP_isQuashed Rel := by
  intro x t k z a hR
  have hR' := hR
  obtain ⟨A, h, hM, hD, hW, hz, hDz, hT⟩ := hR
  have w6 := h.2.1
  have r16 := hM.2.2.2.2.2.2.2.2.2.2.2.2.2.2.2.1
  rcases t_cases h hM hz a with ⟨s, rfl, hs, e1, e2⟩ | ⟨e1, e2⟩
  · rcases (h.te s hs).2.2.2.2.2.2.1 with c | c
    · refine ⟨40000, 0, 0, 0, 40000, 0, si z 0 0 0, ?_, Or.inl rfl, Or.inl ⟨rfl, rfl⟩, ?_, sg_s, fun _ => rfl, hR'.th 0⟩
      · unfold f_X6_isQuashed
        rw [e1, q_x0, i_gd (by omega) (by omega) (by decide), i_clN (by omega), r16, c]
        rfl
      · unfold f_X7_isQuashed
        rw [e2, q_some, if_neg (by decide), q_some, d_fails0, q_some2, if_pos rfl, i_gd (by omega) (by omega) (by decide), i_clN (by omega), sg_r (by decide), hz 23 s rfl, c]
        rfl
    · refine ⟨40000, 0, 1, 0, 40000, 1, si z 0 0 0, ?_, Or.inr rfl, Or.inl ⟨rfl, rfl⟩, ?_, sg_s, fun _ => rfl, hR'.th 0⟩
      · unfold f_X6_isQuashed
        rw [e1, q_x0, i_gd (by omega) (by omega) (by decide), i_clN (by omega), r16, c]
        rfl
      · unfold f_X7_isQuashed
        rw [e2, q_some, if_neg (by decide), q_some, d_fails0, q_some2, if_pos rfl, i_gd (by omega) (by omega) (by decide), i_clN (by omega), sg_r (by decide), hz 23 s rfl, c]
        rfl
  · refine ⟨40000, 3, 0, 1, 40000, 0, si z 0 0 1, ?_, Or.inl rfl, Or.inr ⟨rfl, rfl⟩, ?_, sg_s, fun q => absurd q (by decide), hR'.th 1⟩
    · unfold f_X6_isQuashed
      rw [e1]
      rfl
    · unfold f_X7_isQuashed
      rw [e2]
      rfl
theorem sp_awardDays : SP_awardDays Rel := by
  intro x t k z a hR
  have hR' := hR
  obtain ⟨A, h, hM, hD, hW, hz, hDz, hT⟩ := hR
  have w18 := h.2.2.2.1
  have r35 := hM.2.2.2.2.2.2.2.2.2.2.2.2.2.2.2.2.2.2.2.1
  rcases a_cases h hM hz a with ⟨s, rfl, hs, e1, e2⟩ | ⟨e1, e2⟩
  · refine ⟨40000, 0, iI (A 29 s), 0, 40000, iI (A 29 s), si z 0 0 0, ?_, Or.inl ⟨rfl, rfl⟩, ?_, sg_s, fun _ => rfl, hR'.th 0⟩
    · unfold f_X6_awardDays
      rw [e1, q_x0, i_gd (by omega) (by omega) (by decide), i_clN (by omega), r35 s]
    · unfold f_X7_awardDays
      rw [e2, q_some, if_neg (by decide), q_some, d_fails0, q_some2, if_pos rfl, i_gd (by omega) (by omega) (by decide), i_clN (by omega), sg_r (by decide), hz 29 s rfl, q_some]
  · refine ⟨40000, 3, 0, 1, 40000, 0, si z 0 0 1, ?_, Or.inr ⟨rfl, rfl⟩, ?_, sg_s, fun q => absurd q (by decide), hR'.th 1⟩
    · unfold f_X6_awardDays
      rw [e1]
      rfl
    · unfold f_X7_awardDays
      rw [e2]
      rfl
theorem sp_concerns : SP_concerns Rel := by
  intro x t k z a b hR
  have hR' := hR
  obtain ⟨A, h, hM, hD, hW, hz, hDz, hT⟩ := hR
  have w18 := h.2.2.2.1
  have w6 := h.2.1
  have r36 := hM.2.2.2.2.2.2.2.2.2.2.2.2.2.2.2.2.2.2.2.2.1
  rcases a_cases h hM hz a with ⟨s, rfl, hs, e1, e2⟩ | ⟨e1, e2⟩
  · rcases t_cases h hM hz b with ⟨u, rfl, hu, g1, g2⟩ | ⟨g1, g2⟩
    · have wa := h.aw s hs
      refine ⟨40000, 0, if (A 30 s).toNat.testBit u = true then 1 else 0, 0, 40000, if (A 30 s).toNat.testBit u = true then 1 else 0, si z 0 0 0, ?_, ?_, Or.inl ⟨rfl, rfl⟩, ?_, sg_s, fun _ => rfl, hR'.th 0⟩
      · unfold f_X6_concerns
        rw [e1, q_x0, g1, q_x0, i_gd (by omega) (by omega) (by decide), i_clN (by omega), r36 s, i_nat wa.2.1.1, i_N u, it_bit (by omega)]
        cases (A 30 s).toNat.testBit u <;> rfl
      · cases (A 30 s).toNat.testBit u
        · exact Or.inl rfl
        · exact Or.inr rfl
      · unfold f_X7_concerns
        rw [e2, q_some, if_neg (by decide), g2, q_some, if_neg (by decide), q_some, d_fails0, q_some2, if_pos rfl, i_gd (by omega) (by omega) (by decide), i_clN (by omega), sg_r (by decide), hz 30 s rfl, i_nat wa.2.1.1, it_shr1 (by omega) (by omega)]
        cases (A 30 s).toNat.testBit u <;> rfl
    · refine ⟨40000, 3, 0, 1, 40000, 0, si z 0 0 1, ?_, Or.inl rfl, Or.inr ⟨rfl, rfl⟩, ?_, sg_s, fun q => absurd q (by decide), hR'.th 1⟩
      · unfold f_X6_concerns
        rw [e1, q_x0, g1]
        rfl
      · unfold f_X7_concerns
        rw [e2, q_some, if_neg (by decide), g2]
        rfl
  · refine ⟨40000, 3, 0, 1, 40000, 0, si z 0 0 1, ?_, Or.inl rfl, Or.inr ⟨rfl, rfl⟩, ?_, sg_s, fun q => absurd q (by decide), hR'.th 1⟩
    · unfold f_X6_concerns
      rw [e1]
      rfl
    · unfold f_X7_concerns
      rw [e2]
      rfl
theorem sp_statusOn : SP_statusOn Rel := by
  intro x t k z a hR
  have hR' := hR
  obtain ⟨A, h, hM, hD, hW, hz, hDz, hT⟩ := hR
  have w1 := h.1
  obtain ⟨v, v1, v2, rfl⟩ := i_of a
  have g := d_in_ (n := 40000) (a := v) (b := 0) (c := A 0 1 - 1) v1 v2 (by omega) (by omega) (by omega) (by omega)
  by_cases c : 0 ≤ v ∧ v < A 0 1
  · obtain ⟨d, rfl⟩ := Int.eq_ofNat_of_zero_le c.1
    refine ⟨40000, 0, iI (A 12 d), 0, 40000, iI (A 12 d), si z 0 0 0, ?_, Or.inl ⟨rfl, rfl⟩, ?_, sg_s, fun _ => rfl, hR'.th 0⟩
    · unfold f_X6_statusOn
      rw [hM.1, i_0, it_lt (by omega) (by omega) (by omega) (by omega), it_lt (by omega) (by omega) (by omega) (by omega), if_neg (by omega), if_pos c.2, pastS h hW (by omega), q_some]
    · unfold f_X7_statusOn
      rw [hz 0 1 rfl, show iI (A 0 1) - 1 = iI (A 0 1 - 1) from i_sub _ 1, show f_X7_in 40000 (iI (d : Int)) 0 (iI (A 0 1 - 1)) = some 1 from g.1 (by omega), q_some, if_neg (by decide), q_some, d_fails0, q_some2, if_pos rfl, i_gd (by omega) (by omega) (by decide), i_clN (by omega), sg_r (by decide), hz 12 d rfl, q_some]
  · refine ⟨40000, 1, 0, 1, 40000, 0, si z 0 0 1, ?_, Or.inr ⟨rfl, rfl⟩, ?_, sg_s, fun q => absurd q (by decide), hR'.th 1⟩
    · unfold f_X6_statusOn
      rw [hM.1, show (0 : Int32) = iI 0 from rfl, it_lt (by omega) (by omega) (by omega) (by omega), it_lt (by omega) (by omega) (by omega) (by omega)]
      by_cases c2 : v < 0
      · rw [if_pos c2]
      · rw [if_neg c2, if_neg (by omega)]
    · unfold f_X7_statusOn
      rw [hz 0 1 rfl, show iI (A 0 1) - 1 = iI (A 0 1 - 1) from i_sub _ 1, show f_X7_in 40000 (iI v) 0 (iI (A 0 1 - 1)) = some 0 from g.2 (by omega)]
      rfl
/-! is any term standing -/
theorem d_any_l {n : Nat} {z : SX} {A : AA} (h : WF A) (hz : MZ z A) : ∀ (f t : Nat), (t : Int) ≤ A 0 6 → A 0 6 < t + f → f_X7_isAny_l4 z n f (if fb_ct (fun t => decide (A 23 t = 0)) t = 0 then 0 else 1) (iI t) = some (if nsA A = 0 then 0 else 1) := by
  intro f
  have w6 := h.2.1
  induction f with
  | zero => intro t a b; omega
  | succ f ih =>
    intro t a b
    rw [f_X7_isAny_l4, hz 0 6 rfl, it_le (by omega) (by omega) (by omega) (by omega)]
    by_cases e : A 0 6 ≤ t
    · rw [if_pos e]
      unfold nsA
      rw [show (A 0 6).toNat = t by omega]
      split <;> rfl
    · have i := ih (t + 1) (by omega) (by omega)
      rw [fb_ct_succ] at i
      rw [if_neg e, i_1]
      by_cases c1 : fb_ct (fun t => decide (A 23 t = 0)) t = 0
      · rw [if_pos c1, if_pos rfl]
        by_cases c2 : A 23 t = 0
        · rw [d_isIn1 hz (by omega) c2, q_some, if_neg (by decide), q_some, q_nm]
          rw [decide_eq_true c2, if_pos rfl, if_neg (by omega)] at i
          exact i
        · rw [d_isIn0 h hz (by omega) c2, q_some, if_pos rfl, q_some, q_nm]
          rw [decide_eq_false c2, if_neg (show ¬ (false = true) by decide), if_pos (by omega)] at i
          exact i
      · rw [if_neg c1, if_neg (by decide), q_some, q_nm]
        rw [if_neg (by omega)] at i
        exact i
theorem d_any {n : Nat} (hn : 40000 ≤ n) {z : SX} {A : AA} (h : WF A) (hz : MZ z A) : f_X7_isAny n z = some (if nsA A = 0 then 0 else 1) := by
  have w6 := h.2.1
  exact d_any_l h hz n 0 (by omega) (by omega)
theorem sp_lastRelease : SP_lastRelease Rel := by
  intro x t k z hR
  have hR' := hR
  obtain ⟨A, h, hM, hD, hW, hz, hDz, hT⟩ := hR
  have e1 := c_checkAny (Nat.le_refl 40000) h hM
  have e2 := d_any (Nat.le_refl 40000) h hz
  by_cases c : nsA A = 0
  · rw [if_pos c] at e2
    refine ⟨40000, 4, 0, 1, 40000, 0, si z 0 0 1, ?_, Or.inr ⟨rfl, rfl⟩, ?_, sg_s, fun q => absurd q (by decide), hR'.th 1⟩
    · unfold f_X6_lastRelease
      rw [e1.2 c]
      rfl
    · unfold f_X7_lastRelease
      rw [e2]
      rfl
  · rw [if_neg c] at e2
    refine ⟨40000, 0, iI (roA A), 0, 40000, iI (roA A), si z 0 0 0, ?_, Or.inl ⟨rfl, rfl⟩, ?_, sg_s, fun _ => rfl, hR'.th 0⟩
    · unfold f_X6_lastRelease
      rw [e1.1 (by omega), q_x0, c_gr (Nat.le_refl _) h hM hD, q_some]
    · unfold f_X7_lastRelease
      rw [e2, q_some, if_neg (by decide), q_some, d_fails0, q_some2, if_pos rfl, d_ro (Nat.le_refl _) h (MZ_scr hz rfl) (DZ_scr hDz (by omega)), q_some, q_some]
theorem sp_lastEnd : SP_lastEnd Rel := by
  intro x t k z hR
  have hR' := hR
  obtain ⟨A, h, hM, hD, hW, hz, hDz, hT⟩ := hR
  have e1 := c_checkAny (Nat.le_refl 40000) h hM
  have e2 := d_any (Nat.le_refl 40000) h hz
  by_cases c : nsA A = 0
  · rw [if_pos c] at e2
    refine ⟨40000, 4, 0, 1, 40000, 0, si z 0 0 1, ?_, Or.inr ⟨rfl, rfl⟩, ?_, sg_s, fun q => absurd q (by decide), hR'.th 1⟩
    · unfold f_X6_lastEnd
      rw [e1.2 c]
      rfl
    · unfold f_X7_lastEnd
      rw [e2]
      rfl
  · rw [if_neg c] at e2
    refine ⟨40000, 0, iI (eoA A), 0, 40000, iI (eoA A), si z 0 0 0, ?_, Or.inl ⟨rfl, rfl⟩, ?_, sg_s, fun _ => rfl, hR'.th 0⟩
    · unfold f_X6_lastEnd
      rw [e1.1 (by omega), q_x0, c_ge (Nat.le_refl _) h hM hD, q_some]
    · unfold f_X7_lastEnd
      rw [e2, q_some, if_neg (by decide), q_some, d_fails0, q_some2, if_pos rfl, d_eo (Nat.le_refl _) h (MZ_scr hz rfl) (DZ_scr hDz (by omega)), q_some, q_some]
theorem sp_daysInCustodyLeft : SP_daysInCustodyLeft Rel := by
  intro x t k z hR
  have hR' := hR.th 0
  obtain ⟨A, h, hM, hD, hW, hz, hDz, hT⟩ := hR
  have w1 := h.1
  have hr := rc_in h
  have ho := ro_in h
  obtain ⟨v, e1, v1, v2, v3⟩ := c_custodyEnd (Nat.le_refl 40000) h hM hD
  have hz' : MZ (si z 0 0 0) A := MZ_scr hz rfl
  refine ⟨40000, iI (if v - A 0 1 < 0 then 0 else v - A 0 1), 40000, iI (if v - A 0 1 < 0 then 0 else v - A 0 1), si z 0 0 0, ?_, ?_, rfl, hR'⟩
  · unfold f_X6_daysInCustodyLeft
    rw [e1, q_some, hM.1, i_sub, i_0, it_lt (by omega) (by omega) (by omega) (by omega), i_ite]
  · unfold f_X7_daysInCustodyLeft
    rw [q_nm, d_ro (Nat.le_refl _) h hz' (DZ_scr hDz (by omega)), q_some, d_rc (Nat.le_refl _) h hz', q_some, it_le (by omega) (by omega) (by omega) (by omega), q_ite, i_ite, hz' 0 1 rfl, it_le (by split <;> omega) (by split <;> omega) (by omega) (by omega), i_sub, i_0, q_ite, i_ite]
    congr 3
    split <;> split <;> split <;> omega
theorem sp_recallEnd : SP_recallEnd Rel := by
  intro x t k z hR
  have hR' := hR
  obtain ⟨A, h, hM, hD, hW, hz, hDz, hT⟩ := hR
  have w1 := h.1
  have w22 := h.2.2.2.2.1
  have e1 := c_running (Nat.le_refl 40000) h hM
  have e2 := d_recalled (Nat.le_refl 40000) h hz
  have hru : runs A ↔ A 0 1 < rcE A := by
    unfold runs
    constructor
    · exact fun q => q.2
    · intro q
      refine ⟨?_, q⟩
      refine Classical.byContradiction fun q2 => ?_
      unfold rcE at q
      rw [if_pos (by omega)] at q
      omega
  by_cases c : A 0 1 < rcE A
  · refine ⟨40000, 0, iI (rcE A), 0, 40000, iI (rcE A), si z 0 0 0, ?_, Or.inl ⟨rfl, rfl⟩, ?_, sg_s, fun _ => rfl, hR'.th 0⟩
    · unfold f_X6_recallEnd
      rw [e1.1 (hru.mpr c), q_some, if_neg (by decide), c_lre (Nat.le_refl _) h hM (hru.mpr c).1, q_some]
    · unfold f_X7_recallEnd
      rw [e2.1 c, q_some, if_neg (by decide), q_some, d_fails0, q_some2, if_pos rfl, d_rc (Nat.le_refl _) h (MZ_scr hz rfl), q_some, q_some]
  · refine ⟨40000, 4, 0, 1, 40000, 0, si z 0 0 1, ?_, Or.inr ⟨rfl, rfl⟩, ?_, sg_s, fun q => absurd q (by decide), hR'.th 1⟩
    · unfold f_X6_recallEnd
      rw [e1.2 (fun q => c (hru.mp q))]
      rfl
    · unfold f_X7_recallEnd
      rw [e2.2 c]
      rfl
/-! decidingTerm -/
theorem mxF_ge {q g : Nat → Int} : ∀ (n : Nat) (t : Nat), t < n → q t = 0 → g t ≤ mxF q g n := by
  intro n
  induction n with
  | zero => intro t a b; omega
  | succ n ih =>
    intro t a b
    rw [mxF]
    by_cases c : t = n
    · subst c
      rw [if_pos b]
      split <;> omega
    · have := ih t (by omega) b
      split
      · split <;> omega
      · exact this
/-- class: the best so far of the terms below k -/
def DT (A : AA) (k : Nat) (b g : Int) : Prop := (b = -1 ∧ g = -1 ∧ ∀ j, j < k → A 23 j ≠ 0) ∨ (∃ s : Nat, b = s ∧ s < k ∧ A 23 s = 0 ∧ g = rlZ A s ∧ (∀ j, j < k → A 23 j = 0 → rlZ A j ≤ g) ∧ (∀ j, j < s → A 23 j = 0 → rlZ A j < g))
theorem c_dec_l {n : Nat} (hn : 40000 ≤ n) {x : SX} {A : AA} (h : WF A) (hM : MX x A) (hD : DX x A) : ∀ (f k : Nat) (b g : Int), (k : Int) ≤ A 0 6 → A 0 6 < k + f → DT A k b g → ∃ b' g' : Int, f_X6_decidingTerm_l10 x n f (iI b) (iI g) (iI k) = some (0, iI b') ∧ DT A (A 0 6).toNat b' g' := by
  intro f
  have w6 := h.2.1
  have m17 := hM.2.2.2.1
  have r16 := hM.2.2.2.2.2.2.2.2.2.2.2.2.2.2.2.1
  induction f with
  | zero => intro k b g a1 a2; omega
  | succ f ih =>
    intro k b g a1 a2 hT
    rw [f_X6_decidingTerm_l10, m17, it_le (by omega) (by omega) (by omega) (by omega)]
    by_cases e : A 0 6 ≤ k
    · rw [if_pos e]
      refine ⟨b, g, rfl, ?_⟩
      rw [show (A 0 6).toNat = k by omega]
      exact hT
    · have hq := q_23 h k
      rw [if_neg e, i_gd (by omega) (by omega) (by decide), i_clN (by omega), r16, i_0, it_eq (by omega) (by omega) (by omega) (by omega)]
      by_cases c : A 23 k = 0
      · have hr := rl_in h (t := k) (by omega)
        have hg : -1 ≤ g ∧ g ≤ 60000 := by
          rcases hT with ⟨q1, q2, q3⟩ | ⟨s, q1, q2, q3, q4, -⟩
          · omega
          · have := rl_in h (t := s) (by omega)
            omega
        rw [if_pos c, c_relIn hn h hM hD (by omega) c, q_some, q_some, it_le (by omega) (by omega) (by omega) (by omega)]
        by_cases c2 : rlZ A k ≤ g
        · rw [if_pos c2, q_some2, i_1, q_nm]
          refine ih (k + 1) b g (by omega) (by omega) ?_
          rcases hT with ⟨q1, q2, q3⟩ | ⟨s, q1, q2, q3, q4, q5, q6⟩
          · omega
          · refine Or.inr ⟨s, q1, by omega, q3, q4, fun j hj hj2 => ?_, q6⟩
            by_cases c3 : j = k
            · rw [c3]; exact c2
            · exact q5 j (by omega) hj2
        · rw [if_neg c2, q_some2, i_1, q_nm]
          refine ih (k + 1) k (rlZ A k) (by omega) (by omega) (Or.inr ⟨k, rfl, by omega, c, rfl, fun j hj hj2 => ?_, fun j hj hj2 => ?_⟩)
          · by_cases c3 : j = k
            · rw [c3]; exact Int.le_refl _
            · rcases hT with ⟨q1, q2, q3⟩ | ⟨s, q1, q2, q3, q4, q5, q6⟩
              · exact absurd hj2 (q3 j (by omega))
              · have := q5 j (by omega) hj2
                omega
          · rcases hT with ⟨q1, q2, q3⟩ | ⟨s, q1, q2, q3, q4, q5, q6⟩
            · exact absurd hj2 (q3 j (by omega))
            · have := q5 j (by omega) hj2
              omega
      · rw [if_neg c, q_some2, i_1, q_nm]
        refine ih (k + 1) b g (by omega) (by omega) ?_
        rcases hT with ⟨q1, q2, q3⟩ | ⟨s, q1, q2, q3, q4, q5, q6⟩
        · refine Or.inl ⟨q1, q2, fun j hj => ?_⟩
          by_cases c3 : j = k
          · rw [c3]; exact c
          · exact q3 j (by omega)
        · refine Or.inr ⟨s, q1, by omega, q3, q4, fun j hj hj2 => ?_, q6⟩
          by_cases c3 : j = k
          · rw [c3] at hj2; exact absurd hj2 c
          · exact q5 j (by omega) hj2
theorem d_dec_l {n : Nat} (hn : 40000 ≤ n) {z : SX} {A : AA} (h : WF A) (hz : MZ z A) (hD : DZ z A) {s : Nat} (hs : (s : Int) < A 0 6) (hq : A 23 s = 0) (hg : roA A ≤ rlZ A s) (hlt : ∀ j, j < s → A 23 j = 0 → rlZ A j < roA A) : ∀ (f k : Nat), k ≤ s → s < k + f → f_X7_decidingTerm_l23 n z f (iI k) = some (iI s, z) := by
  intro f
  have w6 := h.2.1
  have ho := ro_in h
  induction f with
  | zero => intro k a1 a2; omega
  | succ f ih =>
    intro k a1 a2
    rw [f_X7_decidingTerm_l23]
    by_cases c : A 23 k = 0
    · have hr := rl_in h (t := k) (by omega)
      rw [d_isIn1 hz (by omega) c, q_some, if_neg (by decide), i_gd (by omega) (by omega) (by decide), i_clN (by omega), d_ro hn h hz hD, q_some, (hD k (by omega) c).2.2.2.2.2.2.2.2.1, it_le (by omega) (by omega) (by omega) (by omega)]
      by_cases c2 : roA A ≤ rlZ A k
      · have e : k = s := by
          refine Classical.byContradiction fun q => ?_
          have := hlt k (by omega) c
          omega
        rw [if_pos c2, e]
      · rw [if_neg c2, i_1, q_nm]
        refine ih (k + 1) ?_ (by omega)
        refine Nat.lt_of_le_of_ne a1 fun q => ?_
        rw [q] at c2
        exact c2 hg
    · rw [d_isIn0 h hz (by omega) c, q_some, if_pos rfl, i_1, q_nm]
      refine ih (k + 1) ?_ (by omega)
      refine Nat.lt_of_le_of_ne a1 fun q => ?_
      rw [q] at c
      exact c hq
theorem mxF_at {q g : Nat → Int} : ∀ (n : Nat), mxF q g n = 0 ∨ ∃ t, t < n ∧ q t = 0 ∧ mxF q g n = g t := by
  intro n
  induction n with
  | zero => exact Or.inl rfl
  | succ n ih =>
    rw [mxF]
    by_cases c : q n = 0
    · rw [if_pos c]
      by_cases c2 : mxF q g n < g n
      · rw [if_pos c2]; exact Or.inr ⟨n, by omega, c, rfl⟩
      · rw [if_neg c2]
        rcases ih with e | ⟨t, t1, t2, t3⟩
        · exact Or.inl e
        · exact Or.inr ⟨t, by omega, t2, t3⟩
    · rw [if_neg c]
      rcases ih with e | ⟨t, t1, t2, t3⟩
      · exact Or.inl e
      · exact Or.inr ⟨t, by omega, t2, t3⟩
theorem sp_decidingTerm : SP_decidingTerm Rel := by
  intro x t k z hR
  have hR' := hR
  obtain ⟨A, h, hM, hD, hW, hz, hDz, hT⟩ := hR
  have w6 := h.2.1
  have e1 := c_checkAny (Nat.le_refl 40000) h hM
  have e2 := d_any (Nat.le_refl 40000) h hz
  by_cases c : nsA A = 0
  · rw [if_pos c] at e2
    refine ⟨40000, 4, 0, 1, 40000, 0, si z 0 0 1, ?_, Or.inr ⟨rfl, rfl⟩, ?_, sg_s, fun q => absurd q (by decide), hR'.th 1⟩
    · unfold f_X6_decidingTerm
      rw [e1.2 c]
      rfl
    · unfold f_X7_decidingTerm
      rw [e2]
      rfl
  · rw [if_neg c] at e2
    obtain ⟨b, g, l1, l2⟩ := c_dec_l (Nat.le_refl 40000) h hM hD 40000 0 (-1) (-1) (by omega) (by omega) (Or.inl ⟨rfl, rfl, fun j hj => by omega⟩)
    rcases l2 with ⟨q1, q2, q3⟩ | ⟨s, q1, q2, q3, q4, q5, q6⟩
    · exact absurd (show nsA A = 0 from fb_ct_zero.mpr fun j hj => decide_eq_false (q3 j hj)) c
    · have hro : roA A = g := by
        have g1 : rlZ A s ≤ roA A := mxF_ge _ s q2 q3
        have g2 := rl_in h (t := s) (by omega)
        rcases mxF_at (q := A 23) (g := rlZ A) (A 0 6).toNat with e | ⟨u, u1, u2, u3⟩
        · have e : roA A = 0 := e
          omega
        · have u3 : roA A = rlZ A u := u3
          have := q5 u u1 u2
          omega
      refine ⟨40000, 0, iI s, 0, 40000, iI s, si z 0 0 0, ?_, Or.inl ⟨rfl, rfl⟩, ?_, sg_s, fun _ => rfl, hR'.th 0⟩
      · unfold f_X6_decidingTerm
        rw [e1.1 (by omega), q_x0]
        rw [q1] at l1
        exact l1
      · unfold f_X7_decidingTerm
        rw [e2, q_some, if_neg (by decide), q_some, d_fails0, q_some2, if_pos rfl]
        exact d_dec_l (Nat.le_refl _) h (MZ_scr hz rfl) (DZ_scr hDz (by omega)) (by omega) q3 (by omega) (fun j hj hj2 => by have := q6 j hj hj2; omega) 40000 0 (by omega) (by omega)
