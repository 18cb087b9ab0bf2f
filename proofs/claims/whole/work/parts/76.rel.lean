/-! ===== the relation; the calls that only read ===== -/
def HT (A : AA) (t : Nat → Nat) (k : Nat) : Prop := ∃ (ps : Nat → Int32) (D : Nat), (D : Int) = A 0 26 ∧ (∀ j, j < D → ps j = iI (A 12 j)) ∧ t = hsT ps D ∧ k = hsK ps D
def Rel (x : SX) (t : Nat → Nat) (k : Nat) (z : SX) : Prop := ∃ A : AA, WF A ∧ MX x A ∧ DX x A ∧ WX x A ∧ MZ z A ∧ DZ z A ∧ HT A t k
theorem Rel.th {x z : SX} {t : Nat → Nat} {k : Nat} (h : Rel x t k z) (c : Int32) : Rel x t k (si z 0 0 c) := by
  obtain ⟨A, h1, h2, h3, h4, h5, h6, h7⟩ := h
  exact ⟨A, h1, h2, h3, h4, MZ_scr h5 rfl, DZ_scr h6 (by omega), h7⟩
theorem Rel.sp {x z : SX} {t : Nat → Nat} {k : Nat} (h : Rel x t k z) (y m dd : Int) : Rel x t k (sp3 z y m dd) := by
  obtain ⟨A, h1, h2, h3, h4, h5, h6, h7⟩ := h
  exact ⟨A, h1, h2, h3, h4, MZ_sp3 h5, DZ_sp3 h6, h7⟩
theorem sp_today : SP_today Rel := by
  intro x t k z hR
  have hR' := hR.th 0
  obtain ⟨A, h, hM, hD, hW, hz, hDz, hT⟩ := hR
  refine ⟨0, _, 0, _, _, rfl, rfl, ?_, hR'⟩
  rw [sg_k (by decide), hM.1, hz 0 1 rfl]
theorem sp_termCount : SP_termCount Rel := by
  intro x t k z hR
  have hR' := hR.th 0
  obtain ⟨A, h, hM, hD, hW, hz, hDz, hT⟩ := hR
  refine ⟨0, _, 0, _, _, rfl, rfl, ?_, hR'⟩
  rw [sg_k (by decide), hM.2.2.2.1, hz 0 6 rfl]
theorem sp_servedDays : SP_servedDays Rel := by
  intro x t k z hR
  have hR' := hR.th 0
  obtain ⟨A, h, hM, hD, hW, hz, hDz, hT⟩ := hR
  refine ⟨0, _, 0, _, _, rfl, rfl, ?_, hR'⟩
  rw [sg_k (by decide), hM.2.1, hz 0 4 rfl]
theorem sp_licenceDays : SP_licenceDays Rel := by
  intro x t k z hR
  have hR' := hR.th 0
  obtain ⟨A, h, hM, hD, hW, hz, hDz, hT⟩ := hR
  refine ⟨0, _, 0, _, _, rfl, rfl, ?_, hR'⟩
  rw [sg_k (by decide), hM.2.2.1, hz 0 5 rfl]
theorem sp_recallCount : SP_recallCount Rel := by
  intro x t k z hR
  have hR' := hR.th 0
  obtain ⟨A, h, hM, hD, hW, hz, hDz, hT⟩ := hR
  refine ⟨0, _, 0, _, _, rfl, rfl, ?_, hR'⟩
  rw [sg_k (by decide), hM.2.2.2.2.2.2.1, hz 0 22 rfl, i_1]
  congr 1
  omega
theorem sp_status : SP_status Rel := by
  intro x t k z hR
  have hR' := hR.th 0
  obtain ⟨A, h, hM, hD, hW, hz, hDz, hT⟩ := hR
  refine ⟨40000, iI (stA A), 40000, iI (stA A), si z 0 0 0, ?_, ?_, rfl, hR'⟩
  · unfold f_X6_status
    rw [xq_status (Nat.le_refl _) h hM hD, q_some]
  · unfold f_X7_status
    rw [q_nm, d_status (Nat.le_refl _) h (MZ_scr hz rfl) (DZ_scr hDz (by omega)), q_some]
/-! calendar -/
theorem d_dn {n : Nat} (hn : 40000 ≤ n) {z : SX} {y m d : Int} (y1 : -2147483648 ≤ y) (y2 : y < 2147483648) (m1 : -2147483648 ≤ m) (m2 : m < 2147483648) (d1 : -2147483648 ≤ d) (d2 : d < 2147483648) : (exZ y m d → f_X7_dayNumber n z (iI y) (iI m) (iI d) = some (iI (numZ y m d), si z 0 0 0)) ∧ (¬ exZ y m d → f_X7_dayNumber n z (iI y) (iI m) (iI d) = some (0, si z 0 0 1)) := by
  have hdm := dm_in y m
  unfold f_X7_dayNumber exZ
  rw [show (2000 : Int32) = iI 2000 from rfl, show (2099 : Int32) = iI 2099 from rfl, show (12 : Int32) = iI 12 from rfl, show (1 : Int32) = iI 1 from rfl]
  by_cases c1 : 2000 ≤ y ∧ y ≤ 2099
  · rw [(d_in_ y1 y2 (by omega) (by omega) (by omega) (by omega)).1 c1, q_some, if_neg (by decide)]
    by_cases c2 : 1 ≤ m ∧ m ≤ 12
    · rw [(d_in_ m1 m2 (by omega) (by omega) (by omega) (by omega)).1 c2, q_some, if_neg (by decide), d_daysOfMonth n (by omega) (by omega) (by omega) (by omega), q_some]
      by_cases c3 : 1 ≤ d ∧ d ≤ dmZ y m
      · rw [(d_in_ d1 d2 (by omega) (by omega) (by omega) (by omega)).1 c3]
        refine ⟨fun _ => ?_, fun q => absurd ⟨c1.1, c1.2, c2.1, c2.2, c3.1, c3.2⟩ q⟩
        rw [q_some, if_neg (by decide), q_some, if_neg (by decide), q_some, d_fails0, q_some2, if_pos rfl, d_number hn c1.1 (by omega) c2.1 c2.2, q_some, q_some]
      · rw [(d_in_ d1 d2 (by omega) (by omega) (by omega) (by omega)).2 c3]
        exact ⟨fun q => absurd ⟨q.2.2.2.2.1, q.2.2.2.2.2⟩ c3, fun _ => rfl⟩
    · rw [(d_in_ m1 m2 (by omega) (by omega) (by omega) (by omega)).2 c2]
      exact ⟨fun q => absurd ⟨q.2.2.1, q.2.2.2.1⟩ c2, fun _ => rfl⟩
  · rw [(d_in_ y1 y2 (by omega) (by omega) (by omega) (by omega)).2 c1]
    exact ⟨fun q => absurd ⟨q.1, q.2.1⟩ c1, fun _ => rfl⟩
theorem sp_dayNumber : SP_dayNumber Rel := by
  intro x t k z a1 a2 a3 hR
  obtain ⟨y, y1, y2, rfl⟩ := i_of a1
  obtain ⟨m, m1, m2, rfl⟩ := i_of a2
  obtain ⟨d, d1, d2, rfl⟩ := i_of a3
  have e := c_exists 40000 y1 y2 m1 m2 d1 d2
  have g := d_dn (Nat.le_refl 40000) (z := z) y1 y2 m1 m2 d1 d2
  by_cases c : exZ y m d
  · refine ⟨40000, 0, iI (numZ y m d), 0, 40000, _, _, ?_, Or.inl ⟨rfl, rfl⟩, g.1 c, sg_s, fun _ => rfl, hR.th 0⟩
    unfold f_X6_dayNumber f_X6_checkDate
    rw [e.1 c, q_some, if_neg (by decide), q_x0, c_numberOf 40000 c.1 (by have := c.2.1; omega) c.2.2.1 c.2.2.2.1, q_some]
  · refine ⟨40000, 1, 0, 1, 40000, _, _, ?_, Or.inr ⟨rfl, rfl⟩, g.2 c, sg_s, fun q => absurd q (by decide), hR.th 1⟩
    unfold f_X6_dayNumber f_X6_checkDate
    rw [e.2 c]
    rfl
theorem sp_dayNumberByMonths : SP_dayNumberByMonths Rel := by
  intro x t k z a1 a2 a3 hR
  obtain ⟨y, y1, y2, rfl⟩ := i_of a1
  obtain ⟨m, m1, m2, rfl⟩ := i_of a2
  obtain ⟨d, d1, d2, rfl⟩ := i_of a3
  have e := c_exists 40000 y1 y2 m1 m2 d1 d2
  have g := d_dn (Nat.le_refl 40000) (z := z) y1 y2 m1 m2 d1 d2
  by_cases c : exZ y m d
  · refine ⟨40000, 0, iI (numZ y m d), 0, 40000, iI (numZ y m d), si z 0 0 0, ?_, Or.inl ⟨rfl, rfl⟩, ?_, sg_s, fun _ => rfl, hR.th 0⟩
    · unfold f_X6_dayNumberByMonths f_X6_checkDate
      rw [e.1 c, q_some, if_neg (by decide), q_x0, c_numberByAdding (Nat.le_refl _) d c.1 c.2.1 c.2.2.1 c.2.2.2.1, q_some]
    · unfold f_X7_dayNumberByMonths
      rw [g.1 c, q_some2]
  · refine ⟨40000, 1, 0, 1, 40000, 0, si z 0 0 1, ?_, Or.inr ⟨rfl, rfl⟩, ?_, sg_s, fun q => absurd q (by decide), hR.th 1⟩
    · unfold f_X6_dayNumberByMonths f_X6_checkDate
      rw [e.2 c]
      rfl
    · unfold f_X7_dayNumberByMonths
      rw [g.2 c, q_some2]
theorem c_checkDay {n : Nat} {d : Int} (d1 : -2147483648 ≤ d) (d2 : d < 2147483648) : (0 ≤ d ∧ d ≤ 36524 → f_X6_checkDay n (iI d) = some 0) ∧ (¬ (0 ≤ d ∧ d ≤ 36524) → f_X6_checkDay n (iI d) = some 1) := by
  unfold f_X6_checkDay
  rw [i_0, it_lt (by omega) (by omega) (by omega) (by omega), show (36524 : Int32) = iI 36524 from rfl, it_le (by omega) (by omega) (by omega) (by omega)]
  constructor
  · intro c
    rw [if_neg (by omega), if_pos (by omega)]
  · intro c
    by_cases c2 : d < 0
    · rw [if_pos c2]
    · rw [if_neg c2, if_neg (by omega)]
theorem d_isDay {n : Nat} {z : SX} {d : Int} (d1 : -2147483648 ≤ d) (d2 : d < 2147483648) : (0 ≤ d ∧ d ≤ 36524 → f_X7_isDay n z (iI d) = some 1) ∧ (¬ (0 ≤ d ∧ d ≤ 36524) → f_X7_isDay n z (iI d) = some 0) := by
  have g := d_in_ (n := n) (a := d) (b := 0) (c := 36524) d1 d2 (by omega) (by omega) (by omega) (by omega)
  unfold f_X7_isDay
  rw [i_0, show (36524 : Int32) = iI 36524 from rfl]
  exact ⟨fun c => by rw [g.1 c]; rfl, fun c => by rw [g.2 c]; rfl⟩
theorem sp_yearOf : SP_yearOf Rel := by
  intro x t k z a1 hR
  obtain ⟨d, d1, d2, rfl⟩ := i_of a1
  by_cases c : 0 ≤ d ∧ d ≤ 36524
  · refine ⟨40000, 0, iI (yZ d), 0, 40000, iI (yZ d), sp3 (si z 0 0 0) (yZ d) (mdZ d).1 (mdZ d).2, ?_, Or.inl ⟨rfl, rfl⟩, ?_, ?_, fun _ => rfl, (hR.th 0).sp _ _ _⟩
    · unfold f_X6_yearOf
      rw [(c_checkDay d1 d2).1 c, q_x0, c_yearAt 40000 c.1 (by omega), q_some]
    · unfold f_X7_yearOf
      rw [(d_isDay d1 d2).1 c, q_some, if_neg (by decide), q_some, d_fails0, q_some2, if_pos rfl, d_splits (Nat.le_refl _) _ c.1 (by omega) (mdZ_is c.1), q_some, sp3_y]
    · rw [sp3_n (by omega), sg_s]
  · refine ⟨40000, 1, 0, 1, 40000, 0, si z 0 0 1, ?_, Or.inr ⟨rfl, rfl⟩, ?_, sg_s, fun q => absurd q (by decide), hR.th 1⟩
    · unfold f_X6_yearOf
      rw [(c_checkDay d1 d2).2 c]
      rfl
    · unfold f_X7_yearOf
      rw [(d_isDay d1 d2).2 c]
      rfl
theorem sp_monthOf : SP_monthOf Rel := by
  intro x t k z a1 hR
  obtain ⟨d, d1, d2, rfl⟩ := i_of a1
  by_cases c : 0 ≤ d ∧ d ≤ 36524
  · refine ⟨40000, 0, iI (mdZ d).1, 0, 40000, iI (mdZ d).1, sp3 (si z 0 0 0) (yZ d) (mdZ d).1 (mdZ d).2, ?_, Or.inl ⟨rfl, rfl⟩, ?_, ?_, fun _ => rfl, (hR.th 0).sp _ _ _⟩
    · unfold f_X6_monthOf
      rw [(c_checkDay d1 d2).1 c, q_x0, c_monthAt (Nat.le_refl _) c.1 (by omega) (mdZ_is c.1), q_some]
    · unfold f_X7_monthOf
      rw [(d_isDay d1 d2).1 c, q_some, if_neg (by decide), q_some, d_fails0, q_some2, if_pos rfl, d_splits (Nat.le_refl _) _ c.1 (by omega) (mdZ_is c.1), q_some, sp3_m]
    · rw [sp3_n (by omega), sg_s]
  · refine ⟨40000, 1, 0, 1, 40000, 0, si z 0 0 1, ?_, Or.inr ⟨rfl, rfl⟩, ?_, sg_s, fun q => absurd q (by decide), hR.th 1⟩
    · unfold f_X6_monthOf
      rw [(c_checkDay d1 d2).2 c]
      rfl
    · unfold f_X7_monthOf
      rw [(d_isDay d1 d2).2 c]
      rfl
theorem sp_dayOfMonth : SP_dayOfMonth Rel := by
  intro x t k z a1 hR
  obtain ⟨d, d1, d2, rfl⟩ := i_of a1
  by_cases c : 0 ≤ d ∧ d ≤ 36524
  · refine ⟨40000, 0, iI (mdZ d).2, 0, 40000, iI (mdZ d).2, sp3 (si z 0 0 0) (yZ d) (mdZ d).1 (mdZ d).2, ?_, Or.inl ⟨rfl, rfl⟩, ?_, ?_, fun _ => rfl, (hR.th 0).sp _ _ _⟩
    · unfold f_X6_dayOfMonth
      rw [(c_checkDay d1 d2).1 c, q_x0, c_dayInMonthAt (Nat.le_refl _) c.1 (by omega) (mdZ_is c.1), q_some]
    · unfold f_X7_dayOfMonth
      rw [(d_isDay d1 d2).1 c, q_some, if_neg (by decide), q_some, d_fails0, q_some2, if_pos rfl, d_splits (Nat.le_refl _) _ c.1 (by omega) (mdZ_is c.1), q_some, sp3_d]
    · rw [sp3_n (by omega), sg_s]
  · refine ⟨40000, 1, 0, 1, 40000, 0, si z 0 0 1, ?_, Or.inr ⟨rfl, rfl⟩, ?_, sg_s, fun q => absurd q (by decide), hR.th 1⟩
    · unfold f_X6_dayOfMonth
      rw [(c_checkDay d1 d2).2 c]
      rfl
    · unfold f_X7_dayOfMonth
      rw [(d_isDay d1 d2).2 c]
      rfl
theorem sp_monthsAfter : SP_monthsAfter Rel := by
  intro x t k z a1 a2 hR
  obtain ⟨d, d1, d2, rfl⟩ := i_of a1
  obtain ⟨m, m1, m2, rfl⟩ := i_of a2
  have g := d_in_ (n := 40000) (a := m) (b := 0) (c := 60) m1 m2 (by omega) (by omega) (by omega) (by omega)
  by_cases c : 0 ≤ d ∧ d ≤ 36524
  · by_cases c2 : 0 ≤ m ∧ m ≤ 60
    · have hl := lat_in c.1 c2.1 c2.2
      have el : ∀ x : SX, f_X7_later 40000 x (iI d) (iI m) = some (iI (latZ d m), sp3 x (yZ d) (mdZ d).1 (mdZ d).2) := fun x => d_lat (Nat.le_refl _) x c.1 (by omega) c2.1 c2.2
      have ex : f_X6_monthsAfter 40000 x (iI d) (iI m) = if latZ d m ≤ 36524 then some (0, iI (latZ d m)) else some (1, 0) := by
        unfold f_X6_monthsAfter
        rw [(c_checkDay d1 d2).1 c, q_x0, show (0 : Int32) = iI 0 from rfl, it_lt (by omega) (by omega) (by omega) (by omega), if_neg (by omega), show (60 : Int32) = iI 60 from rfl, it_le (by omega) (by omega) (by omega) (by omega), if_pos c2.2, c_lat (Nat.le_refl _) c.1 (by omega) c2.1 c2.2, q_some, show (36524 : Int32) = iI 36524 from rfl, it_le (by omega) (by omega) (by omega) (by omega)]
      by_cases c3 : latZ d m ≤ 36524
      · refine ⟨40000, 0, iI (latZ d m), 0, 40000, iI (latZ d m), sp3 (si (sp3 z (yZ d) (mdZ d).1 (mdZ d).2) 0 0 0) (yZ d) (mdZ d).1 (mdZ d).2, ?_, Or.inl ⟨rfl, rfl⟩, ?_, ?_, fun _ => rfl, ((hR.sp _ _ _).th 0).sp _ _ _⟩
        · rw [ex, if_pos c3]
        · unfold f_X7_monthsAfter
          rw [(d_isDay d1 d2).1 c, q_some, if_neg (by decide), show (60 : Int32) = iI 60 from rfl, show f_X7_in 40000 (iI m) 0 (iI 60) = some 1 from g.1 c2, q_some, if_neg (by decide), el, q_some2, show (36524 : Int32) = iI 36524 from rfl, it_lt (by omega) (by omega) (by omega) (by omega), if_neg (by omega), q_some2, if_neg (by decide), q_some, d_fails0, q_some2, if_pos rfl, el, q_some2, q_some2]
        · rw [sp3_n (by omega), sg_s]
      · refine ⟨40000, 1, 0, 1, 40000, 0, si (sp3 z (yZ d) (mdZ d).1 (mdZ d).2) 0 0 1, ?_, Or.inr ⟨rfl, rfl⟩, ?_, sg_s, fun q => absurd q (by decide), (hR.sp _ _ _).th 1⟩
        · rw [ex, if_neg c3]
        · unfold f_X7_monthsAfter
          rw [(d_isDay d1 d2).1 c, q_some, if_neg (by decide), show (60 : Int32) = iI 60 from rfl, show f_X7_in 40000 (iI m) 0 (iI 60) = some 1 from g.1 c2, q_some, if_neg (by decide), el, q_some2, show (36524 : Int32) = iI 36524 from rfl, it_lt (by omega) (by omega) (by omega) (by omega), if_pos (by omega), q_some2, if_pos rfl, q_some, d_fails1, q_some2, if_neg (by decide), q_some2]
    · refine ⟨40000, 1, 0, 1, 40000, 0, si z 0 0 1, ?_, Or.inr ⟨rfl, rfl⟩, ?_, sg_s, fun q => absurd q (by decide), hR.th 1⟩
      · unfold f_X6_monthsAfter
        rw [(c_checkDay d1 d2).1 c, q_x0, show (0 : Int32) = iI 0 from rfl, it_lt (by omega) (by omega) (by omega) (by omega), show (60 : Int32) = iI 60 from rfl, it_le (by omega) (by omega) (by omega) (by omega)]
        by_cases c3 : m < 0
        · rw [if_pos c3]
        · rw [if_neg c3, if_neg (by omega)]
      · unfold f_X7_monthsAfter
        rw [(d_isDay d1 d2).1 c, q_some, if_neg (by decide), show (60 : Int32) = iI 60 from rfl, show f_X7_in 40000 (iI m) 0 (iI 60) = some 0 from g.2 c2]
        rfl
  · refine ⟨40000, 1, 0, 1, 40000, 0, si z 0 0 1, ?_, Or.inr ⟨rfl, rfl⟩, ?_, sg_s, fun q => absurd q (by decide), hR.th 1⟩
    · unfold f_X6_monthsAfter
      rw [(c_checkDay d1 d2).2 c]
      rfl
    · unfold f_X7_monthsAfter
      rw [(d_isDay d1 d2).2 c]
      rfl
