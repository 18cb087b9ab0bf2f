/-! ===== the calendar: the class's way ===== -/
theorem i_of (a : Int32) : ∃ z : Int, -2147483648 ≤ z ∧ z < 2147483648 ∧ a = iI z := ⟨a.toInt, (fb_rng a).1, (fb_rng a).2, (Int32.ofInt_toInt a).symm⟩
theorem z_rem (a b : Int) : a - a / b * b = a % b := by
  have := Int.emod_add_mul_ediv a b
  rw [Int.mul_comm]
  omega
theorem c_yearStart (n : Nat) {y : Int} (h1 : 2000 ≤ y) (h2 : y < 10000) : f_X1_yearStart n (iI y) = some (iI (ysZ y)) := by
  unfold f_X1_yearStart ysZ
  simp (disch := omega) only [i_lit, i_sub, i_add, i_mul, i_div, q_nm]
theorem c_daysBefore (n : Nat) {y m : Int} (h1 : 0 ≤ y) (h2 : y < 10000) (h3 : 1 ≤ m) (h4 : m < 100) : f_X1_daysBefore n (iI y) (iI m) = some (iI (dbZ y m)) := by
  unfold f_X1_daysBefore dbZ
  simp (disch := omega) only [i_lit, i_eq, i_lt, i_sub, i_add, i_mul, i_div, z_rem, q_nm, q_ite, q_ites, i_ite, q_some]
theorem ys_in {y : Int} (h1 : 2000 ≤ y) (h2 : y < 10000) : 0 ≤ ysZ y ∧ ysZ y < 3000000 := by unfold ysZ; omega
theorem db_in (y : Int) {m : Int} (h1 : 1 ≤ m) (h2 : m ≤ 13) : 0 ≤ dbZ y m ∧ dbZ y m ≤ 366 := by unfold dbZ; repeat' split <;> omega
theorem c_numberOf (n : Nat) {y m d : Int} (h1 : 2000 ≤ y) (h2 : y < 10000) (h3 : 1 ≤ m) (h4 : m ≤ 12) : f_X1_numberOf n (iI y) (iI m) (iI d) = some (iI (numZ y m d)) := by
  unfold f_X1_numberOf numZ
  rw [c_yearStart n h1 h2, q_some, c_daysBefore n (by omega) h2 h3 (by omega), q_some]
  simp (disch := omega) only [i_lit, i_sub, i_add]
def exZ (y m d : Int) : Prop := 2000 ≤ y ∧ y ≤ 2099 ∧ 1 ≤ m ∧ m ≤ 12 ∧ 1 ≤ d ∧ d ≤ dmZ y m
theorem c_exists (n : Nat) {y m d : Int} (hy1 : -2147483648 ≤ y) (hy2 : y < 2147483648) (hm1 : -2147483648 ≤ m) (hm2 : m < 2147483648) (hd1 : -2147483648 ≤ d) (hd2 : d < 2147483648) : (exZ y m d → f_X1_exists n (iI y) (iI m) (iI d) = some 1) ∧ (¬ exZ y m d → f_X1_exists n (iI y) (iI m) (iI d) = some 0) := by
  have e : f_X1_exists n (iI y) (iI m) (iI d) = qbd (if y < 2000 then some (0 : Int32) else if 2099 < y then some (0 : Int32) else if m < 1 then some (0 : Int32) else if 12 < m then some (0 : Int32) else if d < 1 then some (0 : Int32) else qbd (f_X1_daysIn n (iI y) (iI m)) fun r9 => if r9 < iI d then some (0 : Int32) else some (1 : Int32)) fun v1 => qgd (qz v1) (some v1) := by
    unfold f_X1_exists
    simp (disch := omega) only [i_lit, i_lt]
  rw [e]
  have hdm := dm_in y m
  unfold exZ
  by_cases a1 : y < 2000
  · rw [if_pos a1]; exact ⟨fun h => by omega, fun _ => rfl⟩
  by_cases a2 : 2099 < y
  · rw [if_neg a1, if_pos a2]; exact ⟨fun h => by omega, fun _ => rfl⟩
  by_cases a3 : m < 1
  · rw [if_neg a1, if_neg a2, if_pos a3]; exact ⟨fun h => by omega, fun _ => rfl⟩
  by_cases a4 : 12 < m
  · rw [if_neg a1, if_neg a2, if_neg a3, if_pos a4]; exact ⟨fun h => by omega, fun _ => rfl⟩
  by_cases a5 : d < 1
  · rw [if_neg a1, if_neg a2, if_neg a3, if_neg a4, if_pos a5]; exact ⟨fun h => by omega, fun _ => rfl⟩
  rw [if_neg a1, if_neg a2, if_neg a3, if_neg a4, if_neg a5, c_daysIn n (by omega) (by omega) (by omega) (by omega), q_some]
  simp (disch := omega) only [i_lt]
  by_cases a6 : dmZ y m < d
  · rw [if_pos a6]; exact ⟨fun h => by omega, fun _ => rfl⟩
  · rw [if_neg a6]; exact ⟨fun _ => rfl, fun h => by omega⟩
/-- day d is the dd-th of month m of year y -/
def IsD (d y m dd : Int) : Prop := 2000 ≤ y ∧ 1 ≤ m ∧ m ≤ 12 ∧ 1 ≤ dd ∧ dd ≤ dmZ y m ∧ numZ y m dd = d
def yZ (d : Int) : Int := 2000 + 4 * (d / 1461) + (if 366 ≤ d % 1461 then 1 + (d % 1461 - 366) / 365 else 0)
theorem yZ_in {d : Int} (h : 0 ≤ d) : 2000 ≤ yZ d ∧ ysZ (yZ d) ≤ d ∧ d < ysZ (yZ d + 1) := by
  unfold yZ ysZ
  split <;> omega
theorem ys_mono {a b : Int} (h : a ≤ b) : ysZ a ≤ ysZ b := by unfold ysZ; omega
theorem ys_uniq {d a b : Int} (h1 : ysZ a ≤ d) (h2 : d < ysZ (a + 1)) (h3 : ysZ b ≤ d) (h4 : d < ysZ (b + 1)) : a = b := by
  rcases Int.lt_trichotomy a b with h | h | h
  · have := ys_mono (a := a + 1) (b := b) (by omega); omega
  · exact h
  · have := ys_mono (a := b + 1) (b := a) (by omega); omega
theorem db_step (y : Int) {m : Int} (h1 : 1 ≤ m) (h2 : m ≤ 12) : dbZ y m + 28 ≤ dbZ y (m + 1) := by rw [dbZ_s y h1 h2]; have := dm_in y m; omega
theorem db_mono (y : Int) : ∀ (k : Nat) {m : Int}, 1 ≤ m → m + k ≤ 13 → dbZ y m ≤ dbZ y (m + k) := by
  intro k
  induction k with
  | zero => intro m h1 h2; rw [show m + ((0 : Nat) : Int) = m by omega]; omega
  | succ k ih =>
    intro m h1 h2
    have := ih h1 (by omega)
    have h3 := db_step y (m := m + k) (by omega) (by omega)
    rw [show m + ((k + 1 : Nat) : Int) = m + k + 1 by omega]
    omega
theorem db_mono' (y : Int) {a b : Int} (h1 : 1 ≤ a) (h2 : a ≤ b) (h3 : b ≤ 13) : dbZ y a ≤ dbZ y b := by
  have := db_mono y (b - a).toNat (m := a) h1 (by omega)
  rw [show a + ((b - a).toNat : Int) = b by omega] at this
  exact this
theorem IsD_y {d y m dd : Int} (h : IsD d y m dd) : ysZ y ≤ d ∧ d < ysZ (y + 1) ∧ dbZ y m ≤ d - ysZ y ∧ d - ysZ y < dbZ y (m + 1) ∧ dd = d - ysZ y - dbZ y m + 1 := by
  obtain ⟨h1, h2, h3, h4, h5, h6⟩ := h
  unfold numZ at h6
  have := db_in y h2 (by omega)
  have e := dbZ_s y h2 h3
  have := db_mono' y (a := m + 1) (b := 13) (by omega) (by omega) (by omega)
  rw [dbZ_13] at this
  have := ysZ_s y
  refine ⟨by omega, by omega, by omega, by omega, by omega⟩
theorem m_ex (y : Int) {r : Int} (h1 : 0 ≤ r) (h2 : r < dyZ y) : ∃ m : Int, 1 ≤ m ∧ m ≤ 12 ∧ dbZ y m ≤ r ∧ r < dbZ y (m + 1) := by
  have key : ∀ (k : Nat), k ≤ 12 → r < dbZ y (13 - (k : Int)) ∨ ∃ m : Int, 1 ≤ m ∧ m ≤ 12 ∧ dbZ y m ≤ r ∧ r < dbZ y (m + 1) := by
    intro k
    induction k with
    | zero => intro _; left; rw [show (13 : Int) - ((0 : Nat) : Int) = 13 by omega, dbZ_13]; exact h2
    | succ k ih =>
      intro hk
      rcases ih (by omega) with h | h
      · by_cases c : r < dbZ y (13 - ((k + 1 : Nat) : Int))
        · exact Or.inl c
        · refine Or.inr ⟨13 - ((k + 1 : Nat) : Int), by omega, by omega, by omega, ?_⟩
          rw [show (13 : Int) - ((k + 1 : Nat) : Int) + 1 = 13 - (k : Int) by omega]
          exact h
      · exact Or.inr h
  rcases key 12 (by omega) with h | h
  · rw [show (13 : Int) - ((12 : Nat) : Int) = 1 by omega, dbZ_1] at h
    omega
  · exact h
theorem IsD_ex {d : Int} (h : 0 ≤ d) : ∃ m dd : Int, IsD d (yZ d) m dd := by
  obtain ⟨h1, h2, h3⟩ := yZ_in h
  rw [ysZ_s] at h3
  obtain ⟨m, m1, m2, m3, m4⟩ := m_ex (yZ d) (r := d - ysZ (yZ d)) (by omega) (by omega)
  rw [dbZ_s _ m1 m2] at m4
  exact ⟨m, d - ysZ (yZ d) - dbZ (yZ d) m + 1, h1, m1, m2, by omega, by omega, by unfold numZ; omega⟩
theorem IsD_yZ {d y m dd : Int} (h : IsD d y m dd) (h0 : 0 ≤ d) : y = yZ d := by
  obtain ⟨h1, h2, -⟩ := IsD_y h
  obtain ⟨-, g1, g2⟩ := yZ_in h0
  exact ys_uniq h1 h2 g1 g2
theorem c_yearAt (n : Nat) {d : Int} (h1 : 0 ≤ d) (h2 : d < 1000000) : f_X1_yearAt n (iI d) = some (iI (yZ d)) := by
  unfold f_X1_yearAt yZ
  simp (disch := omega) only [i_lit, i_le, i_sub, i_add, i_mul, i_div, z_rem, q_nm, q_ite, i_ite]
theorem c_monthAt_l (n : Nat) {y r m : Int} (hy : 2000 ≤ y) (hy2 : y < 10000) (h1 : 1 ≤ m) (h2 : m ≤ 12) (h3 : dbZ y m ≤ r) (h4 : r < dbZ y (m + 1)) : ∀ (f : Nat) (v : Int), 1 ≤ v → v ≤ m → m < v + f → f_X1_monthAt_l14 n (iI y) (iI r) f (iI v) = some (iI m) := by
  intro f
  have hr := db_in y (m := m) h1 (by omega)
  have hr2 := db_in y (m := m + 1) (by omega) (by omega)
  induction f with
  | zero => intro v a b c; omega
  | succ f ih =>
    intro v a b c
    rw [f_X1_monthAt_l14]
    simp (disch := omega) only [i_lit, i_le]
    by_cases e : 12 ≤ v
    · rw [if_pos e, show v = m by omega]
    · rw [if_neg e, i_add, c_daysBefore n (by omega) hy2 (by omega) (by omega), q_some]
      have hv := db_in y (m := v + 1) (by omega) (by omega)
      simp (disch := omega) only [i_lt]
      by_cases e2 : r < dbZ y (v + 1)
      · rw [if_pos e2]
        by_cases e3 : v < m
        · have := db_mono' y (a := v + 1) (b := m) (by omega) (by omega) (by omega)
          omega
        · rw [show v = m by omega]
      · rw [if_neg e2, q_nm]
        refine ih (v + 1) (by omega) ?_ (by omega)
        by_cases e3 : v = m
        · rw [e3] at e2; omega
        · omega
theorem d_in {d : Int} (h1 : 0 ≤ d) (h2 : d < 1000000) : 2000 ≤ yZ d ∧ yZ d < 5000 := by unfold yZ; split <;> omega
theorem c_monthAt {n : Nat} (hn : 40000 ≤ n) {d m dd : Int} (h1 : 0 ≤ d) (h2 : d < 1000000) (h : IsD d (yZ d) m dd) : f_X1_monthAt n (iI d) = some (iI m) := by
  obtain ⟨g1, g2, g3, g4, g5⟩ := IsD_y h
  have hy := d_in h1 h2
  unfold f_X1_monthAt
  rw [c_yearAt n h1 h2, q_some, c_yearStart n (by omega) (by omega), q_some, i_sub, q_nm]
  exact c_monthAt_l n (by omega) (by omega) h.2.1 h.2.2.1 g3 g4 n 1 (by omega) h.2.1 (by have := h.2.2.1; omega)
theorem c_dayInMonthAt {n : Nat} (hn : 40000 ≤ n) {d m dd : Int} (h1 : 0 ≤ d) (h2 : d < 1000000) (h : IsD d (yZ d) m dd) : f_X1_dayInMonthAt n (iI d) = some (iI dd) := by
  obtain ⟨g1, g2, g3, g4, g5⟩ := IsD_y h
  have hy := d_in h1 h2
  unfold f_X1_dayInMonthAt
  rw [c_yearAt n h1 h2, q_some, c_monthAt hn h1 h2 h, q_some, i_lit, c_numberOf n (by omega) (by omega) h.2.1 h.2.2.1, q_some, i_sub, i_add]
  congr 2
  unfold numZ
  omega
/-- the day k months after d -/
def laterZ (d k : Int) : Int → Int → Int := fun m dd => numZ (yZ d + (m - 1 + k) / 12) ((m - 1 + k) % 12 + 1) (if dmZ (yZ d + (m - 1 + k) / 12) ((m - 1 + k) % 12 + 1) < dd then dmZ (yZ d + (m - 1 + k) / 12) ((m - 1 + k) % 12 + 1) else dd)
theorem c_later {n : Nat} (hn : 40000 ≤ n) {d k m dd : Int} (h1 : 0 ≤ d) (h2 : d < 1000000) (hk1 : 0 ≤ k) (hk2 : k ≤ 60) (h : IsD d (yZ d) m dd) : f_X1_later n (iI d) (iI k) = some (iI (laterZ d k m dd)) := by
  have hy := d_in h1 h2
  have hm1 := h.2.1
  have hm2 := h.2.2.1
  have hdm := dm_in (yZ d) m
  have hdd := h.2.2.2.2.1
  have hdd1 := h.2.2.2.1
  have hdm2 := dm_in (yZ d + (m - 1 + k) / 12) ((m - 1 + k) % 12 + 1)
  have e : d - numZ (yZ d) m 1 + 1 = dd := by
    obtain ⟨g1, g2, g3, g4, g5⟩ := IsD_y h
    unfold numZ
    omega
  unfold f_X1_later laterZ
  rw [c_yearAt n h1 h2, q_some, c_monthAt hn h1 h2 h, q_some]
  simp only [i_lit]
  rw [c_numberOf n (by omega) (by omega) hm1 hm2, q_some]
  simp (disch := omega) only [i_sub, i_add, i_div, i_mul, q_nm, q_some]
  rw [show m - 1 + k - (m - 1 + k) / 12 * 12 + 1 = (m - 1 + k) % 12 + 1 by omega, e, c_daysIn n (by omega) (by omega) (by omega) (by omega), q_some]
  simp (disch := omega) only [i_lt, i_ite]
  rw [c_numberOf n (by omega) (by omega) (by omega) (by omega), q_some]
