/-! ===== the calendar: by adding, and the model's way ===== -/
theorem c_nba_in (n : Nat) (kb : Int32 → Int32 → Option Int32) {y mb : Int} (hy : 0 ≤ y) (hy2 : y < 10000) (hb : 0 ≤ mb) (hb2 : mb ≤ 12) : ∀ (f : Nat) (s m : Int), 1 ≤ m → m ≤ mb + 1 → mb + 1 < m + f → f_X1_numberByAdding_l34 (iI mb) (iI y) kb n f (iI s) (iI m) = kb (iI (s + dbZ y (mb + 1) - dbZ y m)) (iI (y + 1)) := by
  intro f
  induction f with
  | zero => intro s m a b c; omega
  | succ f ih =>
    intro s m a b c
    rw [f_X1_numberByAdding_l34]
    simp (disch := omega) only [i_lit, i_lt]
    by_cases e : mb < m
    · rw [if_pos e, i_add, q_nm, show m = mb + 1 by omega, show s + dbZ y (mb + 1) - dbZ y (mb + 1) = s by omega]
    · rw [if_neg e, c_daysIn n (by omega) (by omega) (by omega) (by omega), q_some, i_add, i_add, q_nm, q_nm, ih _ _ (by omega) (by omega) (by omega), dbZ_s y a (by omega)]
      congr 2
      omega
theorem c_nba_l {n : Nat} (hn : 40000 ≤ n) {Y M : Int} (hy : 2000 ≤ Y) (hy2 : Y ≤ 2099) (hm : 1 ≤ M) (hm2 : M ≤ 12) : ∀ (f : Nat) (s y : Int), 2000 ≤ y → y ≤ Y → Y + 1 < y + f → f_X1_numberByAdding_l9 (iI Y) (iI M) n f (iI s) (iI y) = some (iI (s + ysZ Y - ysZ y + dbZ Y M)) := by
  intro f
  induction f with
  | zero => intro s y a b c; omega
  | succ f ih =>
    intro s y a b c
    rw [f_X1_numberByAdding_l9]
    simp (disch := omega) only [i_lit, i_lt, i_le]
    rw [if_neg (by omega)]
    by_cases e : Y ≤ y
    · obtain rfl : Y = y := by omega
      rw [if_pos e, i_sub, q_some, c_nba_in n _ (by omega) (by omega) (by omega) (by omega) _ _ _ (by omega) (by omega) (by omega), dbZ_1]
      obtain ⟨f, rfl⟩ : ∃ g, f = g + 1 := ⟨f - 1, by omega⟩
      rw [f_X1_numberByAdding_l9]
      simp (disch := omega) only [i_lt]
      rw [if_pos (by omega), show M - 1 + 1 = M by omega]
      congr 2
      omega
    · rw [if_neg e, q_some, c_nba_in n _ (by omega) (by omega) (by omega) (by omega) _ _ _ (by omega) (by omega) (by omega), dbZ_1, show (12 : Int) + 1 = 13 by omega, dbZ_13, ih _ _ (by omega) (by omega) (by omega), ysZ_s]
      congr 2
      omega
theorem c_numberByAdding {n : Nat} (hn : 40000 ≤ n) {Y M : Int} (D : Int) (hy : 2000 ≤ Y) (hy2 : Y ≤ 2099) (hm : 1 ≤ M) (hm2 : M ≤ 12) : f_X1_numberByAdding n (iI Y) (iI M) (iI D) = some (iI (numZ Y M D)) := by
  unfold f_X1_numberByAdding
  rw [i_lit, i_lit, i_sub, q_nm, c_nba_l hn hy hy2 hm hm2 n _ _ (by omega) hy (by omega)]
  unfold numZ
  congr 2
  have : ysZ 2000 = 0 := by decide
  omega
theorem d_daysOfYear (n : Nat) {y : Int} (h1 : 0 ≤ y) (h2 : y < 1000000) : f_X7_daysOfYear n (iI y) = some (iI (dyZ y)) := by
  unfold f_X7_daysOfYear dyZ
  simp (disch := omega) only [i_lit, i_rem, i_eq, q_ite, i_ite]
theorem d_daysOfMonth (n : Nat) {y m : Int} (h1 : 0 ≤ y) (h2 : y < 1000000) (h3 : 0 ≤ m) (h4 : m < 1000) : f_X7_daysOfMonth n (iI y) (iI m) = some (iI (dmZ y m)) := by
  unfold f_X7_daysOfMonth dmZ
  rw [d_daysOfYear n h1 h2, q_some]
  have hd : dyZ y - 337 = if y % 4 = 0 then 29 else 28 := by unfold dyZ; split <;> omega
  simp (disch := omega) only [i_lit, i_eq, i_sub, q_ite, q_ites, i_ite, q_some, hd]
theorem dy_in (y : Int) : 365 ≤ dyZ y ∧ dyZ y ≤ 366 := by unfold dyZ; split <;> omega
theorem d_number_m (n : Nat) {y m d : Int} (hy : 0 ≤ y) (hy2 : y < 10000) (hm : 1 ≤ m) (hm2 : m ≤ 12) : ∀ (f : Nat) (s v : Int), 1 ≤ v → v ≤ m → m < v + f → f_X7_number_l30 (iI m) (iI d) n (iI y) f (iI s) (iI v) = some (iI (s + dbZ y m - dbZ y v + d - 1)) := by
  intro f
  induction f with
  | zero => intro s v a b c; omega
  | succ f ih =>
    intro s v a b c
    rw [f_X7_number_l30]
    simp (disch := omega) only [i_lit, i_le]
    by_cases e : m ≤ v
    · obtain rfl : m = v := by omega
      rw [if_pos e, i_add, i_sub]
      congr 2
      omega
    · rw [if_neg e, d_daysOfMonth n (by omega) (by omega) (by omega) (by omega), q_some, i_add, i_add, q_nm, q_nm, ih _ _ (by omega) (by omega) (by omega), dbZ_s y a (by omega)]
      congr 2
      omega
theorem d_number_y {n : Nat} (hn : 40000 ≤ n) {Y m d : Int} (hy : 2000 ≤ Y) (hy2 : Y < 10000) (hm : 1 ≤ m) (hm2 : m ≤ 12) : ∀ (f : Nat) (s y : Int), 2000 ≤ y → y ≤ Y → Y < y + f → f_X7_number_l7 (iI Y) (iI m) (iI d) n f (iI s) (iI y) = some (iI (s + ysZ Y - ysZ y + dbZ Y m + d - 1)) := by
  intro f
  induction f with
  | zero => intro s v a b c; omega
  | succ f ih =>
    intro s y a b c
    rw [f_X7_number_l7]
    simp (disch := omega) only [i_lit, i_le]
    by_cases e : Y ≤ y
    · obtain rfl : Y = y := by omega
      rw [if_pos e, f_X7_number_e27, i_lit, d_number_m n (by omega) (by omega) hm hm2 n _ _ (by omega) (by omega) (by omega), dbZ_1]
      congr 2
      omega
    · rw [if_neg e, d_daysOfYear n (by omega) (by omega), q_some, i_add, i_add, q_nm, q_nm, ih _ _ (by omega) (by omega) (by omega), ysZ_s]
      congr 2
      omega
theorem d_number {n : Nat} (hn : 40000 ≤ n) {Y m d : Int} (hy : 2000 ≤ Y) (hy2 : Y < 10000) (hm : 1 ≤ m) (hm2 : m ≤ 12) : f_X7_number n (iI Y) (iI m) (iI d) = some (iI (numZ Y m d)) := by
  unfold f_X7_number
  rw [i_lit, i_lit, d_number_y hn hy hy2 hm hm2 n _ _ (by omega) hy (by omega)]
  unfold numZ
  congr 2
  have : ysZ 2000 = 0 := by decide
  omega
/-! states -/
theorem sg_s {x : SX} {r k : Nat} {v : Int32} : (si x r k v).1 r k = v := by rw [sr_s, pk_us]
theorem sg_k {x : SX} {r k j : Nat} {v : Int32} (h : j ≠ k) : (si x r k v).1 r j = x.1 r j := by rw [sr_s, pk_un h]
theorem sg_r {x : SX} {r r' k : Nat} {v : Int32} (h : r' ≠ r) : (si x r k v).1 r' = x.1 r' := sr_n h
theorem ss_s {x : SX} {r k : Nat} {a b : Int32} : si (si x r k a) r k b = si x r k b := by
  unfold si
  rw [sr_s, fa_upd_twice]
  unfold sr
  congr 1
  funext j
  by_cases h : j = r
  · rw [if_pos h, if_pos h]
  · rw [if_neg h, if_neg h]
    exact if_neg h
def sp3 (x : SX) (y m dd : Int) : SX := si (si (si x 0 27 (iI y)) 0 28 (iI m)) 0 29 (iI dd)
theorem d_splits_m {n : Nat} (x : SX) {y r m : Int} (hy : 2000 ≤ y) (hy2 : y < 10000) (h1 : 1 ≤ m) (h2 : m ≤ 12) (h3 : dbZ y m ≤ r) (h4 : r < dbZ y (m + 1)) : ∀ (f : Nat) (v : Int), 1 ≤ v → v ≤ m → m < v + f → f_X7_splits_l48 n f (iI (r - dbZ y v)) (si (si x 0 27 (iI y)) 0 28 (iI v)) = some (sp3 x y m (r - dbZ y m + 1)) := by
  intro f
  have hr := db_in y (m := m) h1 (by omega)
  have hr2 := db_in y (m := m + 1) (by omega) (by omega)
  induction f with
  | zero => intro v a b c; omega
  | succ f ih =>
    intro v a b c
    rw [f_X7_splits_l48, sg_s, sg_k (by decide), sg_s, d_daysOfMonth n (by omega) (by omega) (by omega) (by omega), q_some]
    have hv := dbZ_s y (m := v) (by omega) (by omega)
    have hv1 := db_in y (m := v) (by omega) (by omega)
    have hdm := dm_in y v
    simp (disch := omega) only [i_lit, i_lt]
    by_cases e : v = m
    · subst e
      rw [if_pos (by omega), i_add, q_nm]
      rfl
    · have := db_mono' y (a := v + 1) (b := m) (by omega) (by omega) (by omega)
      rw [if_neg (by omega), q_some, i_sub, q_nm, i_add, q_nm, ss_s, show r - dbZ y v - dmZ y v = r - dbZ y (v + 1) by omega]
      exact ih (v + 1) (by omega) (by omega) (by omega)
theorem d_splits_y {n : Nat} (hn : 40000 ≤ n) (x : SX) {d m dd : Int} (h1 : 0 ≤ d) (h2 : d < 1000000) (h : IsD d (yZ d) m dd) : ∀ (f : Nat) (y : Int), 2000 ≤ y → y ≤ yZ d → yZ d < y + f → f_X7_splits_l9 n f (iI (d - ysZ y)) (si x 0 27 (iI y)) = some (sp3 x (yZ d) m dd) := by
  intro f
  obtain ⟨g1, g2, g3, g4, g5⟩ := IsD_y h
  have hyy := d_in h1 h2
  induction f with
  | zero => intro v a b c; omega
  | succ f ih =>
    intro y a b c
    rw [f_X7_splits_l9, sg_s, d_daysOfYear n (by omega) (by omega), q_some]
    have hv := ysZ_s y
    have hdy := dy_in y
    have hyi := ys_in (y := y) (by omega) (by omega)
    have hm := ys_mono b
    simp (disch := omega) only [i_lit, i_lt]
    by_cases e : y = yZ d
    · rw [e] at hv ⊢
      rw [if_pos (by omega), f_X7_splits_e43, q_nm]
      have := d_splits_m (n := n) x (y := yZ d) (r := d - ysZ (yZ d)) (by omega) (by omega) h.2.1 h.2.2.1 g3 g4 n 1 (by omega) h.2.1 (by have := h.2.2.1; omega)
      rw [dbZ_1, show d - ysZ (yZ d) - 0 = d - ysZ (yZ d) by omega, ← g5] at this
      exact this
    · have := ys_mono (a := y + 1) (b := yZ d) (by omega)
      rw [if_neg (by omega), q_some, i_sub, q_nm, i_add, q_nm, ss_s, show d - ysZ y - dyZ y = d - ysZ (y + 1) by omega]
      exact ih (y + 1) (by omega) (by omega) (by omega)
theorem d_splits {n : Nat} (hn : 40000 ≤ n) (x : SX) {d m dd : Int} (h1 : 0 ≤ d) (h2 : d < 1000000) (h : IsD d (yZ d) m dd) : f_X7_splits n x (iI d) = some (sp3 x (yZ d) m dd) := by
  have hyy := d_in h1 h2
  unfold f_X7_splits
  rw [q_nm, i_lit]
  have := d_splits_y hn x h1 h2 h n 2000 (by omega) (by omega) (by omega)
  rw [show ysZ 2000 = 0 by decide, show d - 0 = d by omega] at this
  exact this
theorem sp3_y {x : SX} {y m dd : Int} : (sp3 x y m dd).1 0 27 = iI y := by unfold sp3; rw [sg_k (by decide), sg_k (by decide), sg_s]
theorem sp3_m {x : SX} {y m dd : Int} : (sp3 x y m dd).1 0 28 = iI m := by unfold sp3; rw [sg_k (by decide), sg_s]
theorem sp3_d {x : SX} {y m dd : Int} : (sp3 x y m dd).1 0 29 = iI dd := by unfold sp3; rw [sg_s]
theorem d_later {n : Nat} (hn : 40000 ≤ n) (x : SX) {d k m dd : Int} (h1 : 0 ≤ d) (h2 : d < 1000000) (hk1 : 0 ≤ k) (hk2 : k ≤ 60) (h : IsD d (yZ d) m dd) : f_X7_later n x (iI d) (iI k) = some (iI (laterZ d k m dd), sp3 x (yZ d) m dd) := by
  have hy := d_in h1 h2
  have hm1 := h.2.1
  have hm2 := h.2.2.1
  have hdm := dm_in (yZ d) m
  have hdd := h.2.2.2.2.1
  have hdd1 := h.2.2.2.1
  have hdm2 := dm_in (yZ d + (m - 1 + k) / 12) ((m - 1 + k) % 12 + 1)
  have e1 : (12 * yZ d + m - 1 + k) / 12 = yZ d + (m - 1 + k) / 12 := by omega
  have e2 : (12 * yZ d + m - 1 + k) % 12 = (m - 1 + k) % 12 := by omega
  unfold f_X7_later laterZ
  rw [d_splits hn x h1 h2 h, q_some, sp3_y, sp3_m, sp3_d]
  simp (disch := omega) only [i_lit, i_sub, i_add, i_div, i_mul, z_rem, q_nm]
  rw [e1, e2, d_daysOfMonth n (by omega) (by omega) (by omega) (by omega), q_some]
  simp (disch := omega) only [i_le, q_ite, i_ite]
  rw [d_number hn (by omega) (by omega) (by omega) (by omega), q_some]
  congr 3
  congr 1
  split <;> split <;> omega
theorem d_in_ {n : Nat} {a b c : Int} (a1 : -2147483648 ≤ a) (a2 : a < 2147483648) (b1 : -2147483648 ≤ b) (b2 : b < 2147483648) (c1 : -2147483648 ≤ c) (c2 : c < 2147483648) : (b ≤ a ∧ a ≤ c → f_X7_in n (iI a) (iI b) (iI c) = some 1) ∧ (¬ (b ≤ a ∧ a ≤ c) → f_X7_in n (iI a) (iI b) (iI c) = some 0) := by
  unfold f_X7_in
  simp (disch := omega) only [i_lt]
  by_cases e1 : a < b
  · rw [if_pos e1]; exact ⟨fun h => by omega, fun _ => rfl⟩
  by_cases e2 : c < a
  · rw [if_neg e1, if_pos e2]; exact ⟨fun h => by omega, fun _ => rfl⟩
  · rw [if_neg e1, if_neg e2]; exact ⟨fun _ => rfl, fun h => by omega⟩
theorem d_fails0 {n : Nat} {x : SX} : f_X7_fails n x 0 = some (0, si x 0 0 0) := rfl
theorem d_fails1 {n : Nat} {x : SX} : f_X7_fails n x 1 = some (1, si x 0 0 1) := rfl
theorem d_fails2 {n : Nat} {x : SX} : f_X7_fails n x 2 = some (1, si x 0 0 2) := rfl
theorem d_fails3 {n : Nat} {x : SX} : f_X7_fails n x 3 = some (1, si x 0 0 3) := rfl
