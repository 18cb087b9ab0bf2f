/-! ===== isConsistent ===== -/
def Sm (x x' : SX) : Prop := (∀ r, r ≠ 33 → r ≠ 34 → x'.1 r = x.1 r) ∧ x'.2 = x.2
theorem Sm.t {x y z : SX} (h1 : Sm x y) (h2 : Sm y z) : Sm x z := ⟨fun r a b => (h2.1 r a b).trans (h1.1 r a b), h2.2.trans h1.2⟩
theorem Sm.w {x y : SX} {A : AA} (h : Sm x y) (hW : WX x A) : WX y A := WX_1 hW (by rw [h.2]) (by rw [h.2])
theorem c_tic {n : Nat} (hn : 40000 ≤ n) {A : AA} (h : WF A) {x : SX} (hM : MX x A) (hD : DX x A) (hW : WX x A) {t : Nat} (ht : (t : Int) < A 0 6) (hq : A 23 t = 0) : ∃ x' : SX, f_X6_termIsConsistent n x (iI t) = some (1, x') ∧ Sm x x' := by
  have w6 := h.2.1
  have hr := rl_in h ht
  obtain ⟨x', g1, g2, g3⟩ := c_merged hn h hM hD hW ht hq
  refine ⟨x', ?_, g2, g3⟩
  unfold f_X6_termIsConsistent
  rw [c_relIn hn h hM hD ht hq, q_some, i_gd (by omega) (by omega) (by decide), i_clN (by omega), g1, q_some2, (hD t ht hq).2.2.2.2.2.2, if_pos rfl, c_serve hn h (MX_s g2 hM) (DX_s g2 hD) ht hq, q_some, if_pos rfl, c_endOf h (DX_s g2 hD) ht hq, q_some, it_lt (by omega) (by omega) (by omega) (by omega), if_neg (by omega)]
  rfl
theorem c_con2 {n : Nat} (hn : 40000 ≤ n) {A : AA} (h : WF A) {x : SX} (hM : MX x A) (hW : WX x A) : ∀ (f d : Nat), (d : Int) ≤ A 0 1 → A 0 1 < d + f → f_X6_isConsistent_l45 x n f (iI (fb_ct (fun d => decide (A 12 d = 2)) d : Nat)) (iI d) = some (1, x) := by
  intro f
  have w1 := h.1
  have hsv := h.sv
  induction f with
  | zero => intro d a b; omega
  | succ f ih =>
    intro d a b
    rw [f_X6_isConsistent_l45, hM.1, it_le (by omega) (by omega) (by omega) (by omega)]
    by_cases e : A 0 1 ≤ d
    · rw [if_pos e, f_X6_isConsistent_e71, hM.2.1, hsv, show (A 0 1).toNat = d by omega, if_pos rfl]
      rfl
    · have i := ih (d + 1) (by omega) (by omega)
      rw [fb_ct_succ] at i
      have hp := (h.pa d).1
      rw [if_neg e, pastS h hW (by omega), q_some, show (2 : Int32) = iI 2 from rfl, it_eq (by omega) (by omega) (by omega) (by omega), i_1, q_nm]
      by_cases c : A 12 d = 2
      · rw [if_pos c, q_some, i_1, q_nm]
        rw [decide_eq_true c, if_pos rfl] at i
        exact i
      · rw [if_neg c, q_some, i_1, q_nm]
        rw [decide_eq_false c, if_neg (by decide)] at i
        exact i
theorem c_con1 {n : Nat} (hn : 40000 ≤ n) {A : AA} (h : WF A) : ∀ (f t : Nat) (x : SX), MX x A → DX x A → WX x A → (t : Int) ≤ A 0 6 → A 0 6 < t + f → ∃ x' : SX, f_X6_isConsistent_l2 n f (iI t) x = some (1, x') ∧ Sm x x' := by
  intro f
  have w6 := h.2.1
  have w1 := h.1
  induction f with
  | zero => intro t x _ _ _ a b; omega
  | succ f ih =>
    intro t x hM hD hW a b
    have m17 := hM.2.2.2.1
    have r16 := hM.2.2.2.2.2.2.2.2.2.2.2.2.2.2.2.1
    rw [f_X6_isConsistent_l2, m17, it_le (by omega) (by omega) (by omega) (by omega)]
    by_cases e : A 0 6 ≤ t
    · rw [if_pos e]
      exact ⟨x, c_con2 hn h hM hW n 0 (by omega) (by omega), fun _ _ _ => rfl, rfl⟩
    · have hq := q_23 h t
      rw [if_neg e, i_gd (by omega) (by omega) (by decide), i_clN (by omega), r16, i_0, it_eq (by omega) (by omega) (by omega) (by omega)]
      by_cases c : A 23 t = 0
      · obtain ⟨x1, g1, g2⟩ := c_tic hn h hM hD hW (t := t) (by omega) c
        rw [if_pos c, g1, q_some2, if_neg (by decide), i_1, q_nm]
        obtain ⟨x2, k1, k2⟩ := ih (t + 1) x1 (MX_s g2.1 hM) (DX_s g2.1 hD) (g2.w hW) (by omega) (by omega)
        exact ⟨x2, k1, g2.t k2⟩
      · rw [if_neg c, i_1, q_nm]
        exact ih (t + 1) x hM hD hW (by omega) (by omega)
theorem d_con2 {z : SX} {A : AA} (h : WF A) (hz : MZ z A) (hD : DZ z A) : ∀ (f t : Nat), (t : Int) ≤ A 0 6 → A 0 6 < t + f → f_X7_isConsistent_l57 z f 1 (iI t) = some (1, z) := by
  intro f
  have w6 := h.2.1
  induction f with
  | zero => intro t a b; omega
  | succ f ih =>
    intro t a b
    have i := ih (t + 1)
    rw [f_X7_isConsistent_l57, hz 0 6 rfl, it_le (by omega) (by omega) (by omega) (by omega)]
    by_cases e : A 0 6 ≤ t
    · rw [if_pos e]
      rfl
    · have hq := q_23 h t
      rw [if_neg e, if_neg (by decide), i_gd (by omega) (by omega) (by decide), i_clN (by omega), hz 23 t rfl, show (0 : Int32) = iI 0 from rfl, it_eq (by omega) (by omega) (by omega) (by omega)]
      by_cases c : A 23 t = 0
      · have hr := rl_in h (t := t) (by omega)
        have dd := (hD t (by omega) c).2.2.2.2.2.2.2.2
        rw [if_pos c, dd.1, dd.2, it_lt (by omega) (by omega) (by omega) (by omega), if_neg (by omega), q_some, i_1, q_nm]
        exact i (by omega) (by omega)
      · rw [if_neg c, q_some, i_1, q_nm]
        exact i (by omega) (by omega)
theorem d_con1 {n : Nat} (hn : 40000 ≤ n) {z : SX} {A : AA} (h : WF A) (hz : MZ z A) (hD : DZ z A) : ∀ (f d : Nat), (d : Int) ≤ A 0 1 → A 0 1 < d + f → f_X7_isConsistent_l9 z n f (iI (fb_ct (fun d => decide (A 12 d = 2)) d : Nat)) (iI d) = some (1, z) := by
  intro f
  have w1 := h.1
  have w6 := h.2.1
  have hsv := h.sv
  induction f with
  | zero => intro d a b; omega
  | succ f ih =>
    intro d a b
    rw [f_X7_isConsistent_l9, hz 0 1 rfl, it_le (by omega) (by omega) (by omega) (by omega)]
    by_cases e : A 0 1 ≤ d
    · rw [if_pos e, f_X7_isConsistent_e41, hz 0 4 rfl, hsv, show (A 0 1).toNat = d by omega, if_pos rfl, q_some]
      exact d_con2 h hz hD n 0 (by omega) (by omega)
    · have i := ih (d + 1) (by omega) (by omega)
      rw [fb_ct_succ] at i
      have hp := (h.pa d).1
      rw [if_neg e, i_gd (by omega) (by omega) (by decide), i_clN (by omega), hz 12 d rfl, show (2 : Int32) = iI 2 from rfl, it_eq (by omega) (by omega) (by omega) (by omega)]
      by_cases c : A 12 d = 2
      · rw [if_pos c, q_some, i_1, q_nm, i_1, q_nm]
        rw [decide_eq_true c, if_pos rfl] at i
        exact i
      · rw [if_neg c, q_some, i_0, i_add, q_nm, i_1, q_nm]
        rw [decide_eq_false c, if_neg (by decide)] at i
        exact i
theorem sp_isConsistent : SP_isConsistent Rel := by
  intro x t k z hR
  obtain ⟨A, h, hM, hD, hW, hz, hDz, hT⟩ := hR
  have w6 := h.2.1
  have w1 := h.1
  obtain ⟨x', g1, g2⟩ := c_con1 (Nat.le_refl 40000) h 40000 0 x hM hD hW (by omega) (by omega)
  refine ⟨40000, x', 1, 40000, 1, si z 0 0 0, g1, ?_, rfl, ⟨A, h, MX_s g2.1 hM, DX_s g2.1 hD, g2.w hW, MZ_scr hz rfl, DZ_scr hDz (by omega), hT⟩⟩
  unfold f_X7_isConsistent
  rw [q_nm]
  exact d_con1 (Nat.le_refl _) h (MZ_scr hz rfl) (DZ_scr hDz (by omega)) 40000 0 (by omega) (by omega)
