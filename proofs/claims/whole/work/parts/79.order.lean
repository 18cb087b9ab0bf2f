/-! ===== the order of release days ===== -/
noncomputable def beF (A : AA) (a b : Nat) : Bool := decide (rlZ A a < rlZ A b ∨ (rlZ A a = rlZ A b ∧ (enZ A a < enZ A b ∨ (enZ A a = enZ A b ∧ a < b))))
theorem cmpI {n : Nat} {a b : Int} (h1 : -2147483648 ≤ a) (h2 : a < 2147483648) (h3 : -2147483648 ≤ b) (h4 : b < 2147483648) : f_J6_compare_7cf53 n (iI a) (iI b) = some (if b ≤ a then (if a = b then 0 else 1) else -1) := by
  unfold f_J6_compare_7cf53
  rw [it_le h3 h4 h1 h2, it_eq h1 h2 h3 h4]
  split <;> (try split) <;> rfl
theorem c_before {n : Nat} (hn : 40000 ≤ n) {x : SX} {A : AA} (h : WF A) (hM : MX x A) (hD : DX x A) {a b : Nat} (ha : (a : Int) < A 0 6) (hb : (b : Int) < A 0 6) (qa : A 23 a = 0) (qb : A 23 b = 0) : f_X6_comesBefore n x (iI a) (iI b) = some (if beF A a b = true then 1 else 0) := by
  have w6 := h.2.1
  have r1 := rl_in h ha
  have r2 := rl_in h hb
  unfold f_X6_comesBefore
  rw [c_relIn hn h hM hD ha qa, q_some, c_relIn hn h hM hD hb qb, q_some, cmpI (by omega) (by omega) (by omega) (by omega), q_some]
  by_cases c1 : rlZ A b ≤ rlZ A a
  · rw [if_pos c1]
    by_cases c2 : rlZ A a = rlZ A b
    · rw [if_pos c2, if_pos rfl, c_endOf h hD ha qa, q_some, c_endOf h hD hb qb, q_some, cmpI (by omega) (by omega) (by omega) (by omega), q_some]
      by_cases c3 : enZ A b ≤ enZ A a
      · rw [if_pos c3]
        by_cases c4 : enZ A a = enZ A b
        · rw [if_pos c4, if_pos rfl, it_le (by omega) (by omega) (by omega) (by omega)]
          by_cases c5 : (b : Int) ≤ a
          · have e : beF A a b = false := decide_eq_false (by omega)
            rw [if_pos c5, e]
            rfl
          · have e : beF A a b = true := decide_eq_true (by omega)
            rw [if_neg c5, e]
            rfl
        · have e : beF A a b = false := decide_eq_false (by omega)
          rw [if_neg c4, e]
          rfl
      · have e : beF A a b = true := decide_eq_true (by omega)
        rw [if_neg c3, e]
        rfl
    · have e : beF A a b = false := decide_eq_false (by omega)
      rw [if_neg c2, e]
      rfl
  · have e : beF A a b = true := decide_eq_true (by omega)
    rw [if_neg c1, e]
    rfl
theorem d_ahead {n : Nat} {z : SX} {A : AA} (h : WF A) (hD : DZ z A) {a b : Nat} (ha : (a : Int) < A 0 6) (hb : (b : Int) < A 0 6) (qa : A 23 a = 0) (qb : A 23 b = 0) : f_X7_isAhead n z (iI a) (iI b) = some (if beF A a b = true then 1 else 0) := by
  have w6 := h.2.1
  have r1 := rl_in h ha
  have r2 := rl_in h hb
  have da := (hD a ha qa).2.2.2.2.2.2.2.2
  have db := (hD b hb qb).2.2.2.2.2.2.2.2
  unfold f_X7_isAhead
  rw [i_gd (a := (a : Int)) (by omega) (by omega) (by decide), i_gd (a := (b : Int)) (by omega) (by omega) (by decide), i_clN (t := a) (by omega), i_clN (t := b) (by omega), da.1, db.1, da.2, db.2, i_sub, i_sub, q_nm, i_0, it_eq (by omega) (by omega) (by omega) (by omega), q_ite, i_ite, it_le (a := (b : Int)) (by omega) (by omega) (by omega) (by omega)]
  by_cases c2 : rlZ A a - rlZ A b = 0
  · rw [if_pos c2, it_lt (by omega) (by omega) (by omega) (by omega), it_eq (by omega) (by omega) (by omega) (by omega)]
    by_cases c3 : enZ A a - enZ A b < 0
    · have e : beF A a b = true := decide_eq_true (by omega)
      rw [if_pos c3, e]
      rfl
    · rw [if_neg c3]
      by_cases c4 : enZ A a - enZ A b = 0
      · rw [if_pos c4]
        by_cases c5 : (b : Int) ≤ a
        · have e : beF A a b = false := decide_eq_false (by omega)
          rw [if_pos c5, e]
          rfl
        · have e : beF A a b = true := decide_eq_true (by omega)
          rw [if_neg c5, e]
          rfl
      · have e : beF A a b = false := decide_eq_false (by omega)
        rw [if_neg c4, e]
        rfl
  · rw [if_neg c2, it_lt (by omega) (by omega) (by omega) (by omega), it_eq (by omega) (by omega) (by omega) (by omega), if_neg c2]
    by_cases c3 : rlZ A a - rlZ A b < 0
    · have e : beF A a b = true := decide_eq_true (by omega)
      rw [if_pos c3, e]
      rfl
    · have e : beF A a b = false := decide_eq_false (by omega)
      rw [if_neg c3, e]
      rfl
noncomputable def rkF (A : AA) (b a : Nat) : Bool := decide (A 23 a = 0) && beF A a b
noncomputable def rkZ (A : AA) (b : Nat) : Nat := fb_ct (rkF A b) (A 0 6).toNat
theorem c_place_l {n : Nat} (hn : 40000 ≤ n) {x : SX} {A : AA} (h : WF A) (hM : MX x A) (hD : DX x A) {b : Nat} (hb : (b : Int) < A 0 6) (qb : A 23 b = 0) : ∀ (f k : Nat), (k : Int) ≤ A 0 6 → A 0 6 < k + f → f_X6_placeByRelease_l4 x n (iI b) f (iI (fb_ct (rkF A b) k : Nat)) (iI k) = some (iI (rkZ A b : Nat)) := by
  intro f
  have w6 := h.2.1
  have m17 := hM.2.2.2.1
  have r16 := hM.2.2.2.2.2.2.2.2.2.2.2.2.2.2.2.1
  induction f with
  | zero => intro k a1 a2; omega
  | succ f ih =>
    intro k a1 a2
    rw [f_X6_placeByRelease_l4, m17, it_le (by omega) (by omega) (by omega) (by omega)]
    by_cases e : A 0 6 ≤ k
    · rw [if_pos e]
      unfold rkZ
      rw [show (A 0 6).toNat = k by omega]
    · have i := ih (k + 1) (by omega) (by omega)
      rw [fb_ct_succ] at i
      have hq := q_23 h k
      rw [if_neg e, i_gd (by omega) (by omega) (by decide), i_clN (by omega), r16, i_0, it_eq (by omega) (by omega) (by omega) (by omega)]
      by_cases c : A 23 k = 0
      · rw [if_pos c, c_before hn h hM hD (by omega) hb c qb, q_some]
        by_cases c2 : beF A k b = true
        · rw [if_pos c2, if_neg (by decide), i_1, q_nm, q_some, i_1, q_nm]
          rw [show rkF A b k = true by unfold rkF; rw [decide_eq_true c, c2]; rfl, if_pos rfl] at i
          exact i
        · rw [if_neg c2, if_pos (show (0 : Int32) = iI 0 from rfl), q_some, i_1, q_nm]
          rw [show rkF A b k = false by unfold rkF; rw [bool_f c2, Bool.and_false], if_neg (by decide)] at i
          exact i
      · rw [if_neg c, q_some, i_1, q_nm]
        rw [show rkF A b k = false by unfold rkF; rw [decide_eq_false c, Bool.false_and], if_neg (by decide)] at i
        exact i
theorem c_place {n : Nat} (hn : 40000 ≤ n) {x : SX} {A : AA} (h : WF A) (hM : MX x A) (hD : DX x A) {b : Nat} (hb : (b : Int) < A 0 6) (qb : A 23 b = 0) : f_X6_placeByRelease n x (iI b) = some (iI (rkZ A b : Nat)) := by
  have w6 := h.2.1
  exact c_place_l hn h hM hD hb qb n 0 (by omega) (by omega)
theorem d_rank_l {n : Nat} {z : SX} {A : AA} (h : WF A) (hz : MZ z A) (hD : DZ z A) {b : Nat} (hb : (b : Int) < A 0 6) (qb : A 23 b = 0) : ∀ (f k : Nat), (k : Int) ≤ A 0 6 → A 0 6 < k + f → f_X7_rank_l4 z n (iI b) f (iI (fb_ct (rkF A b) k : Nat)) (iI k) = some (iI (rkZ A b : Nat)) := by
  intro f
  have w6 := h.2.1
  induction f with
  | zero => intro k a1 a2; omega
  | succ f ih =>
    intro k a1 a2
    rw [f_X7_rank_l4, hz 0 6 rfl, it_le (by omega) (by omega) (by omega) (by omega)]
    by_cases e : A 0 6 ≤ k
    · rw [if_pos e]
      unfold rkZ
      rw [show (A 0 6).toNat = k by omega]
    · have i := ih (k + 1) (by omega) (by omega)
      rw [fb_ct_succ] at i
      rw [if_neg e]
      by_cases c : A 23 k = 0
      · rw [d_isIn1 hz (by omega) c, q_some, if_neg (by decide), d_ahead h hD (by omega) hb c qb, q_some]
        by_cases c2 : beF A k b = true
        · rw [if_pos c2, if_neg (by decide), q_some, i_1, q_nm, i_1, q_nm]
          rw [show rkF A b k = true by unfold rkF; rw [decide_eq_true c, c2]; rfl, if_pos rfl] at i
          exact i
        · rw [if_neg c2, if_pos rfl, q_some, i_0, i_add, q_nm, i_1, q_nm]
          rw [show rkF A b k = false by unfold rkF; rw [bool_f c2, Bool.and_false], if_neg (by decide)] at i
          exact i
      · rw [d_isIn0 h hz (by omega) c, q_some, if_pos rfl, q_some, i_0, i_add, q_nm, i_1, q_nm]
        rw [show rkF A b k = false by unfold rkF; rw [decide_eq_false c, Bool.false_and], if_neg (by decide)] at i
        exact i
theorem d_rank {n : Nat} (hn : 40000 ≤ n) {z : SX} {A : AA} (h : WF A) (hz : MZ z A) (hD : DZ z A) {b : Nat} (hb : (b : Int) < A 0 6) (qb : A 23 b = 0) : f_X7_rank n z (iI b) = some (iI (rkZ A b : Nat)) := by
  have w6 := h.2.1
  exact d_rank_l h hz hD hb qb n 0 (by omega) (by omega)
theorem be_i {A : AA} {a b : Nat} : beF A a b = true ↔ (rlZ A a < rlZ A b ∨ (rlZ A a = rlZ A b ∧ (enZ A a < enZ A b ∨ (enZ A a = enZ A b ∧ a < b)))) := by
  unfold beF
  exact decide_eq_true_iff
theorem rk_lt {A : AA} {a b : Nat} (ha : (a : Int) < A 0 6) (qa : A 23 a = 0) (hab : beF A a b = true) : rkZ A a < rkZ A b := by
  have e1 := fb_ct_upd (rkF A a) true (i := a) (n := (A 0 6).toNat) (by omega)
  have e2 : rkF A a a = false := by
    unfold rkF
    have : beF A a a = false := decide_eq_false (by omega)
    rw [this, Bool.and_false]
  have e3 : fb_ct (fun k => if k = a then true else rkF A a k) (A 0 6).toNat ≤ fb_ct (rkF A b) (A 0 6).toNat := fb_ct_sub fun k hk q => by
    by_cases c : k = a
    · subst c
      unfold rkF
      rw [decide_eq_true qa, hab]
      rfl
    · have q : (if k = a then true else rkF A a k) = true := q
      rw [if_neg c] at q
      unfold rkF at q ⊢
      rw [Bool.and_eq_true] at q ⊢
      refine ⟨q.1, ?_⟩
      have p1 := be_i.mp q.2
      have p2 := be_i.mp hab
      exact be_i.mpr (by omega)
  rw [e2] at e1
  unfold rkZ
  simp only [if_true] at e1
  have e1' : fb_ct (fun k => if k = a then true else rkF A a k) (A 0 6).toNat + 0 = fb_ct (rkF A a) (A 0 6).toNat + 1 := e1
  omega
theorem rk_ne {A : AA} {a b : Nat} (ha : (a : Int) < A 0 6) (hb : (b : Int) < A 0 6) (qa : A 23 a = 0) (qb : A 23 b = 0) (hab : a ≠ b) : rkZ A a ≠ rkZ A b := by
  have key : beF A a b = true ∨ beF A b a = true := by
    rw [be_i, be_i]
    omega
  rcases key with q | q
  · have := rk_lt ha qa q
    omega
  · have := rk_lt hb qb q
    omega
theorem rk_in {A : AA} (h : WF A) (b : Nat) : rkZ A b ≤ 10 := by
  have w6 := h.2.1
  have : rkZ A b ≤ (A 0 6).toNat := fb_ct_le _ _
  omega
theorem c_tbr_l {n : Nat} (hn : 40000 ≤ n) {x : SX} {A : AA} (h : WF A) (hM : MX x A) (hD : DX x A) {v : Int} (v1 : -2147483648 ≤ v) (v2 : v < 2147483648) : ∀ (f k : Nat), (k : Int) ≤ A 0 6 → A 0 6 < k + f → (∀ s : Nat, k ≤ s → (s : Int) < A 0 6 → A 23 s = 0 → (rkZ A s : Int) = v → f_X6_termByRelease_l2 x n (iI v) f (iI k) = some (0, iI s)) ∧ ((∀ s : Nat, k ≤ s → (s : Int) < A 0 6 → A 23 s = 0 → (rkZ A s : Int) ≠ v) → f_X6_termByRelease_l2 x n (iI v) f (iI k) = some (3, 0)) := by
  intro f
  have w6 := h.2.1
  have m17 := hM.2.2.2.1
  have r16 := hM.2.2.2.2.2.2.2.2.2.2.2.2.2.2.2.1
  induction f with
  | zero => intro k a1 a2; omega
  | succ f ih =>
    intro k a1 a2
    rw [f_X6_termByRelease_l2, m17, it_le (by omega) (by omega) (by omega) (by omega)]
    by_cases e : A 0 6 ≤ k
    · rw [if_pos e]
      exact ⟨fun s s1 s2 => by omega, fun _ => rfl⟩
    · have i := ih (k + 1) (by omega) (by omega)
      have hq := q_23 h k
      rw [if_neg e, i_gd (by omega) (by omega) (by decide), i_clN (by omega), r16, i_0, it_eq (by omega) (by omega) (by omega) (by omega)]
      by_cases c : A 23 k = 0
      · have hr := rk_in h k
        rw [if_pos c, c_place hn h hM hD (by omega) c, q_some, it_eq (by omega) (by omega) (by omega) (by omega), i_1, q_nm]
        by_cases c2 : (rkZ A k : Int) = v
        · rw [if_pos c2]
          refine ⟨fun s s1 s2 s3 s4 => ?_, fun q => absurd c2 (q k (Nat.le_refl _) (by omega) c)⟩
          by_cases c3 : s = k
          · rw [c3]
          · have := rk_ne (A := A) (a := s) (b := k) s2 (by omega) s3 c c3
            omega
        · rw [if_neg c2]
          refine ⟨fun s s1 s2 s3 s4 => i.1 s ?_ s2 s3 s4, fun q => i.2 fun s s1 => q s (by omega)⟩
          refine Nat.lt_of_le_of_ne s1 fun q => ?_
          rw [q] at c2
          exact c2 s4
      · rw [if_neg c, i_1, q_nm]
        refine ⟨fun s s1 s2 s3 s4 => i.1 s ?_ s2 s3 s4, fun q => i.2 fun s s1 => q s (by omega)⟩
        refine Nat.lt_of_le_of_ne s1 fun q => ?_
        rw [q] at c
        exact c s3
theorem d_tbr_l {n : Nat} (hn : 40000 ≤ n) {z : SX} {A : AA} (h : WF A) (hz : MZ z A) (hD : DZ z A) {v : Int} (v1 : 0 ≤ v) (v2 : v < 2147483648) : ∀ (f k : Nat) (w : Int32), (k : Int) ≤ A 0 6 → A 0 6 < k + f → (∀ s : Nat, k ≤ s → (s : Int) < A 0 6 → A 23 s = 0 → (rkZ A s : Int) = v → f_X7_termByRelease_l4 z n (iI v) f w (iI k) = f_X7_termByRelease_e45 n z (iI s)) ∧ ((∀ s : Nat, k ≤ s → (s : Int) < A 0 6 → A 23 s = 0 → (rkZ A s : Int) ≠ v) → f_X7_termByRelease_l4 z n (iI v) f w (iI k) = f_X7_termByRelease_e45 n z w) := by
  intro f
  have w6 := h.2.1
  induction f with
  | zero => intro k w a1 a2; omega
  | succ f ih =>
    intro k w a1 a2
    rw [f_X7_termByRelease_l4, hz 0 6 rfl, it_le (by omega) (by omega) (by omega) (by omega)]
    by_cases e : A 0 6 ≤ k
    · rw [if_pos e]
      exact ⟨fun s s1 s2 => by omega, fun _ => rfl⟩
    · rw [if_neg e, i_0, it_lt (by omega) (by omega) (by omega) (by omega), if_neg (by omega)]
      by_cases c : A 23 k = 0
      · have hr := rk_in h k
        rw [d_isIn1 hz (by omega) c, q_some, if_neg (by decide), d_rank hn h hz hD (by omega) c, q_some, it_eq (by omega) (by omega) (by omega) (by omega)]
        by_cases c2 : (rkZ A k : Int) = v
        · have i := ih (k + 1) (iI k) (by omega) (by omega)
          rw [if_pos c2, q_some, i_1, q_nm]
          refine ⟨fun s s1 s2 s3 s4 => ?_, fun q => absurd c2 (q k (Nat.le_refl _) (by omega) c)⟩
          have e3 : s = k := Classical.byContradiction fun c3 => by
            have := rk_ne (A := A) (a := s) (b := k) s2 (by omega) s3 c c3
            omega
          rw [e3]
          refine i.2 fun u u1 u2 u3 u4 => ?_
          have := rk_ne (A := A) (a := u) (b := k) u2 (by omega) u3 c (by omega)
          omega
        · have i := ih (k + 1) w (by omega) (by omega)
          rw [if_neg c2, q_some, i_1, q_nm]
          refine ⟨fun s s1 s2 s3 s4 => i.1 s ?_ s2 s3 s4, fun q => i.2 fun s s1 => q s (by omega)⟩
          refine Nat.lt_of_le_of_ne s1 fun q => ?_
          rw [q] at c2
          exact c2 s4
      · have i := ih (k + 1) w (by omega) (by omega)
        rw [d_isIn0 h hz (by omega) c, q_some, if_pos (show (0 : Int32) = iI 0 from rfl), q_some, i_1, q_nm]
        refine ⟨fun s s1 s2 s3 s4 => i.1 s ?_ s2 s3 s4, fun q => i.2 fun s s1 => q s (by omega)⟩
        refine Nat.lt_of_le_of_ne s1 fun q => ?_
        rw [q] at c
        exact c s3
theorem sp_termByRelease : SP_termByRelease Rel := by
  intro x t k z a hR
  have hR' := hR
  obtain ⟨A, h, hM, hD, hW, hz, hDz, hT⟩ := hR
  have w6 := h.2.1
  obtain ⟨v, v1, v2, rfl⟩ := i_of a
  have e1 := c_tbr_l (Nat.le_refl 40000) h hM hD v1 v2 40000 0 (by omega) (by omega)
  by_cases c : ∃ s : Nat, (s : Int) < A 0 6 ∧ A 23 s = 0 ∧ (rkZ A s : Int) = v
  · obtain ⟨s, s1, s2, s3⟩ := c
    have e2 := d_tbr_l (Nat.le_refl 40000) h hz hDz (v := v) (by omega) v2 40000 0 (-1) (by omega) (by omega)
    refine ⟨40000, 0, iI s, 0, 40000, iI s, si z 0 0 0, e1.1 s (Nat.zero_le _) s1 s2 s3, Or.inl ⟨rfl, rfl⟩, ?_, sg_s, fun _ => rfl, hR'.th 0⟩
    refine (e2.1 s (Nat.zero_le _) s1 s2 s3).trans ?_
    unfold f_X7_termByRelease_e45
    rw [show (-1 : Int32) = iI (-1) from rfl, it_eq (by omega) (by omega) (by omega) (by omega), if_neg (by omega), q_some, d_fails0, q_some2, if_pos rfl, q_some]
  · have c' : ∀ s : Nat, 0 ≤ s → (s : Int) < A 0 6 → A 23 s = 0 → (rkZ A s : Int) ≠ v := fun s _ s1 s2 s3 => c ⟨s, s1, s2, s3⟩
    refine ⟨40000, 3, 0, 1, 40000, 0, si z 0 0 1, e1.2 c', Or.inr ⟨rfl, rfl⟩, ?_, sg_s, fun q => absurd q (by decide), hR'.th 1⟩
    have e3 : f_X7_termByRelease_e45 40000 z (-1) = some (0, si z 0 0 1) := rfl
    by_cases c2 : 0 ≤ v
    · have e2 := d_tbr_l (Nat.le_refl 40000) h hz hDz (v := v) c2 v2 40000 0 (-1) (by omega) (by omega)
      exact (e2.2 c').trans e3
    · have e2 : f_X7_termByRelease 40000 z (iI v) = f_X7_termByRelease_e45 40000 z (-1) := by
        unfold f_X7_termByRelease
        rw [f_X7_termByRelease_l4, hz 0 6 rfl, i_0, it_le (by omega) (by omega) (by omega) (by omega), it_lt (by omega) (by omega) (by omega) (by omega), if_pos (show v < 0 by omega)]
        split <;> rfl
      exact e2.trans e3
/-! ===== serving day by day ===== -/
theorem sr_l1 {a1 : Int32} {n : Nat} {x : SX} : ∀ (f : Nat) (c l k : Int), 0 ≤ c → c < 1000000 → 0 ≤ k → k < f → k < 1000000 → f_X6_servedRelease_l33 a1 n x f (iI c) (iI l) (iI k) = f_X6_servedRelease_e57 a1 n x (iI (if c < k then 0 else c - k)) (iI (if c < k then l - (k - c) else l)) := by
  intro f
  induction f with
  | zero => intro c l k a1 a2 a3 a4; omega
  | succ f ih =>
    intro c l k b1 b2 b3 b4 b5
    rw [f_X6_servedRelease_l33, show (-1 : Int32) = iI (-1) from rfl, i_0, it_le (by omega) (by omega) (by omega) (by omega)]
    by_cases e : k ≤ 0
    · rw [if_pos e, if_neg (by omega), if_neg (by omega), show c - k = c by omega]
    · rw [if_neg e, it_le (by omega) (by omega) (by omega) (by omega)]
      by_cases e2 : c ≤ 0
      · rw [if_pos e2, i_add, q_nm, q_some2, i_add, q_nm, ih c (l + -1) (k + -1) b1 b2 (by omega) (by omega) (by omega)]
        congr 2
        · split <;> split <;> omega
        · split <;> split <;> omega
      · rw [if_neg e2, i_add, q_nm, q_some2, i_add, q_nm, ih (c + -1) l (k + -1) (by omega) (by omega) (by omega) (by omega) (by omega)]
        congr 2
        · split <;> split <;> omega
        · split <;> split <;> omega
theorem sr_l2 {a1 : Int32} {n : Nat} {x : SX} : ∀ (f : Nat) (c l k : Int), 0 ≤ l → l < 1000000 → 0 ≤ k → k < f → k < 1000000 → f_X6_servedRelease_l75 a1 x n f (iI c) (iI l) (iI k) = f_X6_servedRelease_e96 a1 x n (iI (if l < k then c + l else c + k)) := by
  intro f
  induction f with
  | zero => intro c l k a1 a2 a3 a4; omega
  | succ f ih =>
    intro c l k b3 b4 b5 b6 b7
    rw [f_X6_servedRelease_l75, show (-1 : Int32) = iI (-1) from rfl, i_0, it_le (by omega) (by omega) (by omega) (by omega)]
    by_cases e : k ≤ 0
    · rw [if_pos e, if_neg (by omega), show c + k = c by omega]
    · rw [if_neg e, it_le (by omega) (by omega) (by omega) (by omega)]
      by_cases e2 : l ≤ 0
      · rw [if_pos e2, q_some2, i_add, q_nm, ih c l (k + -1) b3 b4 (by omega) (by omega) (by omega)]
        congr 2
        split <;> split <;> omega
      · rw [if_neg e2, i_add, q_nm, i_1, q_nm, q_some2, i_add, q_nm, ih (c + 1) (l + -1) (k + -1) (by omega) (by omega) (by omega) (by omega) (by omega)]
        congr 2
        split <;> split <;> omega
theorem sr_l3 : ∀ (f : Nat) (d k : Int), 0 ≤ k → k < f → k < 1000000 → f_X6_servedRelease_l110 f (iI d) (iI k) = some (iI (d + k)) := by
  intro f
  induction f with
  | zero => intro d k a1 a2; omega
  | succ f ih =>
    intro d k b1 b2 b3
    rw [f_X6_servedRelease_l110, show (-1 : Int32) = iI (-1) from rfl, i_0, it_le (by omega) (by omega) (by omega) (by omega)]
    by_cases e : k ≤ 0
    · rw [if_pos e, show d + k = d by omega]
    · rw [if_neg e, i_1, q_nm, i_add, q_nm, ih (d + 1) (k + -1) (by omega) (by omega) (by omega)]
      congr 2
      omega
theorem c_serve {n : Nat} (hn : 40000 ≤ n) {x : SX} {A : AA} (h : WF A) (hM : MX x A) (hD : DX x A) {t : Nat} (ht : (t : Int) < A 0 6) (hq : A 23 t = 0) : f_X6_servedRelease n x (iI t) = some (iI (rlZ A t)) := by
  obtain ⟨d18, d19, d20, d21, d22, d23, d24⟩ := hD t ht hq
  have w6 := h.2.1
  have ha := h.al t ht
  have hc := cd_in h t ht
  have had : 0 ≤ adZ A t ∧ adZ A t ≤ 336 := ad_in h _
  have edf : f_X0_daysForChain n x (nI (chM A t)) = some (iI (adZ A t)) := c_dfc hn h hM (h.cm_1024 t ht)
  unfold f_X6_servedRelease
  rw [i_gd (by omega) (by omega) (by decide), i_clN (by omega), d22, d23, d24, q_nm, i_sub, q_nm, q_nm, sr_l1 n (apZ A t) (alZ A t - apZ A t) (cdZ A t) (by omega) (by omega) (by omega) (by omega) (by omega)]
  rw [f_X6_servedRelease_e57, i_gd (by omega) (by omega) (by decide), i_clN (by omega), d18, edf, q_some, sr_l2 n _ _ (adZ A t) (by split <;> omega) (by split <;> omega) (by omega) (by omega) (by omega)]
  rw [f_X6_servedRelease_e96, i_gd (by omega) (by omega) (by decide), i_clN (by omega), d21, q_nm, sr_l3 n _ _ (by (repeat' split) <;> omega) (by (repeat' split) <;> omega) (by (repeat' split) <;> omega)]
  congr 2
  unfold rlZ rlW mxZ
  congr 1
  by_cases c1 : apZ A t < cdZ A t
  · rw [if_pos c1, if_pos c1, if_pos (show apZ A t - cdZ A t < 0 by omega)]
    split <;> split <;> omega
  · rw [if_neg c1, if_neg c1, if_neg (show ¬ apZ A t - cdZ A t < 0 by omega)]
    split <;> split <;> omega
theorem sp_releaseDayByServing : SP_releaseDayByServing Rel := SPs (fx := f_X6_releaseDayByServing) (fm := f_X7_releaseDayByServing) (fun x a k e => by unfold f_X6_releaseDayByServing; rw [e]; rfl) (fun z a k e => by unfold f_X7_releaseDayByServing f_X7_releaseDay; rw [e]; rfl) fun A x z t h hM hD hW hz hDz ht hq e1 e2 => by
  have w6 := h.2.1
  refine ⟨iI (rlZ A t), ?_, ?_⟩
  · unfold f_X6_releaseDayByServing
    rw [e1, q_x0, c_serve (Nat.le_refl _) h hM hD ht hq, q_some]
  · unfold f_X7_releaseDayByServing f_X7_releaseDay
    rw [e2, q_some2, if_pos rfl, i_gd (by omega) (by omega) (by decide), i_clN (by omega), sg_r (by decide), (hDz t ht hq).2.2.2.2.2.2.2.2.1, q_some, q_some2]
