theorem lw_in {n : Nat} {z : SX} {A : AA} (h : WF A) (hz : MZ z A) {cc : Nat} (hc : cc < 1024) {kk a1 v10 : Int32} {kb : Int32 → Int32 → Option (Int32 × SX)} : ∀ (f : Nat) (v : Int) (b : Bool), -1 ≤ v → v < A 0 6 → v + 1 < f → f_X7_lastReleaseWithAward_l106 n z kk a1 v10 kb (nI cc) f (if b = true then 1 else 0) (iI v) = f_X7_lastReleaseWithAward_e146 n z kk a1 v10 kb (if (b || decide (cc &&& chV A v ≠ 0)) = true then 1 else 0) := by
  intro f
  have w6 := h.2.1
  induction f with
  | zero => intro v b c1 c2 c3; omega
  | succ f ih =>
    intro v b c1 c2 c3
    rw [f_X7_lastReleaseWithAward_l106, show (-1 : Int32) = iI (-1) from rfl, it_eq (by omega) (by omega) (by omega) (by omega)]
    by_cases c : v = -1
    · rw [if_pos c]
      unfold chV
      rw [if_pos c, Nat.and_zero, decide_eq_false (fun q => q rfl), Bool.or_false]
    · obtain ⟨t, rfl⟩ := Int.eq_ofNat_of_zero_le (show 0 ≤ v by omega)
      have wt := (h.te t (by omega)).2.2.2.2.2.1
      rw [if_neg c, i_qin (a := (t : Int)) (by omega) (by omega) (by decide), i_clN (t := t) (by omega), hz 22 t rfl, it_shr1 hc (by omega)]
      simp only [q_gdt]
      have e : qbd (if (if b = true then (1 : Int32) else 0) = 0 then (if cc.testBit t = true then some (1 : Int32) else some 0) else some 1) (fun v44 => qnm (iI (A 22 t)) fun v47 => f_X7_lastReleaseWithAward_l106 n z kk a1 v10 kb (nI cc) f v44 v47) = f_X7_lastReleaseWithAward_l106 n z kk a1 v10 kb (nI cc) f (if (b || cc.testBit t) = true then 1 else 0) (iI (A 22 t)) := by
        cases b
        · rw [if_pos (by decide), Bool.false_or]
          cases cc.testBit t <;> rfl
        · rw [if_neg (by decide), Bool.true_or]
          rfl
      refine e.trans ?_
      rw [ih (A 22 t) _ (by omega) (by omega) (by omega), chV_t, h.cm_V (by omega), and_po, Bool.or_assoc]
theorem lw_e {n : Nat} {z : SX} {A : AA} (h : WF A) (hz : MZ z A) (hD : DZ z A) {k : Nat} (hk : (k : Int) < A 0 6) {ex : Int} (x0 : 0 ≤ ex) (x1 : ex ≤ 42) {m : Int} (m0 : 0 ≤ m) (m1 : m ≤ 1000000) {kb : Int32 → Int32 → Option (Int32 × SX)} (b : Bool) : f_X7_lastReleaseWithAward_e146 n z (iI k) (iI ex) (iI m) kb (if b = true then 1 else 0) = kb (iI (if A 23 k = 0 then (if m < (if enZ A k < rlZ A k + (if b = true then ex else 0) then enZ A k else rlZ A k + (if b = true then ex else 0)) then (if enZ A k < rlZ A k + (if b = true then ex else 0) then enZ A k else rlZ A k + (if b = true then ex else 0)) else m) else m)) (iI ((k : Int) + 1)) := by
  have w6 := h.2.1
  rw [f_X7_lastReleaseWithAward_e146]
  by_cases c : A 23 k = 0
  · have hr := rl_in h hk
    have dd := (hD k hk c).2.2.2.2.2.2.2.2
    have hb : 0 ≤ (if b = true then ex else 0) ∧ (if b = true then ex else 0) ≤ 42 := by split <;> omega
    have eb : (if (if b = true then (1 : Int32) else 0) = 0 then some (0 : Int32) else some (iI ex)) = some (iI (if b = true then ex else 0)) := by
      cases b <;> rfl
    rw [if_pos c, d_isIn1 hz (by omega) c, q_some, if_neg (by decide), i_qin (by omega) (by omega) (by decide), q_gdt, eb, i_clN (by omega), dd.1, dd.2, q_some, i_add, q_some, q_some, if_neg (by decide), q_gdt]
    generalize (if b = true then ex else 0) = e at hb ⊢
    rw [it_le (by omega) (by omega) (by omega) (by omega), q_ite, i_ite]
    have hs : (if rlZ A k + e ≤ enZ A k then rlZ A k + e else enZ A k) = (if enZ A k < rlZ A k + e then enZ A k else rlZ A k + e) := by split <;> split <;> omega
    rw [hs]
    have hu : 0 ≤ (if enZ A k < rlZ A k + e then enZ A k else rlZ A k + e) ∧ (if enZ A k < rlZ A k + e then enZ A k else rlZ A k + e) ≤ 100000 := by split <;> omega
    generalize (if enZ A k < rlZ A k + e then enZ A k else rlZ A k + e) = u at hu ⊢
    rw [it_le (by omega) (by omega) (by omega) (by omega), q_ite, i_ite, i_1, q_nm]
    congr 2
    split <;> split <;> omega
  · rw [if_neg c, d_isIn0 h hz (by omega) c, q_some, if_pos rfl, q_some, q_some, if_pos rfl, q_some, i_0, it_le (by omega) (by omega) (by omega) (by omega), if_pos m0, q_some, i_1, q_nm]
theorem rlE_alt {A : AA} (h : WF A) {k cc : Nat} (hk : (k : Int) < A 0 6) {ex : Int} (x0 : 0 ≤ ex) : (if enZ A k < rlZ A k + (if decide (cc &&& chM A k ≠ 0) = true then ex else 0) then enZ A k else rlZ A k + (if decide (cc &&& chM A k ≠ 0) = true then ex else 0)) = rlE A cc ex k := by
  have e1 : (if decide (cc &&& chM A k ≠ 0) = true then ex else 0) = (if chM A k &&& cc = 0 then 0 else ex) := by
    rw [Nat.and_comm cc]
    by_cases q : chM A k &&& cc = 0
    · rw [if_pos q, decide_eq_false (fun q2 => q2 q), if_neg (by decide)]
    · rw [if_neg q, decide_eq_true q, if_pos rfl]
  rw [e1]
  have e2 : 0 ≤ (if chM A k &&& cc = 0 then 0 else ex) := by split <;> omega
  unfold rlE rlZ rlW enZ
  generalize (if chM A k &&& cc = 0 then 0 else ex) = e at *
  split <;> split <;> split <;> omega
theorem lw_l {n : Nat} (hn : 40000 ≤ n) {z : SX} {A : AA} (h : WF A) (hz : MZ z A) (hD : DZ z A) {cc : Nat} (hc : cc < 1024) {ex : Int} (x0 : 0 ≤ ex) (x1 : ex ≤ 42) : ∀ (f k : Nat), (k : Int) ≤ A 0 6 → A 0 6 < k + f → f_X7_lastReleaseWithAward_l90 z n (iI ex) (nI cc) f (iI (mxF (A 23) (rlE A cc ex) k)) (iI k) = some (iI (mxF (A 23) (rlE A cc ex) (A 0 6).toNat), z) := by
  intro f
  have w6 := h.2.1
  induction f with
  | zero => intro k a b; omega
  | succ f ih =>
    intro k a b
    rw [f_X7_lastReleaseWithAward_l90, hz 0 6 rfl, it_le (by omega) (by omega) (by omega) (by omega)]
    by_cases e : A 0 6 ≤ k
    · rw [if_pos e, show (A 0 6).toNat = k by omega]
    · have i := ih (k + 1) (by omega) (by omega)
      have hm := mxF_in (q := A 23) (g := rlE A cc ex) (b := 60000) (by omega) k fun j hj _ => (rlE_in h x0 (t := j) (by omega)).2
      have e1 := lw_in (n := n) h hz hc (kk := iI (k : Int)) (a1 := iI ex) (v10 := iI (mxF (A 23) (rlE A cc ex) k)) (kb := f_X7_lastReleaseWithAward_l90 z n (iI ex) (nI cc) f) n k false (by omega) (by omega) (by omega)
      rw [Bool.false_or, chV_t, lw_e h hz hD (by omega) x0 x1 hm.1 (by omega), rlE_alt h (by omega) x0] at e1
      rw [if_neg e]
      refine e1.trans ?_
      rw [mxF] at i
      exact i
theorem sp_lastReleaseWithAward : SP_lastReleaseWithAward Rel := by
  intro x t k z a hR
  have hR' := hR
  obtain ⟨A, h, hM, hD, hW, hz, hDz, hT⟩ := hR
  have w1 := h.1
  have w6 := h.2.1
  obtain ⟨v, v1, v2, rfl⟩ := i_of a
  have e1 := c_ckAw (n := 40000) v1 v2
  have g := d_in_ (n := 40000) (a := v) (b := 1) (c := 42) v1 v2 (by omega) (by omega) (by omega) (by omega)
  obtain ⟨s1, s2, s3, -⟩ := st_in A
  by_cases c : 1 ≤ v ∧ v ≤ 42
  · obtain ⟨u, e2, u1, u2, u3⟩ := c_custodyEnd (Nat.le_refl 40000) h hM hD
    by_cases c2 : stA A = 2
    · have c3 := s3.mp c2
      have hz' : MZ (si z 0 0 0) A := MZ_scr hz rfl
      have hD' : DZ (si z 0 0 0) A := DZ_scr hDz (by omega)
      refine ⟨40000, 0, iI (mxF (A 23) (rlE A (unM A) v) (A 0 6).toNat), 0, 40000, iI (mxF (A 23) (rlE A (unM A) v) (A 0 6).toNat), si z 0 0 0, ?_, Or.inl ⟨rfl, rfl⟩, ?_, sg_s, fun _ => rfl, hR'.th 0⟩
      · unfold f_X6_lastReleaseWithAward
        rw [e1.1 c, q_x0, e2, q_some, hM.1, it_lt (by omega) (by omega) (by omega) (by omega), if_pos (by omega), c_un (Nat.le_refl _) h hM hD, q_some, c_grE (Nat.le_refl _) h hM hD (un_lt h) (by omega) c.2, q_some]
      · unfold f_X7_lastReleaseWithAward
        rw [show (1 : Int32) = iI 1 from rfl, show (42 : Int32) = iI 42 from rfl, g.1 c, q_some, if_neg (by decide), d_status (Nat.le_refl _) h hz hDz, q_some, show (2 : Int32) = iI 2 from rfl, it_eq (by omega) (by omega) (by omega) (by omega), if_pos c2, q_some, d_fails0, q_some2, if_pos rfl, d_unL (Nat.le_refl _) h hz' hD']
        exact lw_l (Nat.le_refl _) h hz' hD' (un_lt h) (by omega) c.2 40000 0 (by omega) (by omega)
    · have c3 : ¬ (A 0 1 < roA A ∨ A 0 1 < rcE A) := fun q => c2 (s3.mpr q)
      refine ⟨40000, 2, 0, 2, 40000, 0, si z 0 0 2, ?_, Or.inr (Or.inr ⟨rfl, rfl⟩), ?_, sg_s, fun q => absurd q (by decide), hR'.th 2⟩
      · unfold f_X6_lastReleaseWithAward
        rw [e1.1 c, q_x0, e2, q_some, hM.1, it_lt (by omega) (by omega) (by omega) (by omega), if_neg (by omega)]
      · unfold f_X7_lastReleaseWithAward
        rw [show (1 : Int32) = iI 1 from rfl, show (42 : Int32) = iI 42 from rfl, g.1 c, q_some, if_neg (by decide), d_status (Nat.le_refl _) h hz hDz, q_some, show (2 : Int32) = iI 2 from rfl, it_eq (by omega) (by omega) (by omega) (by omega), if_neg c2]
        rfl
  · refine ⟨40000, 1, 0, 1, 40000, 0, si z 0 0 1, ?_, Or.inr (Or.inl ⟨rfl, rfl⟩), ?_, sg_s, fun q => absurd q (by decide), hR'.th 1⟩
    · unfold f_X6_lastReleaseWithAward
      rw [e1.2 c]
      rfl
    · unfold f_X7_lastReleaseWithAward
      rw [show (1 : Int32) = iI 1 from rfl, show (42 : Int32) = iI 42 from rfl, g.2 c]
      rfl
