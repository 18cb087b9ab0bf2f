/-! ===== the class's recall, status, checks; the model's readers ===== -/
theorem ar_in {A : AA} (h : WF A) : 0 ≤ arZ A ∧ arZ A ≤ 336 := by
  have w := h.2.2.2.1
  have := fb_si_in (f := fun k => if A 31 k = A 0 22 - 1 then A 29 k else 0) (b := 42) (A 0 18).toNat (fun k hk => by
    have w2 := h.2.2.2.2.2.2.2.2.1 k (by omega)
    split <;> omega)
  unfold arZ
  omega
theorem rc_in {A : AA} (h : WF A) : 0 ≤ rcE A ∧ rcE A ≤ 1000000 := by
  have ha := ar_in h
  have w := h.2.2.2.2.1
  unfold rcE
  by_cases c : A 0 22 = 0
  · rw [if_pos c]; omega
  · have w2 := h.2.2.2.2.2.2.2.2.2.1 (by omega)
    rw [if_neg c]
    split
    · omega
    · split <;> omega
theorem c_dfr_l {x : SX} {A : AA} (h : WF A) (hM : MX x A) : ∀ (f k : Nat), (k : Int) ≤ A 0 18 → A 0 18 < k + f → f_X0_daysForRecall_l4 x (iI (A 0 22 - 1)) f (iI (fb_si (fun k => if A 31 k = A 0 22 - 1 then A 29 k else 0) k)) (iI k) = some (iI (arZ A)) := by
  intro f
  obtain ⟨m8, m9, m10, m17, m25, m33, m40, mR, mR0, r10, r11, r12, r13, r14, r15, r16, r30, r31, r32, r35, r36, r37⟩ := hM
  have w18 := h.2.2.2.1
  have w22 := h.2.2.2.2.1
  induction f with
  | zero => intro k a b; omega
  | succ f ih =>
    intro k a b
    rw [f_X0_daysForRecall_l4, m33, it_le (by omega) (by omega) (by omega) (by omega)]
    by_cases e : A 0 18 ≤ k
    · rw [if_pos e]
      unfold arZ
      rw [show (A 0 18).toNat = k by omega]
    · have w := h.2.2.2.2.2.2.2.2.1 k (by omega)
      have i := ih (k + 1) (by omega) (by omega)
      rw [fb_si_succ] at i
      rw [if_neg e, i_gd (by omega) (by omega) (by decide), i_clN (by omega), r37, r35, it_eq (by omega) (by omega) (by omega) (by omega)]
      by_cases c : A 31 k = A 0 22 - 1
      · rw [if_pos c, q_nm, q_some, q_nm, i_1, i_add]
        rw [if_pos c] at i
        exact i
      · rw [if_neg c, q_some, q_nm, i_1]
        rw [if_neg c, Int.add_zero] at i
        exact i
theorem c_lre {n : Nat} (hn : 40000 ≤ n) {x : SX} {A : AA} (h : WF A) (hM : MX x A) (h0 : 0 < A 0 22) : f_X6_latestRecallEnd n x = some (iI (rcE A)) := by
  have hl := c_dfr_l h hM n 0 (by have := h.2.2.2.1; omega) (by have := h.2.2.2.1; omega)
  obtain ⟨m8, m9, m10, m17, m25, m33, m40, mR, mR0, -⟩ := hM
  obtain ⟨g1, g2, g3⟩ := mR h0
  have w := h.2.2.2.2.2.2.2.2.2.1 h0
  have ha := ar_in h
  unfold f_X6_latestRecallEnd f_X0_daysForRecall f_X3_endWith
  rw [m40]
  have hl' : f_X0_daysForRecall_l4 x (iI (A 0 22 - 1)) n 0 0 = some (iI (arZ A)) := hl
  rw [hl', q_some, g1, g2, g3]
  unfold rcE
  rw [if_neg (show ¬ A 0 22 = 0 by omega)]
  simp (disch := omega) only [i_0, i_eq, i_add, i_lt, i_ite, q_ites, q_some]
def runs (A : AA) : Prop := 0 < A 0 22 ∧ A 0 1 < rcE A
theorem c_running {n : Nat} (hn : 40000 ≤ n) {x : SX} {A : AA} (h : WF A) (hM : MX x A) : (runs A → f_X6_recallIsRunning n x = some 1) ∧ (¬ runs A → f_X6_recallIsRunning n x = some 0) := by
  have hr := rc_in h
  have w1 := h.1
  have w := h.2.2.2.2.1
  have m8 := hM.1
  have m40 := hM.2.2.2.2.2.2.1
  have e : f_X6_recallIsRunning n x = qbd (if A 0 22 ≤ 0 then some (0 : Int32) else qbd (f_X6_latestRecallEnd n x) fun r7 => if r7 ≤ x.1 0 8 then some (0 : Int32) else some (1 : Int32)) fun v3 => qgd (qz v3) (some v3) := by
    unfold f_X6_recallIsRunning f_X6_recallsMade
    rw [m40, q_some, i_1, i_0, it_le (by omega) (by omega) (by omega) (by omega), show A 0 22 - 1 + 1 = A 0 22 by omega]
  rw [e]
  unfold runs
  by_cases c : A 0 22 ≤ 0
  · rw [if_pos c]; exact ⟨fun z => by omega, fun _ => rfl⟩
  · rw [if_neg c, c_lre hn h hM (by omega), q_some, m8, it_le (by omega) (by omega) (by omega) (by omega)]
    by_cases c2 : rcE A ≤ A 0 1
    · rw [if_pos c2]; exact ⟨fun z => by omega, fun _ => rfl⟩
    · rw [if_neg c2]; exact ⟨fun _ => rfl, fun z => by omega⟩
/-- where custody ends, or a day that isn't in the future -/
def IsCu (A : AA) (v ro : Int) : Prop := 0 ≤ v ∧ v ≤ 1000000 ∧ ((v = ro ∧ rcE A ≤ A 0 1) ∨ (v = ro ∧ rcE A ≤ ro) ∨ (v = rcE A ∧ ro ≤ rcE A))
theorem c_custodyEnd {n : Nat} (hn : 40000 ≤ n) {x : SX} {A : AA} (h : WF A) (hM : MX x A) (hD : DX x A) : ∃ v : Int, f_X6_custodyEnd n x = some (iI v) ∧ IsCu A v (roA A) := by
  have hr := rc_in h
  have ho := ro_in h
  have w1 := h.1
  have w := h.2.2.2.2.1
  unfold f_X6_custodyEnd
  rw [c_gr hn h hM hD, q_some]
  by_cases c : runs A
  · rw [(c_running hn h hM).1 c, q_some, if_neg (by decide), c_lre hn h hM c.1, q_some, q_some, it_lt (by omega) (by omega) (by omega) (by omega), i_ite]
    refine ⟨_, rfl, ?_⟩
    unfold IsCu
    split <;> omega
  · rw [(c_running hn h hM).2 c, q_some, if_pos rfl, q_some]
    refine ⟨_, rfl, by omega, by omega, Or.inl ⟨rfl, ?_⟩⟩
    by_cases c2 : A 0 22 = 0
    · unfold rcE; rw [if_pos c2]; omega
    · unfold runs at c
      omega
noncomputable def stA (A : AA) : Int := if A 0 1 < roA A ∨ A 0 1 < rcE A then 2 else if A 0 1 < eoA A then 1 else 0
theorem xq_status {n : Nat} (hn : 40000 ≤ n) {x : SX} {A : AA} (h : WF A) (hM : MX x A) (hD : DX x A) : f_X6_currentStatus n x = some (iI (stA A)) := by
  obtain ⟨v, e, hv⟩ := c_custodyEnd hn h hM hD
  have m8 := hM.1
  have w1 := h.1
  have he := eo_in h
  unfold IsCu at hv
  unfold f_X6_currentStatus stA
  rw [e, q_some, m8, it_le (by omega) (by omega) (by omega) (by omega)]
  by_cases c : v ≤ A 0 1
  · rw [if_pos c, if_neg (show ¬ (A 0 1 < roA A ∨ A 0 1 < rcE A) by omega), c_ge hn h hM hD, q_some, it_le (by omega) (by omega) (by omega) (by omega)]
    by_cases c2 : eoA A ≤ A 0 1
    · rw [if_pos c2, if_neg (by omega)]; rfl
    · rw [if_neg c2, if_pos (by omega)]; rfl
  · rw [if_neg c, if_pos (show A 0 1 < roA A ∨ A 0 1 < rcE A by omega)]; rfl
/-! checks -/
theorem c_checkTerm {n : Nat} {x : SX} {A : AA} (h : WF A) (hM : MX x A) {z : Int} (z1 : -2147483648 ≤ z) (z2 : z < 2147483648) : (0 ≤ z ∧ z < A 0 6 → f_X6_checkTerm n x (iI z) = some 0) ∧ (¬ (0 ≤ z ∧ z < A 0 6) → f_X6_checkTerm n x (iI z) = some 3) := by
  have m17 := hM.2.2.2.1
  have w := h.2.1
  unfold f_X6_checkTerm
  rw [m17, i_0, it_lt (by omega) (by omega) (by omega) (by omega), it_lt (by omega) (by omega) (by omega) (by omega)]
  by_cases c : z < 0
  · rw [if_pos c]; exact ⟨fun q => by omega, fun _ => rfl⟩
  · rw [if_neg c]
    by_cases c2 : z < A 0 6
    · rw [if_pos c2]; exact ⟨fun _ => rfl, fun q => by omega⟩
    · rw [if_neg c2]; exact ⟨fun q => by omega, fun _ => rfl⟩
theorem c_checkStanding {n : Nat} {x : SX} {A : AA} (h : WF A) (hM : MX x A) {z : Int} (z1 : -2147483648 ≤ z) (z2 : z < 2147483648) : (0 ≤ z → z < A 0 6 → A 23 z.toNat = 0 → f_X6_checkStandingTerm n x (iI z) = some 0) ∧ (0 ≤ z → z < A 0 6 → A 23 z.toNat ≠ 0 → f_X6_checkStandingTerm n x (iI z) = some 2) ∧ (¬ (0 ≤ z ∧ z < A 0 6) → f_X6_checkStandingTerm n x (iI z) = some 3) := by
  obtain ⟨h1, h2⟩ := c_checkTerm (n := n) h hM z1 z2
  have r16 := hM.2.2.2.2.2.2.2.2.2.2.2.2.2.2.2.1
  have w := h.2.1
  have hq := q_23 h z.toNat
  unfold f_X6_checkStandingTerm
  refine ⟨fun a b c => ?_, fun a b c => ?_, fun a => ?_⟩
  · rw [h1 ⟨a, b⟩]
    show qgd _ _ = _
    rw [i_gd (by omega) (by omega) (by decide), i_cl (by omega) (by omega), r16, c]
    rfl
  · rw [h1 ⟨a, b⟩]
    show qgd _ _ = _
    rw [i_gd (by omega) (by omega) (by decide), i_cl (by omega) (by omega), r16, show A 23 z.toNat = 1 by omega]
    rfl
  · rw [h2 a]; rfl
theorem c_checkAward {n : Nat} {x : SX} {A : AA} (h : WF A) (hM : MX x A) {z : Int} (z1 : -2147483648 ≤ z) (z2 : z < 2147483648) : (0 ≤ z ∧ z < A 0 18 → f_X6_checkAward n x (iI z) = some 0) ∧ (¬ (0 ≤ z ∧ z < A 0 18) → f_X6_checkAward n x (iI z) = some 3) := by
  have m33 := hM.2.2.2.2.2.1
  have w := h.2.2.2.1
  unfold f_X6_checkAward
  rw [m33, i_0, it_lt (by omega) (by omega) (by omega) (by omega), it_lt (by omega) (by omega) (by omega) (by omega)]
  by_cases c : z < 0
  · rw [if_pos c]; exact ⟨fun q => by omega, fun _ => rfl⟩
  · rw [if_neg c]
    by_cases c2 : z < A 0 18
    · rw [if_pos c2]; exact ⟨fun _ => rfl, fun q => by omega⟩
    · rw [if_neg c2]; exact ⟨fun q => by omega, fun _ => rfl⟩
/-- how many terms stand -/
def nsA (A : AA) : Nat := fb_ct (fun t => decide (A 23 t = 0)) (A 0 6).toNat
theorem c_standing_l {x : SX} {A : AA} (h : WF A) (hM : MX x A) : ∀ (f t : Nat), (t : Int) ≤ A 0 6 → A 0 6 < t + f → f_X5_standing_l4 x f (iI (fb_ct (fun t => decide (A 23 t = 0)) t : Nat)) (iI t) = some (iI (nsA A : Nat)) := by
  intro f
  obtain ⟨m8, m9, m10, m17, m25, m33, m40, mR, mR0, r10, r11, r12, r13, r14, r15, r16, r30, r31, r32, r35, r36, r37⟩ := hM
  have w6 := h.2.1
  induction f with
  | zero => intro k a b; omega
  | succ f ih =>
    intro t a b
    rw [f_X5_standing_l4, m17, it_le (by omega) (by omega) (by omega) (by omega)]
    by_cases e : A 0 6 ≤ t
    · rw [if_pos e]
      unfold nsA
      rw [show (A 0 6).toNat = t by omega]
    · have hq := q_23 h t
      have i := ih (t + 1) (by omega) (by omega)
      rw [fb_ct_succ] at i
      rw [if_neg e, i_gd (by omega) (by omega) (by decide), i_clN (by omega), r16, i_0, it_eq (by omega) (by omega) (by omega) (by omega)]
      by_cases c : A 23 t = 0
      · rw [if_pos c, q_nm, q_some, q_nm, i_1, i_1]
        rw [decide_eq_true c, if_pos rfl] at i
        exact i
      · rw [if_neg c, q_some, q_nm, i_1]
        rw [decide_eq_false c, if_neg (by decide), Nat.add_zero] at i
        exact i
theorem c_standing {n : Nat} (hn : 40000 ≤ n) {x : SX} {A : AA} (h : WF A) (hM : MX x A) : f_X5_standing n x = some (iI (nsA A : Nat)) := by
  have w6 := h.2.1
  exact c_standing_l h hM n 0 (by omega) (by omega)
theorem ns_le (A : AA) (h : WF A) : nsA A ≤ 10 := by
  have := fb_ct_le (fun t => decide (A 23 t = 0)) (A 0 6).toNat
  have w := h.2.1
  unfold nsA
  omega
theorem c_checkAny {n : Nat} (hn : 40000 ≤ n) {x : SX} {A : AA} (h : WF A) (hM : MX x A) : (0 < nsA A → f_X6_checkAnyTermStands n x = some 0) ∧ (nsA A = 0 → f_X6_checkAnyTermStands n x = some 4) := by
  have := ns_le A h
  unfold f_X6_checkAnyTermStands
  rw [c_standing hn h hM, q_some, i_0, it_eq (by omega) (by omega) (by omega) (by omega)]
  exact ⟨fun q => if_neg (by omega), fun q => if_pos (by omega)⟩
/-! ===== the model ===== -/
def okb : Nat → Nat → Bool
  | 0, k => k == 1 || k == 4 || k == 5 || k == 6 || k == 14 || k == 18 || k == 22 || k == 23 || k == 24 || k == 25 || k == 26
  | 12, _ => true
  | 13, _ => true
  | 17, _ => true
  | 18, _ => true
  | 19, _ => true
  | 20, _ => true
  | 21, _ => true
  | 22, _ => true
  | 23, _ => true
  | 25, _ => true
  | 26, _ => true
  | 27, _ => true
  | 29, _ => true
  | 30, _ => true
  | 31, _ => true
  | _, _ => false
def MZ (z : SX) (A : AA) : Prop := ∀ r k, okb r k = true → z.1 r k = iI (A r k)
def DZ (z : SX) (A : AA) : Prop := ∀ t : Nat, (t : Int) < A 0 6 → A 23 t = 0 →
  z.1 40 t = iI (stZ A t) ∧ z.1 41 t = iI (lnZ A t) ∧ z.1 42 t = iI (ptZ A t) ∧ z.1 43 t = iI (fsZ A t) ∧ z.1 44 t = iI (alZ A t) ∧ z.1 45 t = iI (apZ A t) ∧ z.1 46 t = iI (cdZ A t) ∧ z.1 47 t = iI (adZ A t) ∧ z.1 48 t = iI (rlZ A t) ∧ z.1 49 t = iI (enZ A t)
theorem si_ap (x : SX) (r k r' k' : Nat) (v : Int32) : (si x r k v).1 r' k' = if r' = r ∧ k' = k then v else x.1 r' k' := by
  by_cases h : r' = r
  · subst h
    by_cases h2 : k' = k
    · subst h2; rw [sg_s, if_pos ⟨rfl, rfl⟩]
    · rw [sg_k h2, if_neg (fun q => h2 q.2)]
  · rw [sg_r h, if_neg (fun q => h q.1)]
theorem aU_ap (A : AA) (r k r' k' : Nat) (v : Int) : aU A r k v r' k' = if r' = r ∧ k' = k then v else A r' k' := by
  unfold aU
  by_cases h : r' = r
  · subst h
    rw [if_pos rfl]
    by_cases h2 : k' = k
    · subst h2; rw [if_pos rfl, if_pos ⟨rfl, rfl⟩]
    · rw [if_neg h2, if_neg (fun q => h2 q.2)]
  · rw [if_neg h, if_neg (fun q => h q.1)]
theorem MZ_put {z : SX} {A : AA} (h : MZ z A) {r k : Nat} {v : Int} : MZ (si z r k (iI v)) (aU A r k v) := by
  intro r' k' hk
  rw [si_ap, aU_ap, h r' k' hk, i_ite]
theorem MZ_scr {z : SX} {A : AA} (h : MZ z A) {r k : Nat} {v : Int32} (hk : okb r k = false) : MZ (si z r k v) A := by
  intro r' k' hk'
  rw [si_ap, if_neg]
  · exact h r' k' hk'
  · rintro ⟨rfl, rfl⟩
    rw [hk] at hk'
    cases hk'
theorem DZ_scr {z : SX} {A : AA} (h : DZ z A) {r k : Nat} {v : Int32} (hr : r < 40 ∨ 49 < r) : DZ (si z r k v) A := by
  intro t h1 h2
  have := h t h1 h2
  rw [sg_r (by omega), sg_r (by omega), sg_r (by omega), sg_r (by omega), sg_r (by omega), sg_r (by omega), sg_r (by omega), sg_r (by omega), sg_r (by omega), sg_r (by omega)]
  exact this
theorem MZ_sp3 {z : SX} {A : AA} (h : MZ z A) {y m dd : Int} : MZ (sp3 z y m dd) A := MZ_scr (MZ_scr (MZ_scr h rfl) rfl) rfl
theorem DZ_sp3 {z : SX} {A : AA} (h : DZ z A) {y m dd : Int} : DZ (sp3 z y m dd) A := DZ_scr (DZ_scr (DZ_scr h (by omega)) (by omega)) (by omega)
theorem d_isIn1 {n : Nat} {z : SX} {A : AA} (hz : MZ z A) {t : Nat} (ht : t < 10) (hq : A 23 t = 0) : f_X7_isIn n z (iI t) = some 1 := by
  unfold f_X7_isIn
  rw [i_gd (by omega) (by omega) (by decide), i_clN (by omega), hz 23 t rfl, hq]
  rfl
theorem d_isIn0 {n : Nat} {z : SX} {A : AA} (h : WF A) (hz : MZ z A) {t : Nat} (ht : t < 10) (hq : ¬ A 23 t = 0) : f_X7_isIn n z (iI t) = some 0 := by
  have := q_23 h t
  unfold f_X7_isIn
  rw [i_gd (by omega) (by omega) (by decide), i_clN (by omega), hz 23 t rfl, show A 23 t = 1 by omega]
  rfl
theorem d_eo_l {n : Nat} {z : SX} {A : AA} (h : WF A) (hz : MZ z A) (hD : DZ z A) : ∀ (f t : Nat), (t : Int) ≤ A 0 6 → A 0 6 < t + f → f_X7_endOfAll_l4 z n f (iI (mxF (A 23) (enZ A) t)) (iI t) = some (iI (eoA A)) := by
  intro f
  have w6 := h.2.1
  induction f with
  | zero => intro k a b; omega
  | succ f ih =>
    intro t a b
    rw [f_X7_endOfAll_l4, hz 0 6 rfl, it_le (by omega) (by omega) (by omega) (by omega)]
    by_cases e : A 0 6 ≤ t
    · rw [if_pos e]
      unfold eoA
      rw [show (A 0 6).toNat = t by omega]
    · have i := ih (t + 1) (by omega) (by omega)
      have hm := mxF_in (q := A 23) (g := enZ A) (b := 60000) (by omega) t fun k hk _ => (en_in h (t := k) (by omega)).2
      rw [mxF] at i
      rw [if_neg e]
      by_cases c : A 23 t = 0
      · have he := en_in h (t := t) (by omega)
        rw [if_pos c] at i
        rw [d_isIn1 hz (by omega) c, q_some, if_neg (by decide), i_gd (by omega) (by omega) (by decide), i_clN (by omega), (hD t (by omega) c).2.2.2.2.2.2.2.2.2, q_some, it_le (by omega) (by omega) (by omega) (by omega), q_ite, i_ite, q_nm, i_1]
        rw [show (if enZ A t ≤ mxF (A 23) (enZ A) t then mxF (A 23) (enZ A) t else enZ A t) = if mxF (A 23) (enZ A) t < enZ A t then enZ A t else mxF (A 23) (enZ A) t by split <;> split <;> omega]
        exact i
      · rw [if_neg c] at i
        rw [d_isIn0 h hz (by omega) c, q_some, if_pos rfl, q_some, i_0, it_le (by omega) (by omega) (by omega) (by omega), if_pos hm.1, q_some, q_nm, i_1]
        exact i
theorem d_eo {n : Nat} (hn : 40000 ≤ n) {z : SX} {A : AA} (h : WF A) (hz : MZ z A) (hD : DZ z A) : f_X7_endOfAll n z = some (iI (eoA A)) := by
  have w6 := h.2.1
  exact d_eo_l h hz hD n 0 (by omega) (by omega)
theorem d_ro_l {n : Nat} {z : SX} {A : AA} (h : WF A) (hz : MZ z A) (hD : DZ z A) : ∀ (f t : Nat), (t : Int) ≤ A 0 6 → A 0 6 < t + f → f_X7_releaseOfAll_l4 z n f (iI (mxF (A 23) (rlZ A) t)) (iI t) = some (iI (roA A)) := by
  intro f
  have w6 := h.2.1
  induction f with
  | zero => intro k a b; omega
  | succ f ih =>
    intro t a b
    rw [f_X7_releaseOfAll_l4, hz 0 6 rfl, it_le (by omega) (by omega) (by omega) (by omega)]
    by_cases e : A 0 6 ≤ t
    · rw [if_pos e]
      unfold roA
      rw [show (A 0 6).toNat = t by omega]
    · have i := ih (t + 1) (by omega) (by omega)
      have hm := mxF_in (q := A 23) (g := rlZ A) (b := 60000) (by omega) t fun k hk _ => by have := rl_in h (t := k) (by omega); omega
      rw [mxF] at i
      rw [if_neg e]
      by_cases c : A 23 t = 0
      · have he := rl_in h (t := t) (by omega)
        rw [if_pos c] at i
        rw [d_isIn1 hz (by omega) c, q_some, if_neg (by decide), i_gd (by omega) (by omega) (by decide), i_clN (by omega), (hD t (by omega) c).2.2.2.2.2.2.2.2.1, q_some, it_le (by omega) (by omega) (by omega) (by omega), q_ite, i_ite, q_nm, i_1]
        rw [show (if rlZ A t ≤ mxF (A 23) (rlZ A) t then mxF (A 23) (rlZ A) t else rlZ A t) = if mxF (A 23) (rlZ A) t < rlZ A t then rlZ A t else mxF (A 23) (rlZ A) t by split <;> split <;> omega]
        exact i
      · rw [if_neg c] at i
        rw [d_isIn0 h hz (by omega) c, q_some, if_pos rfl, q_some, i_0, it_le (by omega) (by omega) (by omega) (by omega), if_pos hm.1, q_some, q_nm, i_1]
        exact i
theorem d_ro {n : Nat} (hn : 40000 ≤ n) {z : SX} {A : AA} (h : WF A) (hz : MZ z A) (hD : DZ z A) : f_X7_releaseOfAll n z = some (iI (roA A)) := by
  have w6 := h.2.1
  exact d_ro_l h hz hD n 0 (by omega) (by omega)
theorem d_rc_l {z : SX} {A : AA} (h : WF A) (hz : MZ z A) (h0 : 0 < A 0 22) : ∀ (f k : Nat), (k : Int) ≤ A 0 18 → A 0 18 < k + f → f_X7_endOfRecall_l42 z f (iI (A 0 23 + A 0 24 + fb_si (fun k => if A 31 k = A 0 22 - 1 then A 29 k else 0) k)) (iI k) = some (iI (if A 0 23 + A 0 24 + arZ A < A 0 25 then A 0 23 + A 0 24 + arZ A else A 0 25)) := by
  intro f
  have w18 := h.2.2.2.1
  have w22 := h.2.2.2.2.1
  have w := h.2.2.2.2.2.2.2.2.2.1 h0
  have ha := ar_in h
  induction f with
  | zero => intro k a b; omega
  | succ f ih =>
    intro k a b
    rw [f_X7_endOfRecall_l42, hz 0 18 rfl, it_le (by omega) (by omega) (by omega) (by omega)]
    by_cases e : A 0 18 ≤ k
    · rw [if_pos e, f_X7_endOfRecall_e84, hz 0 25 rfl, show k = (A 0 18).toNat by omega]
      show qbd (if iI (A 0 25) ≤ iI (A 0 23 + A 0 24 + arZ A) then _ else some (iI (A 0 23 + A 0 24 + arZ A))) _ = _
      rw [it_le (by omega) (by omega) (by omega) (by omega), q_ite, i_ite]
      congr 2
      split <;> split <;> omega
    · have w := h.2.2.2.2.2.2.2.2.1 k (by omega)
      have i := ih (k + 1) (by omega) (by omega)
      rw [fb_si_succ, ← Int.add_assoc] at i
      rw [if_neg e, i_gd (by omega) (by omega) (by decide), i_clN (by omega), hz 31 k rfl, hz 29 k rfl, hz 0 22 rfl, show iI (A 0 22) - 1 = iI (A 0 22 - 1) from i_sub _ 1, it_eq (by omega) (by omega) (by omega) (by omega), i_0, q_ite, i_ite, i_add, q_nm, q_nm, i_1]
      exact i
theorem d_rc {n : Nat} (hn : 40000 ≤ n) {z : SX} {A : AA} (h : WF A) (hz : MZ z A) : f_X7_endOfRecall n z = some (iI (rcE A)) := by
  have w22 := h.2.2.2.2.1
  have w18 := h.2.2.2.1
  unfold f_X7_endOfRecall rcE
  rw [hz 0 22 rfl, hz 0 24 rfl, hz 0 23 rfl, hz 0 25 rfl, i_0, it_eq (by omega) (by omega) (by omega) (by omega)]
  by_cases c : A 0 22 = 0
  · rw [if_pos c, if_pos c, c, if_pos rfl, q_some]
  · have w := h.2.2.2.2.2.2.2.2.2.1 (by omega)
    rw [if_neg c, if_neg c, it_eq (by omega) (by omega) (by omega) (by omega)]
    by_cases c2 : A 0 24 = 0
    · rw [if_pos c2, if_pos c2, it_eq (by omega) (by omega) (by omega) (by omega), if_neg c, q_some]
    · rw [if_neg c2, if_neg c2, q_nm, i_add]
      have := d_rc_l h hz (by omega) n 0 (by omega) (by omega)
      rw [show fb_si (fun k => if A 31 k = A 0 22 - 1 then A 29 k else 0) 0 = 0 from rfl, Int.add_zero] at this
      exact this
theorem d_recalled {n : Nat} (hn : 40000 ≤ n) {z : SX} {A : AA} (h : WF A) (hz : MZ z A) : (A 0 1 < rcE A → f_X7_isRecalled n z = some 1) ∧ (¬ A 0 1 < rcE A → f_X7_isRecalled n z = some 0) := by
  have hr := rc_in h
  have w1 := h.1
  unfold f_X7_isRecalled
  rw [d_rc hn h hz, q_some, hz 0 1 rfl, it_le (by omega) (by omega) (by omega) (by omega)]
  exact ⟨fun q => by rw [if_neg (by omega)]; rfl, fun q => by rw [if_pos (by omega)]; rfl⟩
theorem d_status {n : Nat} (hn : 40000 ≤ n) {z : SX} {A : AA} (h : WF A) (hz : MZ z A) (hD : DZ z A) : f_X7_statusNow n z = some (iI (stA A)) := by
  have hr := rc_in h
  have ho := ro_in h
  have he := eo_in h
  have w1 := h.1
  unfold f_X7_statusNow stA
  rw [d_ro hn h hz hD, q_some, hz 0 1 rfl, it_lt (by omega) (by omega) (by omega) (by omega)]
  by_cases c : A 0 1 < roA A
  · rw [if_pos c, if_pos (Or.inl c)]; rfl
  · rw [if_neg c]
    by_cases c2 : A 0 1 < rcE A
    · rw [(d_recalled hn h hz).1 c2, if_pos (Or.inr c2)]; rfl
    · rw [(d_recalled hn h hz).2 c2, if_neg (by omega), q_some, if_pos rfl, d_eo hn h hz hD, q_some, it_le (by omega) (by omega) (by omega) (by omega)]
      by_cases c3 : eoA A ≤ A 0 1
      · rw [if_pos c3, if_neg (by omega)]; rfl
      · rw [if_neg c3, if_pos (by omega)]; rfl
