/-! ===== the calls that read of a term that stands ===== -/
theorem d_isTerm {n : Nat} {z : SX} {A : AA} (h : WF A) (hz : MZ z A) {v : Int} (v1 : -2147483648 ≤ v) (v2 : v < 2147483648) : (0 ≤ v ∧ v < A 0 6 → f_X7_isTerm n z (iI v) = some 1) ∧ (¬ (0 ≤ v ∧ v < A 0 6) → f_X7_isTerm n z (iI v) = some 0) := by
  have w6 := h.2.1
  have g := d_in_ (n := n) (a := v) (b := 0) (c := A 0 6 - 1) v1 v2 (by omega) (by omega) (by omega) (by omega)
  unfold f_X7_isTerm
  rw [hz 0 6 rfl, show iI (A 0 6) - 1 = iI (A 0 6 - 1) from i_sub _ 1, i_0]
  exact ⟨fun c => by rw [g.1 (by omega)]; rfl, fun c => by rw [g.2 (by omega)]; rfl⟩
theorem d_isAward {n : Nat} {z : SX} {A : AA} (h : WF A) (hz : MZ z A) {v : Int} (v1 : -2147483648 ≤ v) (v2 : v < 2147483648) : (0 ≤ v ∧ v < A 0 18 → f_X7_isAward n z (iI v) = some 1) ∧ (¬ (0 ≤ v ∧ v < A 0 18) → f_X7_isAward n z (iI v) = some 0) := by
  have w6 := h.2.2.2.1
  have g := d_in_ (n := n) (a := v) (b := 0) (c := A 0 18 - 1) v1 v2 (by omega) (by omega) (by omega) (by omega)
  unfold f_X7_isAward
  rw [hz 0 18 rfl, show iI (A 0 18) - 1 = iI (A 0 18 - 1) from i_sub _ 1, i_0]
  exact ⟨fun c => by rw [g.1 (by omega)]; rfl, fun c => by rw [g.2 (by omega)]; rfl⟩
theorem st_cases {x z : SX} {A : AA} (h : WF A) (hM : MX x A) (hz : MZ z A) (a : Int32) : (∃ t : Nat, a = iI t ∧ (t : Int) < A 0 6 ∧ A 23 t = 0 ∧ f_X6_checkStandingTerm 40000 x a = some 0 ∧ f_X7_failsFor 40000 z a = some (0, si z 0 0 0)) ∨ (f_X6_checkStandingTerm 40000 x a = some 3 ∧ f_X7_failsFor 40000 z a = some (1, si z 0 0 1)) ∨ (f_X6_checkStandingTerm 40000 x a = some 2 ∧ f_X7_failsFor 40000 z a = some (1, si z 0 0 2)) := by
  have w6 := h.2.1
  obtain ⟨v, v1, v2, rfl⟩ := i_of a
  have e := c_checkStanding (n := 40000) h hM v1 v2
  have g := d_isTerm (n := 40000) h hz v1 v2
  by_cases c : 0 ≤ v ∧ v < A 0 6
  · obtain ⟨t, rfl⟩ := Int.eq_ofNat_of_zero_le c.1
    by_cases c2 : A 23 t = 0
    · refine Or.inl ⟨t, rfl, c.2, c2, e.1 c.1 c.2 c2, ?_⟩
      unfold f_X7_failsFor
      rw [g.1 c, q_some, if_neg (by decide), d_isIn1 hz (by omega) c2]
      rfl
    · refine Or.inr (Or.inr ⟨e.2.1 c.1 c.2 c2, ?_⟩)
      unfold f_X7_failsFor
      rw [g.1 c, q_some, if_neg (by decide), d_isIn0 h hz (by omega) c2]
      rfl
  · refine Or.inr (Or.inl ⟨e.2.2 c, ?_⟩)
    unfold f_X7_failsFor
    rw [g.2 c]
    rfl
theorem SPs {fx : Nat → SX → Int32 → Option (Nat × Int32)} {fm : Nat → SX → Int32 → Option (Int32 × SX)}
    (hx1 : ∀ x a k, f_X6_checkStandingTerm 40000 x a = some (k + 1) → fx 40000 x a = some (k + 1, 0))
    (hm1 : ∀ z a k, f_X7_failsFor 40000 z a = some (1, si z 0 0 k) → fm 40000 z a = some (0, si z 0 0 k))
    (hb : ∀ (A : AA) (x z : SX) (t : Nat), WF A → MX x A → DX x A → WX x A → MZ z A → DZ z A → (t : Int) < A 0 6 → A 23 t = 0 → f_X6_checkStandingTerm 40000 x (iI t) = some 0 → f_X7_failsFor 40000 z (iI t) = some (0, si z 0 0 0) → ∃ v : Int32, fx 40000 x (iI t) = some (0, v) ∧ fm 40000 z (iI t) = some (v, si z 0 0 0)) :
    ∀ (x : SX) (t : Nat → Nat) (k : Nat) (xm : SX) (a1 : Int32), Rel x t k xm → ∃ (n : Nat) (k0 : Nat) (rv c0 : Int32) (n2 : Nat) (bv : Int32) (xm' : SX), fx n x a1 = some (k0, rv) ∧ ((k0 = 0 ∧ c0 = 0) ∨ (k0 = 3 ∧ c0 = 1) ∨ (k0 = 2 ∧ c0 = 2)) ∧ fm n2 xm a1 = some (bv, xm') ∧ xm'.1 0 0 = c0 ∧ (c0 = 0 → rv = bv) ∧ Rel x t k xm' := by
  intro x t k z a hR
  have hR' := hR
  obtain ⟨A, h, hM, hD, hW, hz, hDz, hT⟩ := hR
  rcases st_cases h hM hz a with ⟨s, rfl, hs, hq, e1, e2⟩ | ⟨e1, e2⟩ | ⟨e1, e2⟩
  · obtain ⟨v, g1, g2⟩ := hb A x z s h hM hD hW hz hDz hs hq e1 e2
    exact ⟨40000, 0, v, 0, 40000, v, _, g1, Or.inl ⟨rfl, rfl⟩, g2, sg_s, fun _ => rfl, hR'.th 0⟩
  · exact ⟨40000, 3, 0, 1, 40000, 0, _, hx1 x a 2 e1, Or.inr (Or.inl ⟨rfl, rfl⟩), hm1 z a 1 e2, sg_s, fun q => absurd q (by decide), hR'.th 1⟩
  · exact ⟨40000, 2, 0, 2, 40000, 0, _, hx1 x a 1 e1, Or.inr (Or.inr ⟨rfl, rfl⟩), hm1 z a 2 e2, sg_s, fun q => absurd q (by decide), hR'.th 2⟩
theorem sp_start : SP_start Rel := SPs (fx := f_X6_start) (fm := f_X7_start) (fun x a k e => by unfold f_X6_start; rw [e]; rfl) (fun z a k e => by unfold f_X7_start; rw [e]; rfl) fun A x z t h hM hD hW hz hDz ht hq e1 e2 => by
  have w6 := h.2.1
  refine ⟨iI (stZ A t), ?_, ?_⟩
  · unfold f_X6_start
    rw [e1, q_x0, i_gd (by omega) (by omega) (by decide), i_clN (by omega), (hD t ht hq).2.1]
  · unfold f_X7_start
    rw [e2, q_some2, if_pos rfl, i_gd (by omega) (by omega) (by decide), i_clN (by omega), sg_r (by decide), (hDz t ht hq).1, q_some]
theorem sp_length : SP_length Rel := SPs (fx := f_X6_length) (fm := f_X7_length) (fun x a k e => by unfold f_X6_length; rw [e]; rfl) (fun z a k e => by unfold f_X7_length; rw [e]; rfl) fun A x z t h hM hD hW hz hDz ht hq e1 e2 => by
  have w6 := h.2.1
  refine ⟨iI (lnZ A t), ?_, ?_⟩
  · unfold f_X6_length
    rw [e1, q_x0, i_gd (by omega) (by omega) (by decide), i_clN (by omega), (hD t ht hq).2.2.1]
  · unfold f_X7_length
    rw [e2, q_some2, if_pos rfl, i_gd (by omega) (by omega) (by decide), i_clN (by omega), sg_r (by decide), (hDz t ht hq).2.1, q_some]
theorem sp_totalLength : SP_totalLength Rel := SPs (fx := f_X6_totalLength) (fm := f_X7_totalLength) (fun x a k e => by unfold f_X6_totalLength; rw [e]; rfl) (fun z a k e => by unfold f_X7_totalLength; rw [e]; rfl) fun A x z t h hM hD hW hz hDz ht hq e1 e2 => by
  have w6 := h.2.1
  refine ⟨iI (alZ A t), ?_, ?_⟩
  · unfold f_X6_totalLength
    rw [e1, q_x0, i_gd (by omega) (by omega) (by decide), i_clN (by omega), (hD t ht hq).2.2.2.2.1]
  · unfold f_X7_totalLength
    rw [e2, q_some2, if_pos rfl, i_gd (by omega) (by omega) (by decide), i_clN (by omega), sg_r (by decide), (hDz t ht hq).2.2.2.2.1, q_some]
theorem sp_custodialPart : SP_custodialPart Rel := SPs (fx := f_X6_custodialPart) (fm := f_X7_custodialPart) (fun x a k e => by unfold f_X6_custodialPart; rw [e]; rfl) (fun z a k e => by unfold f_X7_custodialPart; rw [e]; rfl) fun A x z t h hM hD hW hz hDz ht hq e1 e2 => by
  have w6 := h.2.1
  refine ⟨iI (apZ A t), ?_, ?_⟩
  · unfold f_X6_custodialPart
    rw [e1, q_x0, i_gd (by omega) (by omega) (by decide), i_clN (by omega), (hD t ht hq).2.2.2.2.2.1]
  · unfold f_X7_custodialPart
    rw [e2, q_some2, if_pos rfl, i_gd (by omega) (by omega) (by decide), i_clN (by omega), sg_r (by decide), (hDz t ht hq).2.2.2.2.2.1, q_some]
theorem sp_credit : SP_credit Rel := SPs (fx := f_X6_credit) (fm := f_X7_credit) (fun x a k e => by unfold f_X6_credit; rw [e]; rfl) (fun z a k e => by unfold f_X7_credit; rw [e]; rfl) fun A x z t h hM hD hW hz hDz ht hq e1 e2 => by
  have w6 := h.2.1
  refine ⟨iI (cdZ A t), ?_, ?_⟩
  · unfold f_X6_credit
    rw [e1, q_x0, i_gd (by omega) (by omega) (by decide), i_clN (by omega), (hD t ht hq).2.2.2.2.2.2]
  · unfold f_X7_credit
    rw [e2, q_some2, if_pos rfl, i_gd (by omega) (by omega) (by decide), i_clN (by omega), sg_r (by decide), (hDz t ht hq).2.2.2.2.2.2.1, q_some]
theorem sp_addedDays : SP_addedDays Rel := SPs (fx := f_X6_addedDays) (fm := f_X7_addedDays) (fun x a k e => by unfold f_X6_addedDays; rw [e]; rfl) (fun z a k e => by unfold f_X7_addedDays; rw [e]; rfl) fun A x z t h hM hD hW hz hDz ht hq e1 e2 => by
  have w6 := h.2.1
  refine ⟨iI (adZ A t), ?_, ?_⟩
  · unfold f_X6_addedDays
    rw [e1, q_x0, i_gd (by omega) (by omega) (by decide), i_clN (by omega), (hD t ht hq).1, c_dfc (Nat.le_refl _) h hM (h.cm_1024 t ht), q_some]
    rfl
  · unfold f_X7_addedDays
    rw [e2, q_some2, if_pos rfl, i_gd (by omega) (by omega) (by decide), i_clN (by omega), sg_r (by decide), (hDz t ht hq).2.2.2.2.2.2.2.1, q_some]
theorem sp_releaseDay : SP_releaseDay Rel := SPs (fx := f_X6_releaseDay) (fm := f_X7_releaseDay) (fun x a k e => by unfold f_X6_releaseDay; rw [e]; rfl) (fun z a k e => by unfold f_X7_releaseDay; rw [e]; rfl) fun A x z t h hM hD hW hz hDz ht hq e1 e2 => by
  have w6 := h.2.1
  refine ⟨iI (rlZ A t), ?_, ?_⟩
  · unfold f_X6_releaseDay
    rw [e1, q_x0, c_relIn (Nat.le_refl _) h hM hD ht hq, q_some]
  · unfold f_X7_releaseDay
    rw [e2, q_some2, if_pos rfl, i_gd (by omega) (by omega) (by decide), i_clN (by omega), sg_r (by decide), (hDz t ht hq).2.2.2.2.2.2.2.2.1, q_some]
theorem sp_endDay : SP_endDay Rel := SPs (fx := f_X6_endDay) (fm := f_X7_endDay) (fun x a k e => by unfold f_X6_endDay; rw [e]; rfl) (fun z a k e => by unfold f_X7_endDay; rw [e]; rfl) fun A x z t h hM hD hW hz hDz ht hq e1 e2 => by
  have w6 := h.2.1
  refine ⟨iI (enZ A t), ?_, ?_⟩
  · unfold f_X6_endDay
    rw [e1, q_x0, c_endOf h hD ht hq, q_some]
  · unfold f_X7_endDay
    rw [e2, q_some2, if_pos rfl, i_gd (by omega) (by omega) (by decide), i_clN (by omega), sg_r (by decide), (hDz t ht hq).2.2.2.2.2.2.2.2.2, q_some]
/-! chainLength: the class counts bits -/
theorem bc10 : ∀ m, m < 1024 → f_J6_bitCount_0f7a4 0 (nI m) = some (nI (fb_ct (fun i => m.testBit i) 10)) := by decide +kernel
theorem WF.cs_ct {A : AA} (h : WF A) : ∀ (t : Nat), (t : Int) < A 0 6 → csZ A t = fb_ct (fun i => (chM A t).testBit i) 10 := by
  have w6 := h.2.1
  have key : ∀ (m t : Nat), t < m → (t : Int) < A 0 6 → csZ A t = fb_ct (fun i => (chM A t).testBit i) 10 := by
    intro m
    induction m with
    | zero => intro t h1; omega
    | succ m ih =>
      intro t h1 ht
      have wp := (h.te t ht).2.2.2.2.2.1
      obtain ⟨R, hR, eR, eC⟩ : ∃ R : Nat, R < 2 ^ t ∧ chM A t = 2 ^ t ||| R ∧ csZ A t = fb_ct (fun i => R.testBit i) 10 + 1 := by
        by_cases c : A 22 t = -1
        · refine ⟨0, Nat.two_pow_pos t, ?_, ?_⟩
          · rw [h.cm_eq ht, if_pos c]
          · rw [h.cs_eq ht, if_pos c, fb_ct_zero.mpr fun k _ => Nat.zero_testBit k]
        · refine ⟨chM A (A 22 t).toNat, Nat.lt_of_lt_of_le (h.cm_lt _ (by omega)) (Nat.pow_le_pow_right (by decide) (by omega)), ?_, ?_⟩
          · rw [h.cm_eq ht, if_neg c]
          · rw [h.cs_eq ht, if_neg c, ih _ (by omega) (by omega)]
      have e2 := fb_ct_upd (fun i => R.testBit i) true (i := t) (n := 10) (by omega)
      have e3 : R.testBit t = false := Nat.testBit_lt_two_pow hR
      have e4 : fb_ct (fun i => (chM A t).testBit i) 10 = fb_ct (fun k => if k = t then true else R.testBit k) 10 := fb_ct_cong fun k _ => by
        show (chM A t).testBit k = _
        rw [eR, Nat.testBit_or, Nat.testBit_two_pow]
        by_cases c : k = t
        · rw [if_pos c, decide_eq_true c.symm, Bool.true_or]
        · rw [if_neg c, decide_eq_false (fun q => c q.symm), Bool.false_or]
      simp only [e3, if_true] at e2
      rw [eC, e4]
      simpa using e2.symm
  exact fun t ht => key (t + 1) t (by omega) ht
theorem sp_chainLength : SP_chainLength Rel := SPs (fx := f_X6_chainLength) (fm := f_X7_chainLength) (fun x a k e => by unfold f_X6_chainLength; rw [e]; rfl) (fun z a k e => by unfold f_X7_chainLength; rw [e]; rfl) fun A x z t h hM hD hW hz hDz ht hq e1 e2 => by
  have w6 := h.2.1
  refine ⟨iI (csZ A t : Nat), ?_, ?_⟩
  · have eb : f_J6_bitCount_0f7a4 40000 (nI (chM A t)) = some (nI (fb_ct (fun i => (chM A t).testBit i) 10)) := bc10 _ (h.cm_1024 t ht)
    unfold f_X6_chainLength
    rw [e1, q_x0, i_gd (by omega) (by omega) (by decide), i_clN (by omega), (hD t ht hq).1, eb, q_some, h.cs_ct t ht, i_N]
  · unfold f_X7_chainLength
    rw [e2, q_some2, if_pos rfl, csz (Nat.le_refl _) h (MZ_scr hz rfl) ht, q_some, q_some]
/-! descendants -/
def dsF (A : AA) (t k : Nat) : Bool := decide (k ≠ t) && (decide (A 23 k = 0) && (chM A k).testBit t)
theorem c_desc_l {x : SX} {A : AA} (h : WF A) (hM : MX x A) (hD : DX x A) {t : Nat} (ht : (t : Int) < A 0 6) : ∀ (f k : Nat), (k : Int) ≤ A 0 6 → A 0 6 < k + f → f_X6_descendants_l9 x (iI t) f (iI (fb_ct (dsF A t) k : Nat)) (iI k) = some (0, iI (fb_ct (dsF A t) (A 0 6).toNat : Nat)) := by
  intro f
  have w6 := h.2.1
  have m17 := hM.2.2.2.1
  have r16 := hM.2.2.2.2.2.2.2.2.2.2.2.2.2.2.2.1
  induction f with
  | zero => intro k a b; omega
  | succ f ih =>
    intro k a b
    rw [f_X6_descendants_l9, m17, it_le (by omega) (by omega) (by omega) (by omega)]
    by_cases e : A 0 6 ≤ k
    · rw [if_pos e, show (A 0 6).toNat = k by omega]
    · have i := ih (k + 1) (by omega) (by omega)
      rw [fb_ct_succ] at i
      have hq := q_23 h k
      rw [if_neg e, it_eq (by omega) (by omega) (by omega) (by omega)]
      by_cases c1 : k = t
      · rw [if_pos (by omega), q_some, i_1, q_nm]
        rw [show dsF A t k = false by unfold dsF; rw [decide_eq_false (fun q => q c1), Bool.false_and], if_neg (by decide)] at i
        exact i
      · rw [if_neg (by omega), i_gd (by omega) (by omega) (by decide), i_clN (by omega), r16, i_0, it_eq (by omega) (by omega) (by omega) (by omega)]
        by_cases c2 : A 23 k = 0
        · rw [if_pos c2, (hD k (by omega) c2).1, i_N t, ← i_0, it_bit (by omega)]
          by_cases c3 : (chM A k).testBit t = true
          · rw [if_pos c3, i_1, q_nm, q_some, i_1, q_nm]
            rw [show dsF A t k = true by unfold dsF; rw [decide_eq_true c1, decide_eq_true c2, c3]; rfl, if_pos rfl] at i
            exact i
          · rw [if_neg c3, q_some, i_1, q_nm]
            rw [show dsF A t k = false by unfold dsF; rw [bool_f c3, Bool.and_false, Bool.and_false], if_neg (by decide)] at i
            exact i
        · rw [if_neg c2, q_some, i_1, q_nm]
          rw [show dsF A t k = false by unfold dsF; rw [decide_eq_false c2, Bool.false_and, Bool.and_false], if_neg (by decide)] at i
          exact i
theorem d_desc_l {n : Nat} (hn : 40000 ≤ n) {z : SX} {A : AA} (h : WF A) (hz : MZ z A) {t : Nat} (ht : (t : Int) < A 0 6) : ∀ (f k : Nat), (k : Int) ≤ A 0 6 → A 0 6 < k + f → f_X7_descendants_l14 z (iI t) n f (iI (fb_ct (dsF A t) k : Nat)) (iI k) = some (iI (fb_ct (dsF A t) (A 0 6).toNat : Nat), z) := by
  intro f
  have w6 := h.2.1
  induction f with
  | zero => intro k a b; omega
  | succ f ih =>
    intro k a b
    rw [f_X7_descendants_l14, hz 0 6 rfl, it_le (by omega) (by omega) (by omega) (by omega)]
    by_cases e : A 0 6 ≤ k
    · rw [if_pos e, show (A 0 6).toNat = k by omega]
    · have i := ih (k + 1) (by omega) (by omega)
      rw [fb_ct_succ] at i
      rw [if_neg e, it_eq (by omega) (by omega) (by omega) (by omega)]
      by_cases c1 : k = t
      · rw [if_pos (by omega), q_some, i_0, i_add, q_nm, i_1, q_nm]
        rw [show dsF A t k = false by unfold dsF; rw [decide_eq_false (fun q => q c1), Bool.false_and], if_neg (by decide)] at i
        exact i
      · rw [if_neg (by omega)]
        by_cases c2 : A 23 k = 0
        · rw [d_isIn1 hz (by omega) c2, q_some, if_neg (by decide), isC hn h hz (by omega) (by omega), q_some]
          by_cases c3 : (chM A k).testBit t = true
          · rw [if_pos c3, if_neg (by decide), q_some, show (1 : Int32) = iI 1 from rfl, i_add, q_nm, i_add, q_nm]
            rw [show dsF A t k = true by unfold dsF; rw [decide_eq_true c1, decide_eq_true c2, c3]; rfl, if_pos rfl] at i
            exact i
          · rw [if_neg c3, if_pos rfl, q_some, i_0, i_add, q_nm, i_1, q_nm]
            rw [show dsF A t k = false by unfold dsF; rw [bool_f c3, Bool.and_false, Bool.and_false], if_neg (by decide)] at i
            exact i
        · rw [d_isIn0 h hz (by omega) c2, q_some, if_pos rfl, q_some, i_0, i_add, q_nm, i_1, q_nm]
          rw [show dsF A t k = false by unfold dsF; rw [decide_eq_false c2, Bool.false_and, Bool.and_false], if_neg (by decide)] at i
          exact i
theorem sp_descendants : SP_descendants Rel := SPs (fx := f_X6_descendants) (fm := f_X7_descendants) (fun x a k e => by unfold f_X6_descendants; rw [e]; rfl) (fun z a k e => by unfold f_X7_descendants; rw [e]; rfl) fun A x z t h hM hD hW hz hDz ht hq e1 e2 => by
  have w6 := h.2.1
  refine ⟨iI (fb_ct (dsF A t) (A 0 6).toNat : Nat), ?_, ?_⟩
  · unfold f_X6_descendants
    rw [e1, q_x0]
    exact c_desc_l h hM hD ht 40000 0 (by omega) (by omega)
  · unfold f_X7_descendants
    rw [e2, q_some2, if_pos rfl]
    exact d_desc_l (Nat.le_refl _) h (MZ_scr hz rfl) ht 40000 0 (by omega) (by omega)
/-! parentOf -/
theorem sp_parentOf : SP_parentOf Rel := by
  intro x t k z a hR
  have hR' := hR
  obtain ⟨A, h, hM, hD, hW, hz, hDz, hT⟩ := hR
  have w6 := h.2.1
  have r14 := hM.2.2.2.2.2.2.2.2.2.2.2.2.2.1
  rcases st_cases h hM hz a with ⟨s, rfl, hs, hq, e1, e2⟩ | ⟨e1, e2⟩ | ⟨e1, e2⟩
  · have wp := (h.te s hs).2.2.2.2.2.1
    by_cases c : A 22 s = -1
    · refine ⟨40000, 4, 0, 3, 40000, 0, si z 0 0 3, ?_, Or.inr (Or.inr (Or.inr ⟨rfl, rfl⟩)), ?_, sg_s, fun q => absurd q (by decide), hR'.th 3⟩
      · unfold f_X6_parentOf
        rw [e1, q_x0, i_gd (by omega) (by omega) (by decide), i_clN (by omega), r14, c, if_pos (show iI (-1) = (-1 : Int32) from rfl)]
      · unfold f_X7_parentOf
        rw [e2, q_some2, if_pos rfl, i_gd (by omega) (by omega) (by decide), i_clN (by omega), sg_r (by decide), hz 22 s rfl, c, if_pos (show iI (-1) = (-1 : Int32) from rfl), q_some, d_fails3, q_some2, if_neg (by decide), ss_s]
    · refine ⟨40000, 0, iI (A 22 s), 0, 40000, iI (A 22 s), si z 0 0 0, ?_, Or.inl ⟨rfl, rfl⟩, ?_, sg_s, fun _ => rfl, hR'.th 0⟩
      · unfold f_X6_parentOf
        rw [e1, q_x0, i_gd (by omega) (by omega) (by decide), i_clN (by omega), r14, show (-1 : Int32) = iI (-1) from rfl, it_eq (by omega) (by omega) (by omega) (by omega), if_neg c]
      · unfold f_X7_parentOf
        rw [e2, q_some2, if_pos rfl, i_gd (by omega) (by omega) (by decide), i_clN (by omega), sg_r (by decide), hz 22 s rfl, show (-1 : Int32) = iI (-1) from rfl, it_eq (by omega) (by omega) (by omega) (by omega), if_neg c, q_some, d_fails0, q_some2, if_pos rfl, ss_s, sg_r (by decide), hz 22 s rfl]
  · refine ⟨40000, 3, 0, 1, 40000, 0, si z 0 0 1, ?_, Or.inr (Or.inl ⟨rfl, rfl⟩), ?_, sg_s, fun q => absurd q (by decide), hR'.th 1⟩
    · unfold f_X6_parentOf
      rw [e1]
      rfl
    · unfold f_X7_parentOf
      rw [e2]
      rfl
  · refine ⟨40000, 2, 0, 2, 40000, 0, si z 0 0 2, ?_, Or.inr (Or.inr (Or.inl ⟨rfl, rfl⟩)), ?_, sg_s, fun q => absurd q (by decide), hR'.th 2⟩
    · unfold f_X6_parentOf
      rw [e1]
      rfl
    · unfold f_X7_parentOf
      rw [e2]
      rfl
