/-! ===== the two sides' states; what the class's readers answer ===== -/
def MX (x : SX) (A : AA) : Prop :=
  x.1 0 8 = iI (A 0 1) ∧ x.1 0 9 = iI (A 0 4) ∧ x.1 0 10 = iI (A 0 5) ∧ x.1 1 7 = iI (A 0 6) ∧ x.1 2 5 = iI (A 0 14) ∧ x.1 3 3 = iI (A 0 18) ∧ x.1 4 0 = iI (A 0 22 - 1) ∧
  (0 < A 0 22 → x.1 4 1 = iI (A 0 23) ∧ x.1 4 2 = iI (A 0 24) ∧ x.1 4 3 = iI (A 0 25)) ∧ (A 0 22 = 0 → x.1 4 3 = iI 0) ∧
  (∀ k, x.1 10 k = iI (A 17 k)) ∧ (∀ k, x.1 11 k = iI (A 18 k)) ∧ (∀ k, x.1 12 k = iI (A 19 k)) ∧ (∀ k, x.1 13 k = iI (A 20 k)) ∧ (∀ k, x.1 14 k = iI (A 22 k)) ∧
  (∀ t : Nat, (t : Int) < A 0 6 → A 23 t = 0 → A 22 t = -1 → x.1 15 t = iI (A 21 t)) ∧ (∀ k, x.1 16 k = iI (A 23 k)) ∧
  (∀ k, x.1 30 k = iI (A 25 k)) ∧ (∀ k, x.1 31 k = iI (A 26 k)) ∧ (∀ k, x.1 32 k = iI (A 27 k)) ∧
  (∀ k, x.1 35 k = iI (A 29 k)) ∧ (∀ k, x.1 36 k = iI (A 30 k)) ∧ (∀ k, x.1 37 k = iI (A 31 k))
def DX (x : SX) (A : AA) : Prop := ∀ t : Nat, (t : Int) < A 0 6 → A 23 t = 0 →
  x.1 18 t = nI (chM A t) ∧ x.1 19 t = iI (stZ A t) ∧ x.1 20 t = iI (lnZ A t) ∧ x.1 21 t = iI (fsZ A t) ∧ x.1 22 t = iI (alZ A t) ∧ x.1 23 t = iI (apZ A t) ∧ x.1 24 t = iI (cdZ A t)
theorem i_clN {t : Nat} (h : t < 2147483648) : (iI (t : Int)).toNatClampNeg = t := by rw [i_N]; exact nI_clamp h
theorem it_lt {α : Type} {x y : α} {a b : Int} (h1 : -2147483648 ≤ a) (h2 : a < 2147483648) (h3 : -2147483648 ≤ b) (h4 : b < 2147483648) : (if iI a < iI b then x else y) = if a < b then x else y := by
  have e := i_lt h1 h2 h3 h4
  by_cases c : a < b
  · rw [if_pos c, if_pos (e ▸ c)]
  · rw [if_neg c, if_neg (e ▸ c)]
theorem it_le {α : Type} {x y : α} {a b : Int} (h1 : -2147483648 ≤ a) (h2 : a < 2147483648) (h3 : -2147483648 ≤ b) (h4 : b < 2147483648) : (if iI a ≤ iI b then x else y) = if a ≤ b then x else y := by
  have e := i_le h1 h2 h3 h4
  by_cases c : a ≤ b
  · rw [if_pos c, if_pos (e ▸ c)]
  · rw [if_neg c, if_neg (e ▸ c)]
theorem it_eq {α : Type} {x y : α} {a b : Int} (h1 : -2147483648 ≤ a) (h2 : a < 2147483648) (h3 : -2147483648 ≤ b) (h4 : b < 2147483648) : (if iI a = iI b then x else y) = if a = b then x else y := by
  have e := i_eq h1 h2 h3 h4
  by_cases c : a = b
  · rw [if_pos c, if_pos (e ▸ c)]
  · rw [if_neg c, if_neg (e ▸ c)]
theorem i_1 (a : Int) : iI a + 1 = iI (a + 1) := i_add a 1
theorem i_0 : (0 : Int32) = iI 0 := rfl
theorem WF.cm_lt {A : AA} (h : WF A) : ∀ (t : Nat), (t : Int) < A 0 6 → chM A t < 2 ^ (t + 1) := by
  have key : ∀ (m t : Nat), t < m → (t : Int) < A 0 6 → chM A t < 2 ^ (t + 1) := by
    intro m
    induction m with
    | zero => intro t h1; omega
    | succ m ih =>
      intro t h1 ht
      rw [h.cm_eq ht]
      have w6 := (h.2.2.2.2.2.1 t ht).2.2.2.2.2.1
      refine Nat.or_lt_two_pow (Nat.pow_lt_pow_right (by decide) (Nat.lt_succ_self t)) ?_
      by_cases c : A 22 t = -1
      · rw [if_pos c]; exact Nat.two_pow_pos _
      · rw [if_neg c]
        exact Nat.lt_of_lt_of_le (ih (A 22 t).toNat (by omega) (by omega)) (Nat.pow_le_pow_right (by decide) (by omega))
  exact fun t ht => key (t + 1) t (by omega) ht
theorem WF.cm_1024 {A : AA} (h : WF A) (t : Nat) (ht : (t : Int) < A 0 6) : chM A t < 1024 :=
  Nat.lt_of_lt_of_le (h.cm_lt t ht) (Nat.pow_le_pow_right (n := 2) (i := t + 1) (j := 10) (by decide) (by have := h.2.1; omega))
theorem q_and0 {a b : Nat} (hb : b < 1024) : (nI a &&& nI b = 0) = (a &&& b = 0) := by
  have h : a &&& b < 1024 := Nat.and_lt_two_pow (n := 10) a hb
  rw [nx_and]
  exact propext (nI_eq (b := 0) (by omega) (by decide))
theorem it_and0 {α : Type} {x y : α} {a b : Nat} (hb : b < 1024) : (if nI a &&& nI b = 0 then x else y) = if a &&& b = 0 then x else y := by
  have e := q_and0 (a := a) hb
  by_cases c : a &&& b = 0
  · rw [if_pos c, if_pos (e ▸ c)]
  · rw [if_neg c, if_neg (e ▸ c)]
theorem fb_si_in {f : Nat → Int} {b : Int} : ∀ (n : Nat), (∀ k, k < n → 0 ≤ f k ∧ f k ≤ b) → 0 ≤ fb_si f n ∧ fb_si f n ≤ b * n := by
  intro n
  induction n with
  | zero => intro _; exact ⟨Int.le_refl _, by show (0 : Int) ≤ b * 0; omega⟩
  | succ n ih =>
    intro h
    have i := ih fun k hk => h k (by omega)
    have w := h n (by omega)
    rw [fb_si_succ, show b * ((n + 1 : Nat) : Int) = b * n + b by rw [Int.natCast_add, Int.mul_add]; omega]
    omega
theorem c_dfc_l {x : SX} {A : AA} (h : WF A) (hM : MX x A) {m : Nat} (hm : m < 1024) : ∀ (f k : Nat), (k : Int) ≤ A 0 18 → A 0 18 < k + f → f_X0_daysForChain_l4 x (nI m) f (iI (fb_si (fun k => if (A 30 k).toNat &&& m = 0 then 0 else A 29 k) k)) (iI k) = some (iI (adM A m)) := by
  intro f
  obtain ⟨m8, m9, m10, m17, m25, m33, m40, mR, mR0, r10, r11, r12, r13, r14, r15, r16, r30, r31, r32, r35, r36, r37⟩ := hM
  have w18 := h.2.2.2.1
  induction f with
  | zero => intro k a b; omega
  | succ f ih =>
    intro k a b
    rw [f_X0_daysForChain_l4, m33, it_le (by omega) (by omega) (by omega) (by omega)]
    by_cases e : A 0 18 ≤ k
    · rw [if_pos e]
      unfold adM
      rw [show (A 0 18).toNat = k by omega]
    · have w := h.2.2.2.2.2.2.2.2.1 k (by omega)
      rw [if_neg e, i_gd (by omega) (by omega) (by decide), i_clN (by omega), r36, r35, i_nat w.2.1.1, it_and0 hm]
      by_cases c : (A 30 k).toNat &&& m = 0
      · rw [if_pos c, q_some, q_nm, i_1]
        have := ih (k + 1) (by omega) (by omega)
        rw [fb_si_succ, if_pos c, Int.add_zero] at this
        exact this
      · rw [if_neg c, q_nm, q_some, q_nm, i_1, i_add]
        have := ih (k + 1) (by omega) (by omega)
        rw [fb_si_succ, if_neg c] at this
        exact this
theorem c_dfc {n : Nat} (hn : 40000 ≤ n) {x : SX} {A : AA} (h : WF A) (hM : MX x A) {m : Nat} (hm : m < 1024) : f_X0_daysForChain n x (nI m) = some (iI (adM A m)) := by
  have w18 := h.2.2.2.1
  exact c_dfc_l h hM hm n 0 (by omega) (by omega)
theorem c_relW {n : Nat} {x : SX} {A : AA} (h : WF A) (hD : DX x A) {t : Nat} (ht : (t : Int) < A 0 6) (hq : A 23 t = 0) {a : Int} (ha : 0 ≤ a) (ha2 : a ≤ 1000) : f_X5_releaseWith n x (iI t) (iI a) = some (iI (rlW A t a)) := by
  obtain ⟨d18, d19, d20, d21, d22, d23, d24⟩ := hD t ht hq
  have w := h.2.1
  have h1 := h.al t ht
  have h2 := h.fs t ht
  have h3 := cd_in h t ht
  have hmx : 0 ≤ mxZ A t ∧ mxZ A t ≤ 30000 := by unfold mxZ; split <;> omega
  unfold f_X5_releaseWith rlW
  rw [i_gd (by omega) (by omega) (by decide), i_clN (by omega), d21, d22, d23, d24]
  have e : (if iI (apZ A t) - iI (cdZ A t) < 0 then 0 else iI (apZ A t) - iI (cdZ A t)) = iI (mxZ A t) := by
    unfold mxZ
    simp (disch := omega) only [i_0, i_sub, i_lt, i_ite]
  rw [e]
  simp (disch := omega) only [i_sub, i_add, i_lt, i_ite, q_nm]
theorem c_relIn {n : Nat} (hn : 40000 ≤ n) {x : SX} {A : AA} (h : WF A) (hM : MX x A) (hD : DX x A) {t : Nat} (ht : (t : Int) < A 0 6) (hq : A 23 t = 0) : f_X6_releaseIn n x (iI t) = some (iI (rlZ A t)) := by
  have w := h.2.1
  have had := ad_in h (chM A t)
  unfold f_X6_releaseIn rlZ
  rw [i_gd (by omega) (by omega) (by decide), i_clN (by omega), (hD t ht hq).1, c_dfc hn h hM (h.cm_1024 t ht), q_some, c_relW h hD ht hq had.1 (by omega), q_some]
  rfl
theorem c_endOf {n : Nat} {x : SX} {A : AA} (h : WF A) (hD : DX x A) {t : Nat} (ht : (t : Int) < A 0 6) (hq : A 23 t = 0) : f_X5_endOf n x (iI t) = some (iI (enZ A t)) := by
  obtain ⟨d18, d19, d20, d21, d22, d23, d24⟩ := hD t ht hq
  have w := h.2.1
  unfold f_X5_endOf enZ
  rw [i_gd (by omega) (by omega) (by decide), i_clN (by omega), d21, d22, d24, i_add, i_sub]
  congr 2
  omega
theorem en_in {A : AA} (h : WF A) {t : Nat} (ht : (t : Int) < A 0 6) : 0 ≤ enZ A t ∧ enZ A t ≤ 60000 := by
  have := rlW_in h t ht (a := 0) (by omega)
  omega
theorem rl_in {A : AA} (h : WF A) {t : Nat} (ht : (t : Int) < A 0 6) : 0 ≤ rlZ A t ∧ rlZ A t ≤ enZ A t ∧ enZ A t ≤ 60000 := rlW_in h t ht (ad_in h _).1
theorem q_23 {A : AA} (h : WF A) (t : Nat) : 0 ≤ A 23 t ∧ A 23 t ≤ 1 := by
  by_cases c : (t : Int) < A 0 6
  · have := (h.2.2.2.2.2.1 t c).2.2.2.2.2.2.1
    omega
  · have := h.2.2.2.2.2.2.1 t (by omega)
    omega
theorem c_ge_l {n : Nat} {x : SX} {A : AA} (h : WF A) (hM : MX x A) (hD : DX x A) : ∀ (f t : Nat), (t : Int) ≤ A 0 6 → A 0 6 < t + f → f_X6_greatestEnd_l4 x n f (iI (mxF (A 23) (enZ A) t)) (iI t) = some (iI (eoA A)) := by
  intro f
  obtain ⟨m8, m9, m10, m17, m25, m33, m40, mR, mR0, r10, r11, r12, r13, r14, r15, r16, r30, r31, r32, r35, r36, r37⟩ := hM
  have w6 := h.2.1
  induction f with
  | zero => intro k a b; omega
  | succ f ih =>
    intro t a b
    rw [f_X6_greatestEnd_l4, m17, it_le (by omega) (by omega) (by omega) (by omega)]
    by_cases e : A 0 6 ≤ t
    · rw [if_pos e]
      unfold eoA
      rw [show (A 0 6).toNat = t by omega]
    · have hq := q_23 h t
      have i := ih (t + 1) (by omega) (by omega)
      rw [mxF] at i
      rw [if_neg e, i_gd (by omega) (by omega) (by decide), i_clN (by omega), r16, i_0, it_eq (by omega) (by omega) (by omega) (by omega)]
      by_cases c : A 23 t = 0
      · have hm := mxF_in (q := A 23) (g := enZ A) (b := 60000) (by omega) t fun k hk _ => (en_in h (t := k) (by omega)).2
        have he := en_in h (t := t) (by omega)
        rw [if_pos c, c_endOf h hD (by omega) c, q_some, it_lt (by omega) (by omega) (by omega) (by omega), i_ite, q_nm, q_some, i_1, q_nm]
        rw [if_pos c] at i
        exact i
      · rw [if_neg c, q_some, i_1, q_nm]
        rw [if_neg c] at i
        exact i
theorem c_ge {n : Nat} (hn : 40000 ≤ n) {x : SX} {A : AA} (h : WF A) (hM : MX x A) (hD : DX x A) : f_X6_greatestEnd n x = some (iI (eoA A)) := by
  have w6 := h.2.1
  exact c_ge_l h hM hD n 0 (by omega) (by omega)
/-- the greatest release day, if e days more were added to the terms whose chains meet c -/
noncomputable def rlE (A : AA) (c : Nat) (e : Int) (t : Nat) : Int := rlW A t (adZ A t + (if chM A t &&& c = 0 then 0 else e))
theorem rlE_in {A : AA} (h : WF A) {c : Nat} {e : Int} (he : 0 ≤ e) {t : Nat} (ht : (t : Int) < A 0 6) : 0 ≤ rlE A c e t ∧ rlE A c e t ≤ 60000 := by
  have ha := ad_in h (chM A t)
  unfold rlE
  have := rlW_in h t ht (a := adZ A t + (if chM A t &&& c = 0 then 0 else e)) (by unfold adZ; split <;> omega)
  omega
theorem c_gr_l {n : Nat} (hn : 40000 ≤ n) {x : SX} {A : AA} (h : WF A) (hM : MX x A) (hD : DX x A) {cc : Nat} (hc : cc < 1024) {ex : Int} (he0 : 0 ≤ ex) (he1 : ex ≤ 42) : ∀ (f t : Nat), (t : Int) ≤ A 0 6 → A 0 6 < t + f → f_X6_greatestRelease_l5 x (nI cc) (iI ex) n f (iI (mxF (A 23) (rlE A cc ex) t)) (iI t) = some (iI (mxF (A 23) (rlE A cc ex) (A 0 6).toNat)) := by
  intro f
  have hM' := hM
  obtain ⟨m8, m9, m10, m17, m25, m33, m40, mR, mR0, r10, r11, r12, r13, r14, r15, r16, r30, r31, r32, r35, r36, r37⟩ := hM
  have w6 := h.2.1
  induction f with
  | zero => intro k a b; omega
  | succ f ih =>
    intro t a b
    rw [f_X6_greatestRelease_l5, m17, it_le (by omega) (by omega) (by omega) (by omega)]
    by_cases e : A 0 6 ≤ t
    · rw [if_pos e, show (A 0 6).toNat = t by omega]
    · have hq := q_23 h t
      have i := ih (t + 1) (by omega) (by omega)
      rw [mxF] at i
      rw [if_neg e, i_gd (by omega) (by omega) (by decide), i_clN (by omega), r16, i_0, it_eq (by omega) (by omega) (by omega) (by omega)]
      by_cases c : A 23 t = 0
      · have hm := mxF_in (q := A 23) (g := rlE A cc ex) (b := 60000) (by omega) t fun k hk _ => (rlE_in h he0 (t := k) (by omega)).2
        have he := rlE_in h (c := cc) he0 (t := t) (by omega)
        have ha := ad_in h (chM A t)
        rw [if_pos c, (hD t (by omega) c).1, ← i_0, it_and0 hc, i_0, q_ite, i_ite, c_dfc hn h hM' (h.cm_1024 t (by omega)), q_some, i_add, q_nm, c_relW h hD (by omega) c (by split <;> omega) (by split <;> omega), q_some]
        show qbd (qnm (if iI (mxF (A 23) (rlE A cc ex) t) < iI (rlE A cc ex t) then iI (rlE A cc ex t) else iI (mxF (A 23) (rlE A cc ex) t)) fun v17 => some v17) _ = _
        rw [it_lt (by omega) (by omega) (by omega) (by omega), i_ite, q_nm, q_some, i_1, q_nm]
        rw [if_pos c] at i
        exact i
      · rw [if_neg c, q_some, i_1, q_nm]
        rw [if_neg c] at i
        exact i
theorem c_grE {n : Nat} (hn : 40000 ≤ n) {x : SX} {A : AA} (h : WF A) (hM : MX x A) (hD : DX x A) {cc : Nat} (hc : cc < 1024) {ex : Int} (he0 : 0 ≤ ex) (he1 : ex ≤ 42) : f_X6_greatestRelease n x (nI cc) (iI ex) = some (iI (mxF (A 23) (rlE A cc ex) (A 0 6).toNat)) := by
  have w6 := h.2.1
  exact c_gr_l hn h hM hD hc he0 he1 n 0 (by omega) (by omega)
theorem rlE_0 {A : AA} : rlE A 0 0 = rlZ A := by
  funext t
  unfold rlE rlZ
  rw [Nat.and_zero, if_pos rfl, Int.add_zero]
theorem c_gr {n : Nat} (hn : 40000 ≤ n) {x : SX} {A : AA} (h : WF A) (hM : MX x A) (hD : DX x A) : f_X6_greatestRelease n x 0 0 = some (iI (roA A)) := by
  have e := c_grE hn h hM hD (cc := 0) (by decide) (ex := 0) (by omega) (by omega)
  rw [rlE_0] at e
  exact e
theorem eo_in {A : AA} (h : WF A) : 0 ≤ eoA A ∧ eoA A ≤ 60000 := by
  have w6 := h.2.1
  exact mxF_in (by omega) _ fun k hk _ => (en_in h (t := k) (by omega)).2
theorem ro_in {A : AA} (h : WF A) : 0 ≤ roA A ∧ roA A ≤ 60000 := by
  have w6 := h.2.1
  exact mxF_in (by omega) _ fun k hk _ => by have := rl_in h (t := k) (by omega); omega
