/-! ===== what both sides reckon: the state as whole numbers, A row place (the model's places) ===== -/
abbrev AA : Type := Nat → Nat → Int
def aU (A : AA) (r k : Nat) (v : Int) : AA := fun r' => if r' = r then (fun k' => if k' = k then v else A r k') else A r'
noncomputable def mdZ (d : Int) : Int × Int := Classical.epsilon fun p : Int × Int => IsD d (yZ d) p.1 p.2
noncomputable def latZ (d k : Int) : Int := laterZ d k (mdZ d).1 (mdZ d).2
theorem mdZ_is {d : Int} (h : 0 ≤ d) : IsD d (yZ d) (mdZ d).1 (mdZ d).2 := by
  obtain ⟨m, dd, h⟩ := IsD_ex h
  exact Classical.epsilon_spec (p := fun p : Int × Int => IsD d (yZ d) p.1 p.2) ⟨(m, dd), h⟩
theorem c_lat {n : Nat} (hn : 40000 ≤ n) {d k : Int} (h1 : 0 ≤ d) (h2 : d < 1000000) (hk1 : 0 ≤ k) (hk2 : k ≤ 60) : f_X1_later n (iI d) (iI k) = some (iI (latZ d k)) := c_later hn h1 h2 hk1 hk2 (mdZ_is h1)
theorem d_lat {n : Nat} (hn : 40000 ≤ n) (x : SX) {d k : Int} (h1 : 0 ≤ d) (h2 : d < 1000000) (hk1 : 0 ≤ k) (hk2 : k ≤ 60) : f_X7_later n x (iI d) (iI k) = some (iI (latZ d k), sp3 x (yZ d) (mdZ d).1 (mdZ d).2) := d_later hn x h1 h2 hk1 hk2 (mdZ_is h1)
theorem lat_in {d k : Int} (h1 : 0 ≤ d) (hk1 : 0 ≤ k) (hk2 : k ≤ 60) : d ≤ latZ d k ∧ latZ d k ≤ d + 2600 := by
  have h := mdZ_is h1
  obtain ⟨g1, g2, g3, g4, g5⟩ := IsD_y h
  obtain ⟨a1, a2, a3, a4, a5, -⟩ := h
  unfold latZ laterZ numZ
  generalize (mdZ d).1 = m at *
  generalize (mdZ d).2 = dd at *
  have hq1 : 0 ≤ (m - 1 + k) / 12 := by omega
  have hq2 : (m - 1 + k) / 12 ≤ 5 := by omega
  have hr : (m - 1 + k) % 12 + 12 * ((m - 1 + k) / 12) = m - 1 + k := by omega
  have hr1 : 0 ≤ (m - 1 + k) % 12 := by omega
  have hr2 : (m - 1 + k) % 12 ≤ 11 := by omega
  generalize (m - 1 + k) / 12 = q at *
  generalize (m - 1 + k) % 12 = r at *
  have b1 := db_in (yZ d + q) (m := r + 1) (by omega) (by omega)
  have b2 := dm_in (yZ d + q) (r + 1)
  have b3 : ysZ (yZ d + q) ≤ ysZ (yZ d) + 366 * q := by unfold ysZ; omega
  have b4 := dm_in (yZ d) m
  have b5 := db_in (yZ d) (m := m) (by omega) (by omega)
  refine ⟨?_, by split <;> omega⟩
  by_cases hq : q = 0
  · subst hq
    rw [show yZ d + 0 = yZ d by omega] at *
    by_cases hk : k = 0
    · obtain rfl : r + 1 = m := by omega
      split <;> omega
    · have c1 := db_mono' (yZ d) (a := m + 1) (b := r + 1) (by omega) (by omega) (by omega)
      have c2 := dbZ_s (yZ d) (m := m) (by omega) (by omega)
      split <;> omega
  · have c1 := ys_mono (a := yZ d + 1) (b := yZ d + q) (by omega)
    split <;> omega
/-! along a chain -/
def chF {α : Type} (P : Nat → Int) (b : Nat → α) (s : Nat → α → α) : Nat → Nat → α
  | 0, t => b t
  | f + 1, t => if P t = -1 then b t else s t (chF P b s f (P t).toNat)
def ch {α : Type} (P : Nat → Int) (b : Nat → α) (s : Nat → α → α) (t : Nat) : α := chF P b s t t
def PW (P : Nat → Int) (N : Nat) : Prop := ∀ t, t < N → -1 ≤ P t ∧ P t < t
theorem chF_s {α : Type} (P : Nat → Int) (b : Nat → α) (s : Nat → α → α) (f t : Nat) : chF P b s (f + 1) t = if P t = -1 then b t else s t (chF P b s f (P t).toNat) := rfl
theorem chF_1 {α : Type} {P : Nat → Int} {b : Nat → α} {s : Nat → α → α} {N : Nat} (h : PW P N) : ∀ (f t : Nat), t < N → t ≤ f → chF P b s (f + 1) t = chF P b s f t := by
  intro f
  induction f with
  | zero =>
    intro t h1 h2
    obtain rfl : t = 0 := by omega
    have := h 0 h1
    rw [chF_s P b s 0 0, if_pos (by omega), chF]
  | succ f ih =>
    intro t h1 h2
    have := h t h1
    rw [chF_s P b s (f + 1) t, chF_s P b s f t]
    by_cases c : P t = -1
    · rw [if_pos c, if_pos c]
    · rw [if_neg c, if_neg c, ih _ (by omega) (by omega)]
theorem chF_f {α : Type} {P : Nat → Int} {b : Nat → α} {s : Nat → α → α} {N : Nat} (h : PW P N) {t : Nat} (ht : t < N) : ∀ (k : Nat), chF P b s (t + k) t = ch P b s t := by
  intro k
  induction k with
  | zero => rfl
  | succ k ih => rw [show t + (k + 1) = t + k + 1 from rfl, chF_1 h _ t ht (by omega), ih]
theorem ch_eq {α : Type} {P : Nat → Int} {b : Nat → α} {s : Nat → α → α} {N : Nat} (h : PW P N) {t : Nat} (ht : t < N) : ch P b s t = if P t = -1 then b t else s t (ch P b s (P t).toNat) := by
  rw [← chF_f h ht 1, chF]
  split
  · rfl
  · have := h t ht
    have := chF_f (b := b) (s := s) h (t := (P t).toNat) (by omega) (t - (P t).toNat)
    rw [show (P t).toNat + (t - (P t).toNat) = t by omega] at this
    rw [this]
/-! the terms -/
noncomputable def lnO (A : AA) (s : Int) (t : Nat) : Int := latZ s (A 18 t) - s + A 19 t
noncomputable def stZ (A : AA) (t : Nat) : Int := ch (A 22) (A 21) (fun t s => s + lnO A s (A 22 t).toNat) t
noncomputable def lnZ (A : AA) (t : Nat) : Int := lnO A (stZ A t) t
def paZ (kd ln : Int) : Int := if kd = 0 then (ln + 1) / 2 else if kd = 1 then (2 * ln + 2) / 3 else if kd = 2 then ln else if (ln + 1) / 2 < 30 then (if 30 ≤ ln then 30 else ln) else (ln + 1) / 2
noncomputable def ptZ (A : AA) (t : Nat) : Int := paZ (A 17 t) (lnZ A t)
def rtZ (A : AA) (t : Nat) : Nat := ch (A 22) (fun t => t) (fun _ r => r) t
def fsZ (A : AA) (t : Nat) : Int := A 21 (rtZ A t)
noncomputable def alZ (A : AA) (t : Nat) : Int := ch (A 22) (lnZ A) (fun t s => lnZ A t + s) t
noncomputable def apZ (A : AA) (t : Nat) : Int := ch (A 22) (ptZ A) (fun t s => ptZ A t + s) t
def chM (A : AA) (t : Nat) : Nat := ch (A 22) (fun t => 2 ^ t) (fun t s => 2 ^ t ||| s) t
def csZ (A : AA) (t : Nat) : Nat := ch (A 22) (fun _ => 1) (fun _ s => s + 1) t
/-! remand -/
def covF (A : AA) (m : Nat) : Nat → Nat → Bool
  | 0, _ => false
  | k + 1, d => covF A m k d || (m.testBit (A 25 k).toNat && decide (A 26 k ≤ d) && decide ((d : Int) ≤ A 27 k))
def cov (A : AA) (m d : Nat) : Bool := covF A m (A 0 14).toNat d
def uns (A : AA) (d : Nat) : Bool := decide (A 12 d ≠ 2)
def crM (A : AA) (m : Nat) : Nat := fb_ct (fun d => cov A m d && uns A d) 14656
noncomputable def cdZ (A : AA) (t : Nat) : Int := if (crM A (chM A t) : Int) < alZ A t then (crM A (chM A t) : Int) else alZ A t
/-! awards -/
def adM (A : AA) (m : Nat) : Int := fb_si (fun k => if (A 30 k).toNat &&& m = 0 then 0 else A 29 k) (A 0 18).toNat
def adZ (A : AA) (t : Nat) : Int := adM A (chM A t)
noncomputable def mxZ (A : AA) (t : Nat) : Int := if apZ A t - cdZ A t < 0 then 0 else apZ A t - cdZ A t
noncomputable def rlW (A : AA) (t : Nat) (a : Int) : Int := fsZ A t + (if mxZ A t + a < alZ A t - cdZ A t then mxZ A t + a else alZ A t - cdZ A t)
noncomputable def rlZ (A : AA) (t : Nat) : Int := rlW A t (adZ A t)
noncomputable def enZ (A : AA) (t : Nat) : Int := fsZ A t + (alZ A t - cdZ A t)
/-- the greatest g of the terms that stand, at least 0 -/
def mxF (q g : Nat → Int) : Nat → Int
  | 0 => 0
  | t + 1 => if q t = 0 then (if mxF q g t < g t then g t else mxF q g t) else mxF q g t
noncomputable def roA (A : AA) : Int := mxF (A 23) (rlZ A) (A 0 6).toNat
noncomputable def eoA (A : AA) : Int := mxF (A 23) (enZ A) (A 0 6).toNat
/-- the days that awards add to the latest recall -/
def arZ (A : AA) : Int := fb_si (fun k => if A 31 k = A 0 22 - 1 then A 29 k else 0) (A 0 18).toNat
def rcE (A : AA) : Int := if A 0 22 = 0 then 0 else if A 0 24 = 0 then A 0 25 else if A 0 23 + A 0 24 + arZ A < A 0 25 then A 0 23 + A 0 24 + arZ A else A 0 25
/-- what is always so -/
def WF (A : AA) : Prop :=
  (0 ≤ A 0 1 ∧ A 0 1 ≤ 14609) ∧ (0 ≤ A 0 6 ∧ A 0 6 ≤ 10) ∧ (0 ≤ A 0 14 ∧ A 0 14 ≤ 8) ∧ (0 ≤ A 0 18 ∧ A 0 18 ≤ 8) ∧ (0 ≤ A 0 22 ∧ A 0 22 ≤ 6) ∧
  (∀ t : Nat, (t : Int) < A 0 6 → (0 ≤ A 17 t ∧ A 17 t ≤ 3) ∧ (0 ≤ A 18 t ∧ A 18 t ≤ 60) ∧ (0 ≤ A 19 t ∧ A 19 t ≤ 99) ∧ (0 ≤ A 20 t ∧ A 20 t ≤ 14609) ∧ (0 ≤ A 21 t ∧ A 21 t ≤ 14609) ∧ (-1 ≤ A 22 t ∧ A 22 t < t) ∧ (A 23 t = 0 ∨ A 23 t = 1) ∧ (A 23 t = 0 → 0 ≤ A 22 t → A 23 (A 22 t).toNat = 0)) ∧
  (∀ t : Nat, A 0 6 ≤ t → A 23 t = 0) ∧
  (∀ k : Nat, (k : Int) < A 0 14 → (0 ≤ A 25 k ∧ A 25 k < A 0 6) ∧ 0 ≤ A 26 k ∧ A 26 k ≤ A 27 k ∧ A 27 k < A 0 1) ∧
  (∀ k : Nat, (k : Int) < A 0 18 → (0 ≤ A 29 k ∧ A 29 k ≤ 42) ∧ (0 ≤ A 30 k ∧ A 30 k < 1024) ∧ (-1 ≤ A 31 k ∧ A 31 k < A 0 22)) ∧
  (0 < A 0 22 → (0 ≤ A 0 23 ∧ A 0 23 ≤ 14609) ∧ (0 ≤ A 0 24 ∧ A 0 24 ≤ 28) ∧ (0 ≤ A 0 25 ∧ A 0 25 ≤ 1000000)) ∧
  (∀ d : Nat, (A 12 d = 0 ∨ A 12 d = 1 ∨ A 12 d = 2) ∧ (A 0 1 ≤ d → A 12 d = 0)) ∧
  A 13 0 = 0 ∧ (∀ d : Nat, (d : Int) < A 0 1 → A 13 (d + 1) = A 13 d + (if A 12 d = 2 then 0 else 1)) ∧
  A 0 4 = fb_ct (fun d => decide (A 12 d = 2)) (A 0 1).toNat ∧ A 0 5 = fb_ct (fun d => decide (A 12 d = 1)) (A 0 1).toNat ∧
  (0 ≤ A 0 26 ∧ A 0 26 ≤ A 0 1)
theorem WF.pw {A : AA} (h : WF A) : PW (A 22) (A 0 6).toNat := fun t ht => (h.2.2.2.2.2.1 t (by omega)).2.2.2.2.2.1
theorem WF.st_eq {A : AA} (h : WF A) {t : Nat} (ht : (t : Int) < A 0 6) : stZ A t = if A 22 t = -1 then A 21 t else stZ A (A 22 t).toNat + lnZ A (A 22 t).toNat := by
  have e := ch_eq (b := A 21) (s := fun t s => s + lnO A s (A 22 t).toNat) h.pw (t := t) (by omega)
  exact e
theorem WF.fs_eq {A : AA} (h : WF A) {t : Nat} (ht : (t : Int) < A 0 6) : fsZ A t = if A 22 t = -1 then A 21 t else fsZ A (A 22 t).toNat := by
  have e := ch_eq (b := fun t => t) (s := fun _ r => r) h.pw (t := t) (by omega)
  unfold fsZ rtZ
  rw [e]
  split <;> rfl
theorem WF.al_eq {A : AA} (h : WF A) {t : Nat} (ht : (t : Int) < A 0 6) : alZ A t = lnZ A t + (if A 22 t = -1 then 0 else alZ A (A 22 t).toNat) := by
  have e := ch_eq (b := lnZ A) (s := fun t s => lnZ A t + s) h.pw (t := t) (by omega)
  unfold alZ
  rw [e]
  split <;> omega
theorem WF.ap_eq {A : AA} (h : WF A) {t : Nat} (ht : (t : Int) < A 0 6) : apZ A t = ptZ A t + (if A 22 t = -1 then 0 else apZ A (A 22 t).toNat) := by
  have e := ch_eq (b := ptZ A) (s := fun t s => ptZ A t + s) h.pw (t := t) (by omega)
  unfold apZ
  rw [e]
  split <;> omega
theorem WF.cm_eq {A : AA} (h : WF A) {t : Nat} (ht : (t : Int) < A 0 6) : chM A t = 2 ^ t ||| (if A 22 t = -1 then 0 else chM A (A 22 t).toNat) := by
  have e := ch_eq (b := fun t => 2 ^ t) (s := fun t s => 2 ^ t ||| s) h.pw (t := t) (by omega)
  unfold chM
  rw [e]
  split
  · rw [Nat.or_zero]
  · rfl
theorem WF.cs_eq {A : AA} (h : WF A) {t : Nat} (ht : (t : Int) < A 0 6) : csZ A t = (if A 22 t = -1 then 0 else csZ A (A 22 t).toNat) + 1 := by
  have e := ch_eq (b := fun _ => 1) (s := fun _ s => s + 1) h.pw (t := t) (by omega)
  unfold csZ
  rw [e]
  split <;> rfl
theorem pa_in {kd ln : Int} (h : 0 ≤ ln) : 0 ≤ paZ kd ln ∧ paZ kd ln ≤ ln := by
  unfold paZ
  repeat' split
  all_goals omega
theorem WF.st {A : AA} (h : WF A) : ∀ (t : Nat), (t : Int) < A 0 6 → 0 ≤ stZ A t ∧ stZ A t ≤ 14609 + 2700 * t ∧ 0 ≤ lnZ A t ∧ lnZ A t ≤ 2700 := by
  have key : ∀ (m t : Nat), t < m → (t : Int) < A 0 6 → 0 ≤ stZ A t ∧ stZ A t ≤ 14609 + 2700 * t ∧ 0 ≤ lnZ A t ∧ lnZ A t ≤ 2700 := by
    intro m
    induction m with
    | zero => intro t h1; omega
    | succ m ih =>
      intro t h1 ht
      obtain ⟨w1, w2, w3, w4, w5, w6, -⟩ := h.2.2.2.2.2.1 t ht
      have hs : 0 ≤ stZ A t ∧ stZ A t ≤ 14609 + 2700 * t := by
        rw [h.st_eq ht]
        by_cases c : A 22 t = -1
        · rw [if_pos c]; omega
        · rw [if_neg c]
          have := ih (A 22 t).toNat (by omega) (by omega)
          omega
      have hl := lat_in hs.1 w2.1 w2.2
      refine ⟨hs.1, hs.2, ?_, ?_⟩
      · unfold lnZ lnO; omega
      · unfold lnZ lnO; omega
  exact fun t ht => key (t + 1) t (by omega) ht
theorem WF.al {A : AA} (h : WF A) : ∀ (t : Nat), (t : Int) < A 0 6 → 0 ≤ alZ A t ∧ alZ A t ≤ 2700 * (t + 1) ∧ 0 ≤ apZ A t ∧ apZ A t ≤ alZ A t := by
  have key : ∀ (m t : Nat), t < m → (t : Int) < A 0 6 → 0 ≤ alZ A t ∧ alZ A t ≤ 2700 * (t + 1) ∧ 0 ≤ apZ A t ∧ apZ A t ≤ alZ A t := by
    intro m
    induction m with
    | zero => intro t h1; omega
    | succ m ih =>
      intro t h1 ht
      obtain ⟨w1, w2, w3, w4, w5, w6, -⟩ := h.2.2.2.2.2.1 t ht
      obtain ⟨s1, s2, s3, s4⟩ := h.st t ht
      have hp := pa_in (kd := A 17 t) s3
      rw [h.al_eq ht, h.ap_eq ht]
      by_cases c : A 22 t = -1
      · rw [if_pos c, if_pos c]
        unfold ptZ
        omega
      · rw [if_neg c, if_neg c]
        have := ih (A 22 t).toNat (by omega) (by omega)
        unfold ptZ
        omega
  exact fun t ht => key (t + 1) t (by omega) ht
theorem WF.rt {A : AA} (h : WF A) : ∀ (t : Nat), (t : Int) < A 0 6 → rtZ A t ≤ t := by
  have key : ∀ (m t : Nat), t < m → (t : Int) < A 0 6 → rtZ A t ≤ t := by
    intro m
    induction m with
    | zero => intro t h1; omega
    | succ m ih =>
      intro t h1 ht
      obtain ⟨w1, w2, w3, w4, w5, w6, -⟩ := h.2.2.2.2.2.1 t ht
      unfold rtZ
      rw [ch_eq h.pw (by omega)]
      by_cases c : A 22 t = -1
      · rw [if_pos c]; exact Nat.le_refl _
      · rw [if_neg c]
        have := ih (A 22 t).toNat (by omega) (by omega)
        unfold rtZ at this
        omega
  exact fun t ht => key (t + 1) t (by omega) ht
theorem WF.fs {A : AA} (h : WF A) (t : Nat) (ht : (t : Int) < A 0 6) : 0 ≤ fsZ A t ∧ fsZ A t ≤ 14609 := by
  have := h.rt t ht
  exact (h.2.2.2.2.2.1 (rtZ A t) (by omega)).2.2.2.2.1
theorem cd_in {A : AA} (h : WF A) (t : Nat) (ht : (t : Int) < A 0 6) : 0 ≤ cdZ A t ∧ cdZ A t ≤ alZ A t := by
  have := h.al t ht
  unfold cdZ
  split <;> omega
theorem ad_in {A : AA} (h : WF A) (m : Nat) : 0 ≤ adM A m ∧ adM A m ≤ 336 := by
  have key : ∀ n : Nat, (n : Int) ≤ A 0 18 → 0 ≤ fb_si (fun k => if (A 30 k).toNat &&& m = 0 then 0 else A 29 k) n ∧ fb_si (fun k => if (A 30 k).toNat &&& m = 0 then 0 else A 29 k) n ≤ 42 * n := by
    intro n
    induction n with
    | zero => intro _; exact ⟨Int.le_refl _, by show (0 : Int) ≤ _; omega⟩
    | succ n ih =>
      intro hn
      have i := ih (by omega)
      have w := h.2.2.2.2.2.2.2.2.1 n (by omega)
      rw [fb_si_succ]
      split <;> omega
  have w := h.2.2.2.1
  have := key (A 0 18).toNat (by omega)
  unfold adM
  omega
theorem rlW_in {A : AA} (h : WF A) (t : Nat) (ht : (t : Int) < A 0 6) {a : Int} (ha : 0 ≤ a) : 0 ≤ rlW A t a ∧ rlW A t a ≤ enZ A t ∧ enZ A t ≤ 60000 := by
  have h1 := h.al t ht
  have h2 := h.fs t ht
  have h3 := cd_in h t ht
  have h4 := h.2.1
  unfold rlW enZ mxZ
  refine ⟨?_, ?_, by omega⟩
  · split <;> split <;> omega
  · split <;> split <;> omega
theorem mxF_in {q g : Nat → Int} {b : Int} (hb : 0 ≤ b) : ∀ (n : Nat), (∀ t, t < n → q t = 0 → g t ≤ b) → 0 ≤ mxF q g n ∧ mxF q g n ≤ b := by
  intro n
  induction n with
  | zero => intro _; exact ⟨Int.le_refl _, hb⟩
  | succ n ih =>
    intro h
    have i := ih fun t ht => h t (by omega)
    rw [mxF]
    split
    · have := h n (by omega) (by assumption)
      split <;> omega
    · exact i
