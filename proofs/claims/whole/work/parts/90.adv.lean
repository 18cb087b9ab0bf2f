/-! ===== advance ===== -/
noncomputable def stD (A : AA) (d : Int) : Int := if d < roA A ∨ d < rcE A then 2 else if d < eoA A then 1 else 0
theorem stD_in (A : AA) (d : Int) : stD A d = 0 ∨ stD A d = 1 ∨ stD A d = 2 := by
  unfold stD
  split
  · exact Or.inr (Or.inr rfl)
  · split
    · exact Or.inr (Or.inl rfl)
    · exact Or.inl rfl
def day1 (B : AA) (s : Int) : AA := aU (aU (aU (aU (aU B 12 (B 0 1).toNat s) 0 5 (B 0 5 + (if s = 1 then 1 else 0))) 13 ((B 0 1).toNat + 1) (B 13 (B 0 1).toNat + (if s = 2 then 0 else 1))) 0 1 (B 0 1 + 1)) 0 4 (B 0 4 + (if s = 2 then 1 else 0))
theorem day1_r {B : AA} {s : Int} {r : Nat} (h0 : r ≠ 0) (h1 : r ≠ 12) (h2 : r ≠ 13) : day1 B s r = B r := by
  unfold day1
  rw [aU_r h0, aU_r h0, aU_r h2, aU_r h0, aU_r h1]
theorem day1_0 {B : AA} {s : Int} {j : Nat} (h1 : j ≠ 1) (h4 : j ≠ 4) (h5 : j ≠ 5) : day1 B s 0 j = B 0 j := by
  unfold day1
  rw [aU_k h4, aU_k h1, aU_r (by decide), aU_k h5, aU_r (by decide)]
theorem day1_x {B : AA} {s : Int} : day1 B s 0 1 = B 0 1 + 1 ∧ day1 B s 0 4 = B 0 4 + (if s = 2 then 1 else 0) ∧ day1 B s 0 5 = B 0 5 + (if s = 1 then 1 else 0) := by
  unfold day1
  simp (disch := decide) only [aU_s, aU_k, aU_r, and_self]
theorem day1_12 {B : AA} {s : Int} (d : Nat) : day1 B s 12 d = if d = (B 0 1).toNat then s else B 12 d := by
  unfold day1
  simp (disch := decide) only [aU_r]
  by_cases c : d = (B 0 1).toNat
  · rw [if_pos c, c, aU_s]
  · rw [if_neg c, aU_k c]
theorem day1_13 {B : AA} {s : Int} (d : Nat) : day1 B s 13 d = if d = (B 0 1).toNat + 1 then B 13 (B 0 1).toNat + (if s = 2 then 0 else 1) else B 13 d := by
  unfold day1
  simp (disch := decide) only [aU_r]
  by_cases c : d = (B 0 1).toNat + 1
  · rw [if_pos c, c, aU_s]
  · rw [if_neg c, aU_k c, aU_r (by decide), aU_r (by decide)]
theorem WF_d1 {B : AA} (h : WF B) (hB : B 0 1 < 14609) {s : Int} (hs : s = 0 ∨ s = 1 ∨ s = 2) : WF (day1 B s) := by
  have e0 : ∀ j, j ≠ 1 → j ≠ 4 → j ≠ 5 → day1 B s 0 j = B 0 j := fun j a b c => day1_0 a b c
  have er : ∀ r, r ≠ 0 → r ≠ 12 → r ≠ 13 → day1 B s r = B r := fun r a b c => day1_r a b c
  have w1 := h.1
  unfold WF at h ⊢
  rw [day1_x.1, day1_x.2.1, day1_x.2.2, e0 6 (by decide) (by decide) (by decide), e0 14 (by decide) (by decide) (by decide), e0 18 (by decide) (by decide) (by decide), e0 22 (by decide) (by decide) (by decide), e0 23 (by decide) (by decide) (by decide), e0 24 (by decide) (by decide) (by decide), e0 25 (by decide) (by decide) (by decide), e0 26 (by decide) (by decide) (by decide), er 17 (by decide) (by decide) (by decide), er 18 (by decide) (by decide) (by decide), er 19 (by decide) (by decide) (by decide), er 20 (by decide) (by decide) (by decide), er 21 (by decide) (by decide) (by decide), er 22 (by decide) (by decide) (by decide), er 23 (by decide) (by decide) (by decide), er 25 (by decide) (by decide) (by decide), er 26 (by decide) (by decide) (by decide), er 27 (by decide) (by decide) (by decide), er 29 (by decide) (by decide) (by decide), er 30 (by decide) (by decide) (by decide), er 31 (by decide) (by decide) (by decide)]
  obtain ⟨h1, h2, h3, h4, h5, h6, h7, h8, h9, h10, h11, h12, h13, h14, h15, h16⟩ := h
  refine ⟨by omega, h2, h3, h4, h5, h6, h7, fun k hk => ?_, h9, h10, fun d => ?_, ?_, fun d hd => ?_, ?_, ?_, by omega⟩
  · have := h8 k hk
    omega
  · rw [day1_12]
    have := h11 d
    by_cases c : d = (B 0 1).toNat
    · rw [if_pos c]
      exact ⟨hs, fun q => by omega⟩
    · rw [if_neg c]
      exact ⟨this.1, fun q => this.2 (by omega)⟩
  · rw [day1_13, if_neg (by omega)]
    exact h12
  · rw [day1_13, day1_13, day1_12]
    by_cases c : d = (B 0 1).toNat
    · rw [if_pos (show d + 1 = (B 0 1).toNat + 1 by omega), if_neg (show ¬ d = (B 0 1).toNat + 1 by omega), if_pos c, c]
    · rw [if_neg (show ¬ d + 1 = (B 0 1).toNat + 1 by omega), if_neg (show ¬ d = (B 0 1).toNat + 1 by omega), if_neg c]
      exact h13 d (by omega)
  · have e : (B 0 1 + 1).toNat = (B 0 1).toNat + 1 := by omega
    rw [e, fb_ct_succ, h14]
    have e1 : fb_ct (fun d => decide (day1 B s 12 d = 2)) (B 0 1).toNat = fb_ct (fun d => decide (B 12 d = 2)) (B 0 1).toNat := fb_ct_cong fun d hd => by
      show decide (day1 B s 12 d = 2) = decide (B 12 d = 2)
      rw [day1_12, if_neg (by omega)]
    rw [e1, day1_12, if_pos rfl]
    rcases hs with q | q | q <;> subst q <;> simp
  · have e : (B 0 1 + 1).toNat = (B 0 1).toNat + 1 := by omega
    rw [e, fb_ct_succ, h15]
    have e1 : fb_ct (fun d => decide (day1 B s 12 d = 1)) (B 0 1).toNat = fb_ct (fun d => decide (B 12 d = 1)) (B 0 1).toNat := fb_ct_cong fun d hd => by
      show decide (day1 B s 12 d = 1) = decide (B 12 d = 1)
      rw [day1_12, if_neg (by omega)]
    rw [e1, day1_12, if_pos rfl]
    rcases hs with q | q | q <;> subst q <;> simp
noncomputable def advA (A : AA) : Nat → AA
  | 0 => A
  | j + 1 => day1 (advA A j) (stD A (A 0 1 + j))
noncomputable def cuZ (A : AA) (j : Int) : Int := if A 0 1 + j < (if A 0 1 < roA A then (if roA A < rcE A then rcE A else roA A) else (if A 0 1 < rcE A then rcE A else A 0 1)) then A 0 1 + j else (if A 0 1 < roA A then (if roA A < rcE A then rcE A else roA A) else (if A 0 1 < rcE A then rcE A else A 0 1))
noncomputable def luZ (A : AA) (j : Int) : Int := if A 0 1 + j < (if cuZ A j < eoA A then eoA A else cuZ A j) then A 0 1 + j else (if cuZ A j < eoA A then eoA A else cuZ A j)
theorem cu_0 (A : AA) : cuZ A 0 = A 0 1 ∧ luZ A 0 = A 0 1 := by
  have e : cuZ A 0 = A 0 1 := by
    unfold cuZ
    (repeat' split) <;> omega
  refine ⟨e, ?_⟩
  unfold luZ
  rw [e]
  (repeat' split) <;> omega
theorem cu_s (A : AA) {j : Int} (hj : 0 ≤ j) : cuZ A (j + 1) = cuZ A j + (if stD A (A 0 1 + j) = 2 then 1 else 0) ∧ luZ A (j + 1) - cuZ A (j + 1) = luZ A j - cuZ A j + (if stD A (A 0 1 + j) = 1 then 1 else 0) ∧ A 0 1 ≤ cuZ A j ∧ cuZ A j ≤ luZ A j ∧ luZ A j ≤ A 0 1 + j := by
  obtain ⟨K, eK⟩ : ∃ K : Int, K = (if A 0 1 < roA A then (if roA A < rcE A then rcE A else roA A) else (if A 0 1 < rcE A then rcE A else A 0 1)) := ⟨_, rfl⟩
  have hK : A 0 1 ≤ K ∧ (∀ d : Int, A 0 1 ≤ d → ((d < roA A ∨ d < rcE A) ↔ d < K)) := by
    rw [eK]
    refine ⟨by (repeat' split) <;> omega, fun d hd => ?_⟩
    (repeat' split) <;> omega
  have es : stD A (A 0 1 + j) = if A 0 1 + j < K then 2 else if A 0 1 + j < eoA A then 1 else 0 := by
    unfold stD
    by_cases c : A 0 1 + j < K
    · rw [if_pos c, if_pos ((hK.2 _ (by omega)).mpr c)]
    · rw [if_neg c, if_neg (fun q => c ((hK.2 _ (by omega)).mp q))]
  have e1 : ∀ i : Int, cuZ A i = if A 0 1 + i < K then A 0 1 + i else K := fun i => by
    unfold cuZ
    rw [← eK]
  have e2 : ∀ i : Int, luZ A i = if A 0 1 + i < (if cuZ A i < eoA A then eoA A else cuZ A i) then A 0 1 + i else (if cuZ A i < eoA A then eoA A else cuZ A i) := fun i => rfl
  rw [es, e2 j, e2 (j + 1), e1 j, e1 (j + 1)]
  have hk := hK.1
  generalize eoA A = E
  generalize A 0 1 = T at *
  by_cases c : T + j < K
  · rw [if_pos c]
    by_cases c2 : T + (j + 1) < K
    · rw [if_pos c2]
      rw [show (if T + j < K then (2 : Int) else if T + j < E then 1 else 0) = 2 from if_pos c, if_pos (show (2 : Int) = 2 from rfl), if_neg (show ¬ (2 : Int) = 1 by decide)]
      (repeat' split) <;> omega
    · rw [if_neg c2]
      rw [show (if T + j < K then (2 : Int) else if T + j < E then 1 else 0) = 2 from if_pos c, if_pos (show (2 : Int) = 2 from rfl), if_neg (show ¬ (2 : Int) = 1 by decide)]
      (repeat' split) <;> omega
  · rw [if_neg c, if_neg (show ¬ T + (j + 1) < K by omega)]
    (repeat' split) <;> omega
theorem adv_f {A : AA} (h : WF A) : ∀ j : Nat, A 0 1 + j ≤ 14609 → WF (advA A j) ∧ advA A j 0 1 = A 0 1 + j ∧ (∀ r, r ≠ 0 → r ≠ 12 → r ≠ 13 → advA A j r = A r) ∧ (∀ i, i ≠ 1 → i ≠ 4 → i ≠ 5 → advA A j 0 i = A 0 i) ∧ (∀ d : Nat, advA A j 12 d = if A 0 1 ≤ d ∧ (d : Int) < A 0 1 + j then stD A d else A 12 d) ∧ advA A j 0 4 = A 0 4 + (cuZ A j - A 0 1) ∧ advA A j 0 5 = A 0 5 + (luZ A j - cuZ A j) := by
  intro j
  have w1 := h.1
  induction j with
  | zero =>
    intro _
    have e := cu_0 A
    refine ⟨h, by show A 0 1 = A 0 1 + 0; omega, fun _ _ _ _ => rfl, fun _ _ _ _ => rfl, fun d => ?_, ?_, ?_⟩
    · rw [if_neg (by omega)]; rfl
    · show A 0 4 = A 0 4 + (cuZ A 0 - A 0 1)
      rw [e.1]; omega
    · show A 0 5 = A 0 5 + (luZ A 0 - cuZ A 0)
      rw [e.1, e.2]; omega
  | succ j ih =>
    intro hj
    obtain ⟨i1, i2, i3, i4, i5, i6, i7⟩ := ih (by omega)
    have hc := cu_s A (j := j) (by omega)
    have hd := stD_in A (A 0 1 + j)
    rw [advA]
    refine ⟨WF_d1 i1 (by omega) hd, ?_, fun r a b c => ?_, fun i a b c => ?_, fun d => ?_, ?_, ?_⟩
    · rw [day1_x.1, i2]; omega
    · rw [day1_r a b c]; exact i3 r a b c
    · rw [day1_0 a b c]; exact i4 i a b c
    · rw [day1_12, i2, i5]
      by_cases c : d = (A 0 1 + (j : Int)).toNat
      · rw [if_pos c, if_pos (by omega)]
        congr 1
        omega
      · rw [if_neg c]
        by_cases c2 : A 0 1 ≤ d ∧ (d : Int) < A 0 1 + j
        · rw [if_pos c2, if_pos (by omega)]
        · rw [if_neg c2, if_neg (by omega)]
    · rw [day1_x.2.1, i6, show ((j + 1 : Nat) : Int) = (j : Int) + 1 from rfl, hc.1]
      omega
    · rw [day1_x.2.2, i7, show ((j + 1 : Nat) : Int) = (j : Int) + 1 from rfl, hc.2.1]
      omega
theorem aU_b {B : AA} {u : Int} : aU (aU B 0 4 u) 0 4 (B 0 4) = B := by
  funext r k
  rw [aU_ap, aU_ap]
  by_cases c : r = 0 ∧ k = 4
  · rw [if_pos c, c.1, c.2]
  · rw [if_neg c, if_neg c]
theorem aU_d {B : AA} {s u : Int} {c : Nat} (hc : (B 0 1).toNat = c) : aU (day1 B s) 0 4 u = aU (aU (aU (aU (aU B 0 4 u) 12 c s) 0 5 (B 0 5 + (if s = 1 then 1 else 0))) 13 (c + 1) (B 13 c + (if s = 2 then 0 else 1))) 0 1 (B 0 1 + 1) := by
  subst hc
  funext r k
  unfold day1
  generalize (if s = 1 then (1 : Int) else 0) = p
  generalize (if s = 2 then (0 : Int) else 1) = q
  generalize (if s = 2 then (1 : Int) else 0) = w
  simp only [aU_ap]
  by_cases c1 : r = 0 ∧ k = 4
  · rw [if_pos c1, if_neg (by omega), if_neg (by omega), if_neg (by omega), if_neg (by omega), if_pos c1]
  · rw [if_neg c1, if_neg c1, if_neg c1]
theorem i8 {s : Int} (hs : s = 0 ∨ s = 1 ∨ s = 2) : (iI s).toInt8.toInt32 = iI s := by
  rcases hs with q | q | q <;> subst q <;> decide
theorem d_adv_l {A : AA} (h : WF A) {n : Nat} (hn : A 0 1 + n ≤ 14609) : ∀ (f j : Nat) (z : SX), MZ z (aU (advA A j) 0 4 (A 0 4)) → j ≤ n → n < j + f → ∃ z' : SX, f_X7_advance_l63 (iI n) (iI (roA A)) (iI (rcE A)) (iI (eoA A)) f (iI (cuZ A j - A 0 1)) (iI j) z = some (iI (cuZ A n - A 0 1), z') ∧ MZ z' (advA A n) ∧ (∀ r k, r ≠ 0 → r ≠ 12 → r ≠ 13 → z'.1 r k = z.1 r k) ∧ z'.1 0 0 = z.1 0 0 := by
  intro f
  have w1 := h.1
  have hro := ro_in h
  have hrc := rc_in h
  have heo := eo_in h
  induction f with
  | zero => intro j z _ a b; omega
  | succ f ih =>
    intro j z hz a b
    obtain ⟨i1, i2, i3, i4, i5, i6, i7⟩ := adv_f h j (by omega)
    rw [f_X7_advance_l63, it_le (by omega) (by omega) (by omega) (by omega)]
    by_cases e : (n : Int) ≤ j
    · have ej : j = n := by omega
      subst ej
      rw [if_pos e, hz 0 4 rfl, aU_s, i_add, q_nm]
      refine ⟨_, rfl, ?_, fun r k h0 h1 h2 => by rw [sg_r h0], by rw [sg_k (by decide)]⟩
      have := MZ_put hz (r := 0) (k := 4) (v := advA A j 0 4)
      rw [aU_b] at this
      rw [i6] at this
      exact this
    · have hj : A 0 1 + (j + 1 : Nat) ≤ 14609 := by omega
      have hsd := stD_in A (A 0 1 + j)
      have e01 : z.1 0 1 = iI (A 0 1 + j) := by rw [hz 0 1 rfl, aU_k (by decide), i2]
      have hcu := cu_s A (j := j) (by omega)
      obtain ⟨c, hc⟩ : ∃ c : Nat, (c : Int) = A 0 1 + j := ⟨(A 0 1 + j).toNat, by omega⟩
      have est : (if (iI (A 0 1 + j)) < iI (roA A) then some (2 : Int32) else (if iI (rcE A) ≤ (iI (A 0 1 + j)) then (if iI (eoA A) ≤ (iI (A 0 1 + j)) then some (0 : Int32) else some (1 : Int32)) else some (2 : Int32))) = some (iI (stD A (A 0 1 + j))) := by
        rw [it_lt (by omega) (by omega) (by omega) (by omega), it_le (by omega) (by omega) (by omega) (by omega), it_le (by omega) (by omega) (by omega) (by omega)]
        unfold stD
        by_cases c1 : A 0 1 + j < roA A
        · rw [if_pos c1, if_pos (Or.inl c1)]; rfl
        · rw [if_neg c1]
          by_cases c2 : rcE A ≤ A 0 1 + j
          · rw [if_pos c2, if_neg (show ¬ (A 0 1 + (j : Int) < roA A ∨ A 0 1 + (j : Int) < rcE A) by omega)]
            by_cases c3 : eoA A ≤ A 0 1 + j
            · rw [if_pos c3, if_neg (by omega)]; rfl
            · rw [if_neg c3, if_pos (by omega)]; rfl
          · rw [if_neg c2, if_pos (Or.inr (by omega))]; rfl
      rw [if_neg e, e01, est, q_some]
      generalize hs : stD A (A 0 1 + j) = s at *
      have x2 : (if iI s = (2 : Int32) then some (1 : Int32) else some (0 : Int32)) = some (iI (if s = 2 then 1 else 0)) := by rcases hsd with q | q | q <;> subst q <;> rfl
      have x1 : (if iI s = (1 : Int32) then some (1 : Int32) else some (0 : Int32)) = some (iI (if s = 1 then 1 else 0)) := by rcases hsd with q | q | q <;> subst q <;> rfl
      have x3 : (if iI s = (2 : Int32) then some (0 : Int32) else some (1 : Int32)) = some (iI (if s = 2 then 0 else 1)) := by rcases hsd with q | q | q <;> subst q <;> rfl
      have z05 : z.1 0 5 = iI (advA A j 0 5) := by rw [hz 0 5 rfl, aU_k (by decide)]
      have z13 : z.1 13 c = iI (advA A j 13 c) := by rw [hz 13 c rfl, aU_r (by decide)]
      rw [← hc, i_gd (by omega) (by omega) (by decide), i_clN (by omega), i8 hsd, q_nm, x2, q_some, i_add, q_nm, x1, q_some, sg_r (by decide), z05, i_add, q_nm, sg_k (by decide), sg_r (by decide), e01, ← hc, i_gd (by omega) (by omega) (by decide), x3, q_some, i_1, i_gd (by omega) (by omega) (by decide), i_clN (by omega), show ((c : Int) + 1) = ((c + 1 : Nat) : Int) from rfl, i_clN (by omega), sg_r (by decide), sg_r (by decide), z13, i_add, q_nm, sg_r (by decide), sg_k (by decide), sg_r (by decide), e01, ← hc, i_1, q_nm, i_1, q_nm]
      have ht : (advA A j 0 1).toNat = c := by omega
      have hz' : MZ (si (si (si (si z 12 c (iI s)) 0 5 (iI (advA A j 0 5 + (if s = 1 then 1 else 0)))) 13 (c + 1) (iI (advA A j 13 c + (if s = 2 then 0 else 1)))) 0 1 (iI ((c : Int) + 1))) (aU (advA A (j + 1)) 0 4 (A 0 4)) := by
        rw [advA, hs, aU_d ht, i2, ← hc]
        exact MZ_put (MZ_put (MZ_put (MZ_put hz)))
      obtain ⟨z', k1, k2, k3, k4⟩ := ih (j + 1) _ hz' (by omega) (by omega)
      refine ⟨z', ?_, k2, fun r k h0 h1 h2 => ?_, ?_⟩
      · rw [show cuZ A ((j + 1 : Nat) : Int) - A 0 1 = cuZ A j - A 0 1 + (if s = 2 then 1 else 0) by
          rw [show ((j + 1 : Nat) : Int) = (j : Int) + 1 from rfl, hcu.1]; omega] at k1
        exact k1
      · rw [k3 r k h0 h1 h2, sg_r h0, sg_r h2, sg_r h0, sg_r h1]
      · rw [k4, sg_k (by decide), sg_r (by decide), sg_k (by decide), sg_r (by decide)]
