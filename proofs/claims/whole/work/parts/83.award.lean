/-! ===== giveBack, award, recall, lastReleaseWithAward ===== -/
theorem sp_giveBack : SP_giveBack Rel := by
  intro x t k z a b hR
  have hR' := hR
  obtain ⟨A, h, hM, hD, hW, hz, hDz, hT⟩ := hR
  have w18 := h.2.2.2.1
  have r35 := hM.2.2.2.2.2.2.2.2.2.2.2.2.2.2.2.2.2.2.2.1
  rcases a_cases h hM hz a with ⟨s, rfl, hs, e1, e2⟩ | ⟨e1, e2⟩
  · obtain ⟨v, v1, v2, rfl⟩ := i_of b
    have wa := h.aw s hs
    have g := d_in_ (n := 40000) (a := v) (b := 1) (c := A 29 s) v1 v2 (by omega) (by omega) (by omega) (by omega)
    by_cases c : 1 ≤ v ∧ v ≤ A 29 s
    · obtain ⟨B, eB⟩ : ∃ B : AA, B = aU A 29 s (A 29 s - v) := ⟨_, rfl⟩
      have hB : ∀ r, r ≠ 29 → B r = A r := fun r hr => by rw [eB, aU_r hr]
      have hWF : WF B := WF_29 h hB fun j hj => by
        have wj := h.aw j hj
        rw [eB]
        by_cases q : j = s
        · rw [q, aU_s]; omega
        · rw [aU_k q]; exact wj.1
      have hMX : MX (si x 35 s (iI (A 29 s - v))) B := by rw [eB]; exact MX_29 hM
      have d1 : ER1 A B := ⟨hB 17 (by decide), hB 18 (by decide), hB 19 (by decide), hB 21 (by decide), hB 22 (by decide), hB 23 (by decide), by rw [hB 0 (by decide)]⟩
      have d2 : ER2 A B := ⟨by rw [hB 0 (by decide)], hB 25 (by decide), hB 26 (by decide), hB 27 (by decide), fun d _ => by rw [hB 12 (by decide)]⟩
      have hDX : DX (si x 35 s (iI (A 29 s - v))) B := DX_c h d1 d2 (by
        unfold DX at hD ⊢
        simp (disch := decide) only [sg_r]
        exact hD)
      have hz1 : MZ (si (si z 0 0 0) 29 s (iI (A 29 s - v))) B := by rw [eB]; exact MZ_put (MZ_scr hz rfl)
      obtain ⟨z', k1, k2, k3, k4⟩ := works (Nat.le_refl 40000) hWF hz1
      refine ⟨40000, si x 35 s (iI (A 29 s - v)), 0, iI (A 29 s - v), 0, 40000, iI (A 29 s - v), z', ?_, Or.inl ⟨rfl, rfl⟩, ?_, ?_, fun _ => rfl, ⟨B, hWF, hMX, hDX, hW |> fun w => ?_, k2, k3, HT_c (by rw [hB 0 (by decide)]) (fun d _ => by rw [hB 12 (by decide)]) hT⟩⟩
      · unfold f_X6_giveBack
        rw [e1, q_x0, show (1 : Int32) = iI 1 from rfl, it_lt (by omega) (by omega) (by omega) (by omega), if_neg (by omega), i_gd (by omega) (by omega) (by decide), i_clN (by omega), r35 s, it_le (by omega) (by omega) (by omega) (by omega), if_pos c.2, i_sub, q_nm, sg_s]
      · unfold f_X7_giveBack
        rw [e2, q_some, if_neg (by decide), i_gd (by omega) (by omega) (by decide), i_clN (by omega), hz 29 s rfl, show (1 : Int32) = iI 1 from rfl, g.1 c, q_some, if_neg (by decide), q_some, d_fails0, q_some2, if_pos rfl, i_gd (by omega) (by omega) (by decide), sg_r (by decide), hz 29 s rfl, i_sub, q_nm, k1, q_some, k2 29 s rfl, eB, aU_s]
      · rw [k4 0 0 (Or.inl ⟨rfl, Or.inl (by decide)⟩), sg_r (by decide), sg_s]
      · unfold WX at w ⊢
        rw [hB 12 (by decide)]
        exact w
    · refine ⟨40000, x, 1, 0, 2, 40000, 0, si z 0 0 2, ?_, Or.inr (Or.inr ⟨rfl, rfl⟩), ?_, sg_s, fun q => absurd q (by decide), hR'.th 2⟩
      · unfold f_X6_giveBack
        rw [e1, q_x0, show (1 : Int32) = iI 1 from rfl, it_lt (by omega) (by omega) (by omega) (by omega), i_qin (by omega) (by omega) (by decide), q_gdt, i_clN (by omega), r35 s, it_le (by omega) (by omega) (by omega) (by omega)]
        by_cases c2 : v < 1
        · rw [if_pos c2]
        · rw [if_neg c2, if_neg (by omega)]
      · unfold f_X7_giveBack
        rw [e2, q_some, if_neg (by decide), i_gd (by omega) (by omega) (by decide), i_clN (by omega), hz 29 s rfl, show (1 : Int32) = iI 1 from rfl, g.2 c]
        rfl
  · refine ⟨40000, x, 3, 0, 1, 40000, 0, si z 0 0 1, ?_, Or.inr (Or.inl ⟨rfl, rfl⟩), ?_, sg_s, fun q => absurd q (by decide), hR'.th 1⟩
    · unfold f_X6_giveBack
      rw [e1]
      rfl
    · unfold f_X7_giveBack
      rw [e2]
      rfl
/-! the terms whose release day lies ahead -/
noncomputable def unF (A : AA) : Nat → Nat
  | 0 => 0
  | k + 1 => unF A k ||| (if A 23 k = 0 ∧ A 0 1 < rlZ A k then 2 ^ k else 0)
noncomputable def unM (A : AA) : Nat := unF A (A 0 6).toNat
theorem unF_lt (A : AA) : ∀ k, unF A k < 2 ^ k := by
  intro k
  induction k with
  | zero => show 0 < 2 ^ 0; decide
  | succ k ih =>
    rw [unF]
    refine Nat.or_lt_two_pow (Nat.lt_of_lt_of_le ih (Nat.pow_le_pow_right (by decide) (by omega))) ?_
    split
    · exact Nat.pow_lt_pow_right (by decide) (by omega)
    · exact Nat.two_pow_pos _
theorem un_lt {A : AA} (h : WF A) : unM A < 1024 := by
  have w6 := h.2.1
  exact Nat.lt_of_lt_of_le (unF_lt A _) (Nat.pow_le_pow_right (n := 2) (i := (A 0 6).toNat) (j := 10) (by decide) (by omega))
theorem c_un_l {n : Nat} (hn : 40000 ≤ n) {x : SX} {A : AA} (h : WF A) (hM : MX x A) (hD : DX x A) : ∀ (f k : Nat), (k : Int) ≤ A 0 6 → A 0 6 < k + f → f_X6_termsUnreleased_l4 x n f (nI (unF A k)) (iI k) = some (nI (unM A)) := by
  intro f
  have w6 := h.2.1
  have w1 := h.1
  have m17 := hM.2.2.2.1
  have m8 := hM.1
  have r16 := hM.2.2.2.2.2.2.2.2.2.2.2.2.2.2.2.1
  induction f with
  | zero => intro k a b; omega
  | succ f ih =>
    intro k a b
    rw [f_X6_termsUnreleased_l4, m17, it_le (by omega) (by omega) (by omega) (by omega)]
    by_cases e : A 0 6 ≤ k
    · rw [if_pos e]
      unfold unM
      rw [show (A 0 6).toNat = k by omega]
    · have i := ih (k + 1) (by omega) (by omega)
      rw [unF] at i
      have hq := q_23 h k
      rw [if_neg e, i_gd (by omega) (by omega) (by decide), i_clN (by omega), r16, show (0 : Int32) = iI 0 from rfl, it_eq (by omega) (by omega) (by omega) (by omega)]
      by_cases c : A 23 k = 0
      · have hr := rl_in h (t := k) (by omega)
        rw [if_pos c, c_relIn hn h hM hD (by omega) c, q_some, m8, it_le (by omega) (by omega) (by omega) (by omega)]
        by_cases c2 : rlZ A k ≤ A 0 1
        · rw [if_neg (by omega), Nat.or_zero] at i
          rw [if_pos c2, q_some, i_1, q_nm]
          exact i
        · rw [if_pos ⟨c, by omega⟩] at i
          rw [if_neg c2, sh1I (by omega), fa_or, q_nm, q_some, i_1, q_nm]
          exact i
      · rw [if_neg (fun q => c q.1), Nat.or_zero] at i
        rw [if_neg c, q_some, i_1, q_nm]
        exact i
theorem c_un {n : Nat} (hn : 40000 ≤ n) {x : SX} {A : AA} (h : WF A) (hM : MX x A) (hD : DX x A) : f_X6_termsUnreleased n x = some (nI (unM A)) := by
  have w6 := h.2.1
  exact c_un_l hn h hM hD n 0 (by omega) (by omega)
/-- the model's loop over the terms whose release day lies ahead (twice in it) -/
theorem d_unv {n : Nat} {z : SX} {A : AA} (h : WF A) (hz : MZ z A) (hD : DZ z A) {k : Nat} (hk : (k : Int) < A 0 6) : (qbd (f_X7_isIn n z (iI k)) fun r => qbd (if r = 0 then some (0 : Int32) else (qgd (qin (iI k) 10) (if (z.1 48 (iI k).toNatClampNeg) ≤ (z.1 0 1) then some (0 : Int32) else some ((1 : Int32) <<< (iI k &&& 31))))) fun v => some v) = some (nI (if A 23 k = 0 ∧ A 0 1 < rlZ A k then 2 ^ k else 0)) := by
  have w6 := h.2.1
  have w1 := h.1
  by_cases c : A 23 k = 0
  · have hr := rl_in h hk
    rw [d_isIn1 hz (by omega) c, q_some, if_neg (by decide), i_gd (by omega) (by omega) (by decide), i_clN (by omega), (hD k hk c).2.2.2.2.2.2.2.2.1, hz 0 1 rfl, it_le (by omega) (by omega) (by omega) (by omega)]
    by_cases c2 : rlZ A k ≤ A 0 1
    · rw [if_pos c2, if_neg (by omega)]; rfl
    · rw [if_neg c2, if_pos ⟨c, by omega⟩, sh1I (by omega)]; rfl
  · rw [d_isIn0 h hz (by omega) c, q_some, if_pos rfl, if_neg (fun q => c q.1)]; rfl
theorem qbd_c {α β : Type} {x : Option α} {f : α → Option β} {v : β} (h : qbd x f = some v) {γ : Type} (g : β → Option γ) : qbd x (fun r => qbd (f r) g) = g v := by
  cases x with
  | none => cases h
  | some a =>
    have h : f a = some v := h
    show qbd (f a) g = g v
    rw [h]
    rfl
theorem d_un2_l {n : Nat} {z : SX} {A : AA} (h : WF A) (hz : MZ z A) (hD : DZ z A) {a1 : Int32} : ∀ (f k : Nat), (k : Int) ≤ A 0 6 → A 0 6 < k + f → f_X7_lastReleaseWithAward_l40 z n a1 f (nI (unF A k)) (iI k) = f_X7_lastReleaseWithAward_e85 z n a1 (nI (unM A)) := by
  intro f
  have w6 := h.2.1
  induction f with
  | zero => intro k a b; omega
  | succ f ih =>
    intro k a b
    rw [f_X7_lastReleaseWithAward_l40, hz 0 6 rfl, it_le (by omega) (by omega) (by omega) (by omega)]
    by_cases e : A 0 6 ≤ k
    · rw [if_pos e]
      unfold unM
      rw [show (A 0 6).toNat = k by omega]
    · have i := ih (k + 1) (by omega) (by omega)
      rw [unF] at i
      have e2 := qbd_c (d_unv (n := n) h hz hD (k := k) (by omega)) (fun v58 => qnm (nI (unF A k) ||| v58) fun v60 => qnm (iI (k : Int) + 1) fun v61 => f_X7_lastReleaseWithAward_l40 z n a1 f v60 v61)
      rw [if_neg e]
      refine Eq.trans ?_ (e2.trans ?_)
      · refine congrArg (qbd _) (funext fun r => ?_)
        generalize (if r = 0 then some (0 : Int32) else (qgd (qin (iI (k : Int)) 10) (if (z.1 48 (iI (k : Int)).toNatClampNeg) ≤ (z.1 0 1) then some (0 : Int32) else some ((1 : Int32) <<< (iI (k : Int) &&& 31))))) = u
        cases u <;> rfl
      · show qnm (nI (unF A k) ||| nI _) _ = _
        rw [fa_or, q_nm, i_1, q_nm]
        exact i
theorem d_un1_l {n : Nat} {z : SX} {A : AA} (h : WF A) (hz : MZ z A) (hD : DZ z A) {a1 : Int32} : ∀ (f k : Nat), (k : Int) ≤ A 0 6 → A 0 6 < k + f → f_X7_awards_l4 z a1 n f (nI (unF A k)) (iI k) = f_X7_awards_e49 z a1 n (nI (unM A)) := by
  intro f
  have w6 := h.2.1
  induction f with
  | zero => intro k a b; omega
  | succ f ih =>
    intro k a b
    rw [f_X7_awards_l4, hz 0 6 rfl, it_le (by omega) (by omega) (by omega) (by omega)]
    by_cases e : A 0 6 ≤ k
    · rw [if_pos e]
      unfold unM
      rw [show (A 0 6).toNat = k by omega]
    · have i := ih (k + 1) (by omega) (by omega)
      rw [unF] at i
      have e2 := qbd_c (d_unv (n := n) h hz hD (k := k) (by omega)) (fun v24 => qnm (nI (unF A k) ||| v24) fun v26 => qnm (iI (k : Int) + 1) fun v27 => f_X7_awards_l4 z a1 n f v26 v27)
      rw [if_neg e]
      refine Eq.trans ?_ (e2.trans ?_)
      · refine congrArg (qbd _) (funext fun r => ?_)
        generalize (if r = 0 then some (0 : Int32) else (qgd (qin (iI (k : Int)) 10) (if (z.1 48 (iI (k : Int)).toNatClampNeg) ≤ (z.1 0 1) then some (0 : Int32) else some ((1 : Int32) <<< (iI (k : Int) &&& 31))))) = u
        cases u <;> rfl
      · show qnm (nI (unF A k) ||| nI _) _ = _
        rw [fa_or, q_nm, i_1, q_nm]
        exact i
theorem d_unA {n : Nat} (hn : 40000 ≤ n) {z : SX} {A : AA} (h : WF A) (hz : MZ z A) (hD : DZ z A) (a1 : Int32) : f_X7_awards n z a1 = f_X7_awards_e49 z a1 n (nI (unM A)) := by
  have w6 := h.2.1
  exact d_un1_l h hz hD n 0 (by omega) (by omega)
theorem d_unL {n : Nat} (hn : 40000 ≤ n) {z : SX} {A : AA} (h : WF A) (hz : MZ z A) (hD : DZ z A) (a1 : Int32) : f_X7_lastReleaseWithAward_l40 z n a1 n 0 0 = f_X7_lastReleaseWithAward_e85 z n a1 (nI (unM A)) := by
  have w6 := h.2.1
  exact d_un2_l h hz hD n 0 (by omega) (by omega)
theorem c_ckAw {n : Nat} {v : Int} (v1 : -2147483648 ≤ v) (v2 : v < 2147483648) : (1 ≤ v ∧ v ≤ 42 → f_X6_checkAwardDays n (iI v) = some 0) ∧ (¬ (1 ≤ v ∧ v ≤ 42) → f_X6_checkAwardDays n (iI v) = some 1) := by
  unfold f_X6_checkAwardDays
  rw [show (1 : Int32) = iI 1 from rfl, it_lt (by omega) (by omega) (by omega) (by omega), show (42 : Int32) = iI 42 from rfl, it_le (by omega) (by omega) (by omega) (by omega)]
  constructor
  · intro c
    rw [if_neg (by omega), if_pos (by omega)]
  · intro c
    by_cases c2 : v < 1
    · rw [if_pos c2]
    · rw [if_neg c2, if_neg (by omega)]
theorem st_in (A : AA) : 0 ≤ stA A ∧ stA A ≤ 2 ∧ (stA A = 2 ↔ (A 0 1 < roA A ∨ A 0 1 < rcE A)) ∧ (stA A = 1 ↔ (¬ (A 0 1 < roA A ∨ A 0 1 < rcE A) ∧ A 0 1 < eoA A)) := by
  unfold stA
  by_cases c : A 0 1 < roA A ∨ A 0 1 < rcE A
  · rw [if_pos c]
    exact ⟨by omega, by omega, ⟨fun _ => c, fun _ => rfl⟩, ⟨fun q => by omega, fun q => absurd c q.1⟩⟩
  · rw [if_neg c]
    by_cases c2 : A 0 1 < eoA A
    · rw [if_pos c2]
      exact ⟨by omega, by omega, ⟨fun q => by omega, fun q => absurd q c⟩, ⟨fun _ => ⟨c, c2⟩, fun _ => rfl⟩⟩
    · rw [if_neg c2]
      exact ⟨by omega, by omega, ⟨fun q => by omega, fun q => absurd q c⟩, ⟨fun q => by omega, fun q => absurd q.2 c2⟩⟩
