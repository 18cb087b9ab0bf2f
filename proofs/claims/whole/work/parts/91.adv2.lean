theorem c_within {n : Nat} {a b c : Int} (a1 : -2147483648 ≤ a) (a2 : a < 2147483648) (b1 : -2147483648 ≤ b) (b2 : b < 2147483648) (c1 : -2147483648 ≤ c) (c2 : c < 2147483648) : f_X6_within n (iI a) (iI b) (iI c) = some (iI (if c < (if b < a then a else b) then c else (if b < a then a else b))) := by
  unfold f_X6_within
  rw [it_lt b1 b2 a1 a2, i_ite]
  have h : -2147483648 ≤ (if b < a then a else b) ∧ (if b < a then a else b) < 2147483648 := by split <;> omega
  rw [it_lt c1 c2 h.1 h.2, i_ite]
theorem MX_adv {x x' : SX} {A B : AA} (hM : MX x A) (er : ∀ r, r ≠ 0 → x'.1 r = x.1 r) (hr : ∀ r, r ≠ 0 → r ≠ 12 → r ≠ 13 → B r = A r) (h0 : ∀ i, i ≠ 1 → i ≠ 4 → i ≠ 5 → B 0 i = A 0 i) (e8 : x'.1 0 8 = iI (B 0 1)) (e9 : x'.1 0 9 = iI (B 0 4)) (e10 : x'.1 0 10 = iI (B 0 5)) : MX x' B := by
  obtain ⟨m8, m9, m10, m17, m25, m33, m40, mR, mR0, r10, r11, r12, r13, r14, r15, r16, r30, r31, r32, r35, r36, r37⟩ := hM
  unfold MX
  rw [er 1 (by decide), er 2 (by decide), er 3 (by decide), er 4 (by decide), er 10 (by decide), er 11 (by decide), er 12 (by decide), er 13 (by decide), er 14 (by decide), er 15 (by decide), er 16 (by decide), er 30 (by decide), er 31 (by decide), er 32 (by decide), er 35 (by decide), er 36 (by decide), er 37 (by decide), h0 6 (by decide) (by decide) (by decide), h0 14 (by decide) (by decide) (by decide), h0 18 (by decide) (by decide) (by decide), h0 22 (by decide) (by decide) (by decide), h0 23 (by decide) (by decide) (by decide), h0 24 (by decide) (by decide) (by decide), h0 25 (by decide) (by decide) (by decide), hr 17 (by decide) (by decide) (by decide), hr 18 (by decide) (by decide) (by decide), hr 19 (by decide) (by decide) (by decide), hr 20 (by decide) (by decide) (by decide), hr 21 (by decide) (by decide) (by decide), hr 22 (by decide) (by decide) (by decide), hr 23 (by decide) (by decide) (by decide), hr 25 (by decide) (by decide) (by decide), hr 26 (by decide) (by decide) (by decide), hr 27 (by decide) (by decide) (by decide), hr 29 (by decide) (by decide) (by decide), hr 30 (by decide) (by decide) (by decide), hr 31 (by decide) (by decide) (by decide)]
  exact ⟨e8, e9, e10, m17, m25, m33, m40, mR, mR0, r10, r11, r12, r13, r14, r15, r16, r30, r31, r32, r35, r36, r37⟩
theorem cu_v {A : AA} (h : WF A) {v : Int} (hv : IsCu A v (roA A)) {n : Int} (hn : 0 ≤ n) : (if A 0 1 + n < (if v < A 0 1 then A 0 1 else v) then A 0 1 + n else (if v < A 0 1 then A 0 1 else v)) = cuZ A n := by
  obtain ⟨v1, v2, v3⟩ := hv
  obtain ⟨K, eK⟩ : ∃ K : Int, K = (if A 0 1 < roA A then (if roA A < rcE A then rcE A else roA A) else (if A 0 1 < rcE A then rcE A else A 0 1)) := ⟨_, rfl⟩
  have e : (if v < A 0 1 then A 0 1 else v) = K := by
    rw [eK]
    (repeat' split) <;> omega
  unfold cuZ
  rw [← eK, e]
theorem lu_v {A : AA} {n : Int} : (if A 0 1 + n < (if eoA A < cuZ A n then cuZ A n else eoA A) then A 0 1 + n else (if eoA A < cuZ A n then cuZ A n else eoA A)) = luZ A n := by
  have e : (if eoA A < cuZ A n then cuZ A n else eoA A) = (if cuZ A n < eoA A then eoA A else cuZ A n) := by split <;> split <;> omega
  rw [e]
  rfl
theorem stD_cu {A : AA} {n d : Int} (hn : 0 ≤ n) (h1 : A 0 1 ≤ d) (h2 : d < A 0 1 + n) : (stD A d = 2 ↔ d < cuZ A n) ∧ (stD A d = 1 ↔ (cuZ A n ≤ d ∧ d < luZ A n)) := by
  obtain ⟨K, eK⟩ : ∃ K : Int, K = (if A 0 1 < roA A then (if roA A < rcE A then rcE A else roA A) else (if A 0 1 < rcE A then rcE A else A 0 1)) := ⟨_, rfl⟩
  have hK : A 0 1 ≤ K ∧ (∀ d : Int, A 0 1 ≤ d → ((d < roA A ∨ d < rcE A) ↔ d < K)) := by
    rw [eK]
    refine ⟨by (repeat' split) <;> omega, fun d hd => ?_⟩
    (repeat' split) <;> omega
  have es : stD A d = if d < K then 2 else if d < eoA A then 1 else 0 := by
    unfold stD
    by_cases c : d < K
    · rw [if_pos c, if_pos ((hK.2 _ (by omega)).mpr c)]
    · rw [if_neg c, if_neg (fun q => c ((hK.2 _ (by omega)).mp q))]
  have e1 : cuZ A n = if A 0 1 + n < K then A 0 1 + n else K := by
    unfold cuZ
    rw [← eK]
  have e2 : luZ A n = if A 0 1 + n < (if cuZ A n < eoA A then eoA A else cuZ A n) then A 0 1 + n else (if cuZ A n < eoA A then eoA A else cuZ A n) := rfl
  have hk := hK.1
  rw [es, e2]
  have e3 : d < cuZ A n ↔ d < K := by rw [e1]; split <;> omega
  have e4 : cuZ A n ≤ A 0 1 + n := by rw [e1]; split <;> omega
  by_cases c : d < K
  · rw [if_pos c]
    have := e3.mpr c
    refine ⟨⟨fun _ => this, fun _ => rfl⟩, ⟨fun q => by omega, fun q => by omega⟩⟩
  · rw [if_neg c]
    have : ¬ d < cuZ A n := fun q => c (e3.mp q)
    by_cases c2 : d < eoA A
    · rw [if_pos c2]
      refine ⟨⟨fun q => by omega, fun q => by omega⟩, ⟨fun _ => ?_, fun _ => rfl⟩⟩
      (repeat' split) <;> omega
    · rw [if_neg c2]
      refine ⟨⟨fun q => by omega, fun q => by omega⟩, ⟨fun q => by omega, fun q => ?_⟩⟩
      revert q
      (repeat' split) <;> omega
theorem sp_advance : SP_advance Rel := by
  intro x t k z a hR
  have hR' := hR
  obtain ⟨A, h, hM, hD, hW, hz, hDz, hT⟩ := hR
  have w1 := h.1
  have hro := ro_in h
  have hrc := rc_in h
  have heo := eo_in h
  obtain ⟨v, v1, v2, rfl⟩ := i_of a
  have g := d_in_ (n := 40000) (a := v) (b := 1) (c := 400) v1 v2 (by omega) (by omega) (by omega) (by omega)
  by_cases c : 1 ≤ v ∧ v ≤ 400
  · by_cases c2 : A 0 1 + v ≤ 14609
    · obtain ⟨n, rfl⟩ := Int.eq_ofNat_of_zero_le (show 0 ≤ v by omega)
      obtain ⟨i1, i2, i3, i4, i5, i6, i7⟩ := adv_f h n c2
      obtain ⟨u, e2, hu⟩ := c_custodyEnd (Nat.le_refl 40000) h hM hD
      have hu1 := hu.1
      have hu2 := hu.2.1
      have hcs := cu_s A (j := n) (by omega)
      obtain ⟨C, eC⟩ : ∃ C : Int, C = cuZ A n := ⟨_, rfl⟩
      obtain ⟨L, eL⟩ : ∃ L : Int, L = luZ A n := ⟨_, rfl⟩
      obtain ⟨y1, p1, p2, p3, p4⟩ := mark_5 (Nat.le_refl 40000) (a := A 0 1) (b := C - 1) (by omega) (by omega) (by omega) (by omega) x
      obtain ⟨y2, q1, q2, q3, q4⟩ := mark_6 (Nat.le_refl 40000) (a := C) (b := L - 1) (by omega) (by omega) (by omega) (by omega) y1
      have er : ∀ r j, y2.1 r j = x.1 r j := fun r j => by rw [q2, p2]
      obtain ⟨x', ex⟩ : ∃ x' : SX, x' = si (si (si y2 0 9 (iI (advA A n 0 4))) 0 10 (iI (advA A n 0 5))) 0 8 (iI (A 0 1 + n)) := ⟨_, rfl⟩
      have hxr : ∀ r, r ≠ 0 → x'.1 r = x.1 r := fun r hr => by rw [ex, sg_r hr, sg_r hr, sg_r hr, q2, p2]
      have hMX : MX x' (advA A n) := MX_adv hM hxr i3 i4 (by rw [ex, sg_s, i2]) (by rw [ex, sg_k (by decide), sg_k (by decide), sg_s]) (by rw [ex, sg_k (by decide), sg_s])
      have d1 : ER1 A (advA A n) := ⟨i3 17 (by decide) (by decide) (by decide), i3 18 (by decide) (by decide) (by decide), i3 19 (by decide) (by decide) (by decide), i3 21 (by decide) (by decide) (by decide), i3 22 (by decide) (by decide) (by decide), i3 23 (by decide) (by decide) (by decide), i4 6 (by decide) (by decide) (by decide)⟩
      have d2 : ER2 A (advA A n) := ⟨i4 14 (by decide) (by decide) (by decide), i3 25 (by decide) (by decide) (by decide), i3 26 (by decide) (by decide) (by decide), i3 27 (by decide) (by decide) (by decide), fun d hd => by rw [i5, if_neg (by omega)]⟩
      have d3 : ER3 A (advA A n) := ⟨i4 18 (by decide) (by decide) (by decide), i3 29 (by decide) (by decide) (by decide), i3 30 (by decide) (by decide) (by decide)⟩
      have hDX : DX x' (advA A n) := DX_c h d1 d2 (by
        unfold DX at hD ⊢
        rw [hxr 18 (by decide), hxr 19 (by decide), hxr 20 (by decide), hxr 21 (by decide), hxr 22 (by decide), hxr 23 (by decide), hxr 24 (by decide)]
        exact hD)
      have hWX : WX x' (advA A n) := by
        intro d hd
        have hwd := hW d hd
        have e3 : x'.2 = y2.2 := by rw [ex]; rfl
        rw [e3, q3 40 (by decide), p4 d hd, q4 d hd, p3 41 (by decide), hwd.1, hwd.2, i5]
        have hp := (h.pa d).2
        by_cases c3 : A 0 1 ≤ d ∧ (d : Int) < A 0 1 + n
        · obtain ⟨s1, s2⟩ := stD_cu (A := A) (n := n) (d := d) (by omega) c3.1 c3.2
          rw [if_pos c3, hp c3.1]
          refine ⟨?_, ?_⟩
          · rw [Bool.eq_iff_iff]
            simp only [Bool.or_eq_true, decide_eq_true_eq]
            rw [s1]
            omega
          · rw [Bool.eq_iff_iff]
            simp only [Bool.or_eq_true, decide_eq_true_eq]
            rw [s2]
            omega
        · rw [if_neg c3]
          refine ⟨?_, ?_⟩
          · rw [decide_eq_false (p := A 0 1 ≤ (d : Int) ∧ (d : Int) ≤ C - 1) (by omega), Bool.or_false]
          · rw [decide_eq_false (p := C ≤ (d : Int) ∧ (d : Int) ≤ L - 1) (by omega), Bool.or_false]
      have hz0 : MZ (si z 0 0 0) (aU (advA A 0) 0 4 (A 0 4)) := by
        have := MZ_put (MZ_scr (v := 0) hz (r := 0) (k := 0) rfl) (r := 0) (k := 4) (v := A 0 4)
        intro r j hj
        have h1 := (MZ_scr (v := 0) hz (r := 0) (k := 0) rfl) r j hj
        rw [h1]
        show iI (A r j) = iI (aU A 0 4 (A 0 4) r j)
        rw [aU_ap]
        by_cases q : r = 0 ∧ j = 4
        · rw [if_pos q, q.1, q.2]
        · rw [if_neg q]
      obtain ⟨z', k1, k2, k3, k4⟩ := d_adv_l h c2 40000 0 (si z 0 0 0) hz0 (Nat.zero_le _) (by omega)
      have hDZ : DZ z' (advA A n) := DZ_c h d1 d2 d3 (by
        intro t h1 h2
        have := hDz t h1 h2
        rw [k3 40 t (by decide) (by decide) (by decide), k3 41 t (by decide) (by decide) (by decide), k3 42 t (by decide) (by decide) (by decide), k3 43 t (by decide) (by decide) (by decide), k3 44 t (by decide) (by decide) (by decide), k3 45 t (by decide) (by decide) (by decide), k3 46 t (by decide) (by decide) (by decide), k3 47 t (by decide) (by decide) (by decide), k3 48 t (by decide) (by decide) (by decide), k3 49 t (by decide) (by decide) (by decide)]
        simp (disch := decide) only [sg_r]
        exact this)
      have htd := h.td
      refine ⟨40000, x', 0, iI (C - A 0 1), 0, 40000, iI (C - A 0 1), z', ?_, Or.inl ⟨rfl, rfl⟩, ?_, by rw [k4, sg_s], fun _ => rfl, ⟨advA A n, i1, hMX, hDX, hWX, k2, hDZ, HT_c (i4 26 (by decide) (by decide) (by decide)) (fun d hd => by rw [i5, if_neg (by omega)]) hT⟩⟩
      · unfold f_X6_advance
        rw [show (1 : Int32) = iI 1 from rfl, it_lt (by omega) (by omega) (by omega) (by omega), if_neg (by omega), show (400 : Int32) = iI 400 from rfl, it_le (by omega) (by omega) (by omega) (by omega), if_pos c.2, hM.1, i_add, show (14609 : Int32) = iI 14609 from rfl, it_le (by omega) (by omega) (by omega) (by omega), if_pos c2, q_nm, e2, q_some, c_within (by omega) (by omega) (by omega) (by omega) (by omega) (by omega), cu_v h hu (by omega), ← eC, q_some, c_ge (Nat.le_refl _) h hM hD, q_some, c_within (by omega) (by omega) (by omega) (by omega) (by omega) (by omega), eC, lu_v, ← eC, ← eL, q_some, i_sub, p1, q_some, i_sub, q1, q_some, er, hM.1, i_sub, q_nm, er, hM.2.1, i_add, q_nm, sg_k (by decide), er, hM.2.2.1, i_sub, i_add, q_nm, q_nm, ex, i6, i7, ← eC, ← eL]
      · unfold f_X7_advance
        have hzz : MZ (si z 0 0 0) A := MZ_scr hz rfl
        have hdd : DZ (si z 0 0 0) A := DZ_scr hDz (by omega)
        rw [show (1 : Int32) = iI 1 from rfl, show (400 : Int32) = iI 400 from rfl, g.1 c, q_some, if_neg (by decide), hz 0 1 rfl, i_add, show (14609 : Int32) = iI 14609 from rfl, it_le (by omega) (by omega) (by omega) (by omega), if_pos c2, q_some, d_fails0, q_some2, if_pos rfl, d_ro (Nat.le_refl _) h hzz hdd, q_some, d_rc (Nat.le_refl _) h hzz, q_some, d_eo (Nat.le_refl _) h hzz hdd, q_some]
        rw [show cuZ A ((0 : Nat) : Int) = A 0 1 from (cu_0 A).1, show A 0 1 - A 0 1 = 0 by omega, ← eC] at k1
        exact k1
    · refine ⟨40000, x, 2, 0, 2, 40000, 0, si z 0 0 2, ?_, Or.inr (Or.inr ⟨rfl, rfl⟩), ?_, sg_s, fun q => absurd q (by decide), hR'.th 2⟩
      · unfold f_X6_advance
        rw [show (1 : Int32) = iI 1 from rfl, it_lt (by omega) (by omega) (by omega) (by omega), if_neg (by omega), show (400 : Int32) = iI 400 from rfl, it_le (by omega) (by omega) (by omega) (by omega), if_pos c.2, hM.1, i_add, show (14609 : Int32) = iI 14609 from rfl, it_le (by omega) (by omega) (by omega) (by omega), if_neg c2]
      · unfold f_X7_advance
        rw [show (1 : Int32) = iI 1 from rfl, show (400 : Int32) = iI 400 from rfl, g.1 c, q_some, if_neg (by decide), hz 0 1 rfl, i_add, show (14609 : Int32) = iI 14609 from rfl, it_le (by omega) (by omega) (by omega) (by omega), if_neg c2]
        rfl
  · refine ⟨40000, x, 1, 0, 1, 40000, 0, si z 0 0 1, ?_, Or.inr (Or.inl ⟨rfl, rfl⟩), ?_, sg_s, fun q => absurd q (by decide), hR'.th 1⟩
    · unfold f_X6_advance
      rw [show (1 : Int32) = iI 1 from rfl, it_lt (by omega) (by omega) (by omega) (by omega), show (400 : Int32) = iI 400 from rfl, it_le (by omega) (by omega) (by omega) (by omega)]
      by_cases c3 : v < 1
      · rw [if_pos c3]
      · rw [if_neg c3, if_neg (by omega)]
    · unfold f_X7_advance
      rw [show (1 : Int32) = iI 1 from rfl, show (400 : Int32) = iI 400 from rfl, g.2 c]
      rfl
