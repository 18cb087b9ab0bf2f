/-! ===== writeHistory, outputAt ===== -/
theorem sp_writeHistory : SP_writeHistory Rel := by
  intro x t k z hR
  obtain ⟨A, h, hM, hD, hW, hz, hDz, hT⟩ := hR
  have w1 := h.1
  obtain ⟨D, hDD⟩ : ∃ D : Nat, (D : Int) = A 0 1 := ⟨(A 0 1).toNat, by omega⟩
  obtain ⟨B, eB⟩ : ∃ B : AA, B = aU A 0 26 (A 0 1) := ⟨_, rfl⟩
  have hr : ∀ r, r ≠ 0 → B r = A r := fun r h0 => by rw [eB, aU_r h0]
  have h0 : ∀ j, j ≠ 26 → B 0 j = A 0 j := fun j hj => by rw [eB, aU_k hj]
  have h26 : B 0 26 = A 0 1 := by rw [eB, aU_s]
  have hWF : WF B := by
    unfold WF at h ⊢
    rw [h0 1 (by decide), h0 4 (by decide), h0 5 (by decide), h0 6 (by decide), h0 14 (by decide), h0 18 (by decide), h0 22 (by decide), h0 23 (by decide), h0 24 (by decide), h0 25 (by decide), h26, hr 12 (by decide), hr 13 (by decide), hr 17 (by decide), hr 18 (by decide), hr 19 (by decide), hr 20 (by decide), hr 21 (by decide), hr 22 (by decide), hr 23 (by decide), hr 25 (by decide), hr 26 (by decide), hr 27 (by decide), hr 29 (by decide), hr 30 (by decide), hr 31 (by decide)]
    obtain ⟨h1, h2, h3, h4, h5, h6, h7, h8, h9, h10, h11, h12, h13, h14, h15, h16⟩ := h
    exact ⟨h1, h2, h3, h4, h5, h6, h7, h8, h9, h10, h11, h12, h13, h14, h15, by omega⟩
  have hMX : MX x B := by
    unfold MX at hM ⊢
    rw [h0 1 (by decide), h0 4 (by decide), h0 5 (by decide), h0 6 (by decide), h0 14 (by decide), h0 18 (by decide), h0 22 (by decide), h0 23 (by decide), h0 24 (by decide), h0 25 (by decide), hr 17 (by decide), hr 18 (by decide), hr 19 (by decide), hr 20 (by decide), hr 21 (by decide), hr 22 (by decide), hr 23 (by decide), hr 25 (by decide), hr 26 (by decide), hr 27 (by decide), hr 29 (by decide), hr 30 (by decide), hr 31 (by decide)]
    exact hM
  have d1 : ER1 A B := ⟨hr 17 (by decide), hr 18 (by decide), hr 19 (by decide), hr 21 (by decide), hr 22 (by decide), hr 23 (by decide), h0 6 (by decide)⟩
  have d2 : ER2 A B := ⟨h0 14 (by decide), hr 25 (by decide), hr 26 (by decide), hr 27 (by decide), fun d _ => by rw [hr 12 (by decide)]⟩
  have d3 : ER3 A B := ⟨h0 18 (by decide), hr 29 (by decide), hr 30 (by decide)⟩
  have hz0 : MZ (si z 0 0 0) A := MZ_scr hz rfl
  have hzB : MZ (si (si z 0 0 0) 0 26 (iI (A 0 1))) B := by rw [eB]; exact MZ_put hz0
  have es := size_f (Nat.le_refl 40000) hzB (D := D) (ps := fun d => iI (A 12 d)) (by rw [h26]; exact hDD) (by omega) (fun j _ => by rw [hr 12 (by decide)])
  refine ⟨40000, D, fun d => iI (A 12 d), 40000, iI (hsK (fun d => iI (A 12 d)) D : Nat), si (si z 0 0 0) 0 26 (iI (A 0 1)), ?_, by omega, fun j hj => ?_, ?_, ?_, ⟨B, hWF, hMX, DX_c h d1 d2 hD, ?_, hzB, DZ_c h d1 d2 d3 (DZ_scr (DZ_scr hDz (by omega)) (by omega)), ⟨fun d => iI (A 12 d), D, by rw [h26]; exact hDD, fun j _ => by rw [hr 12 (by decide)], rfl, rfl⟩⟩⟩
  · rw [hM.1, ← hDD, i_N]
  · rw [← i_N]
    exact pastS h hW (by omega)
  · unfold f_X7_writeHistory
    rw [q_nm, hz0 0 1 rfl, q_nm, es, q_some]
  · rw [i_N]
  · unfold WX at hW ⊢
    rw [hr 12 (by decide)]
    exact hW
theorem sp_outputAt : SP_outputAt Rel := by
  intro x t k z a hR
  have hR' := hR
  obtain ⟨A, h, hM, hD, hW, hz, hDz, ⟨ps, D, hDD, hps, rfl, rfl⟩⟩ := hR
  have w1 := h.1
  have htd := h.td
  have hk := hsK_le (ps := ps) (D := D)
  obtain ⟨v, v1, v2, rfl⟩ := i_of a
  have es := size_f (Nat.le_refl 40000) hz hDD (by omega) hps
  have g := d_in_ (n := 40000) (a := v) (b := 0) (c := (hsK ps D : Nat) - 1) v1 v2 (by omega) (by omega) (by omega) (by omega)
  have el : (iI v < nI (hsK ps D)) = (v < (hsK ps D : Nat)) := by rw [← i_N]; exact i_lt v1 v2 (by omega) (by omega)
  have el0 : ((0 : Int32) ≤ iI v) = (0 ≤ v) := by rw [i_0]; exact i_le (by omega) (by omega) v1 v2
  rw [el, el0]
  by_cases c : 0 ≤ v ∧ v < (hsK ps D : Nat)
  · obtain ⟨ix, rfl⟩ := Int.eq_ofNat_of_zero_le c.1
    have hix : ix < hsK ps D := by omega
    have hD0 : 0 < D := by
      refine Nat.pos_of_ne_zero fun q => ?_
      subst q
      exact Nat.not_lt_zero ix hix
    have hz0 : MZ (si z 0 0 0) A := MZ_scr hz rfl
    obtain ⟨L, r1, hL⟩ := run_f (Nat.le_refl 40000) hz0 hDD (by omega) hps hD0
    have eo := out_l (Nat.le_refl 40000) hz0 hDD (by omega) hps hix 40000 0 L _ 0 hD0 (by omega) (RS_0 ps) hL (Nat.zero_le _)
    refine ⟨40000, nI (hsT ps D ix), si z 0 0 0, 0, nI (hsT ps D ix), 0, Or.inl ⟨c, rfl, ?_⟩, Or.inl ⟨rfl, rfl⟩, ?_, sg_s, fun _ => rfl, hR'.th 0⟩
    · rw [i_clN (by omega)]
    · unfold f_X7_outputAt
      rw [es, q_some, show iI (hsK ps D : Nat) - 1 = iI ((hsK ps D : Nat) - 1) from i_sub _ 1, show f_X7_in 40000 (iI (ix : Int)) 0 (iI ((hsK ps D : Nat) - 1)) = some 1 from g.1 (by omega), q_some, if_neg (by decide), q_some, d_fails0, q_some2, if_pos rfl, show f_X7_runFrom 40000 (si z 0 0 0) 0 = some (iI L) from r1, q_some]
      exact eo
  · refine ⟨40000, 0, si z 0 0 1, 3, 0, 1, Or.inr ⟨c, rfl, rfl⟩, Or.inr ⟨rfl, rfl⟩, ?_, sg_s, fun q => absurd q (by decide), hR'.th 1⟩
    unfold f_X7_outputAt
    rw [es, q_some, show iI (hsK ps D : Nat) - 1 = iI ((hsK ps D : Nat) - 1) from i_sub _ 1, show f_X7_in 40000 (iI v) 0 (iI ((hsK ps D : Nat) - 1)) = some 0 from g.2 (by omega)]
    rfl
/-! ===== a new object ===== -/
theorem ct_f : ∀ n, fb_ct (fun _ => false) n = 0 := fun n => fb_ct_zero.mpr fun _ _ => rfl
theorem rel0 : Rel x0 (fun _ => 0) 0 xm0 := by
  refine ⟨fun _ _ => 0, ?_, ?_, ?_, ?_, ?_, ?_, ?_⟩
  · unfold WF
    refine ⟨by decide, by decide, by decide, by decide, by decide, fun t ht => ?_, fun _ _ => rfl, fun k hk => ?_, fun k hk => ?_, fun q => ?_, fun d => ⟨Or.inl rfl, fun _ => rfl⟩, rfl, fun d hd => ?_, rfl, rfl, by decide⟩
    · exact absurd (show (t : Int) < 0 from ht) (by omega)
    · exact absurd (show (k : Int) < 0 from hk) (by omega)
    · exact absurd (show (k : Int) < 0 from hk) (by omega)
    · exact absurd (show (0 : Int) < 0 from q) (by omega)
    · exact absurd (show (d : Int) < 0 from hd) (by omega)
  · unfold MX x0
    refine ⟨rfl, rfl, rfl, rfl, rfl, rfl, rfl, fun q => absurd q (by decide), fun _ => rfl, fun _ => rfl, fun _ => rfl, fun _ => rfl, fun _ => rfl, fun _ => rfl, fun t ht _ _ => ?_, fun _ => rfl, fun _ => rfl, fun _ => rfl, fun _ => rfl, fun _ => rfl, fun _ => rfl, fun _ => rfl⟩
    exact absurd (show (t : Int) < 0 from ht) (by omega)
  · intro t ht
    exact absurd (show (t : Int) < 0 from ht) (by omega)
  · intro d _
    unfold x0 lbit
    have e : ∀ j, (0 : Int64).toBitVec.getLsbD j = false := fun j => BitVec.getLsbD_zero
    exact ⟨(e _).trans rfl, (e _).trans rfl⟩
  · intro r k _
    rfl
  · intro t ht
    exact absurd (show (t : Int) < 0 from ht) (by omega)
  · exact ⟨fun _ => 0, 0, rfl, fun j hj => absurd hj (Nat.not_lt_zero j), rfl, rfl⟩
theorem spall : SPall Rel := ⟨sp_dayNumber, sp_dayNumberByMonths, sp_yearOf, sp_monthOf, sp_dayOfMonth, sp_monthsAfter, sp_today, sp_advance, sp_impose, sp_imposeConsecutive, sp_addRemand, sp_quash, sp_award, sp_giveBack, sp_recall, sp_termCount, sp_kindOf, sp_isQuashed, sp_parentOf, sp_chainLength, sp_descendants, sp_start, sp_length, sp_totalLength, sp_custodialPart, sp_credit, sp_creditByMerging, sp_addedDays, sp_releaseDay, sp_releaseDayByServing, sp_endDay, sp_status, sp_lastRelease, sp_lastEnd, sp_decidingTerm, sp_termByRelease, sp_daysInCustodyLeft, sp_recallCount, sp_recallEnd, sp_awardDays, sp_concerns, sp_lastReleaseWithAward, sp_lastReleaseWithout, sp_servedDays, sp_licenceDays, sp_statusOn, sp_writeHistory, sp_outputAt, sp_isConsistent⟩
