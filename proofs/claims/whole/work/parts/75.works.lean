/-! ===== the model's works ===== -/
noncomputable def sv (A : AA) (t : Nat) : Nat → Int
  | 40 => stZ A t
  | 41 => lnZ A t
  | 42 => ptZ A t
  | 43 => fsZ A t
  | 44 => alZ A t
  | 45 => apZ A t
  | 46 => cdZ A t
  | 47 => adZ A t
  | 48 => rlZ A t
  | 49 => enZ A t
  | _ => 0
def WK (r k : Nat) : Prop := (r = 0 ∧ (k < 27 ∨ 29 < k)) ∨ (r ≠ 0 ∧ (r < 40 ∨ 49 < r))
def WT (z x : SX) (A : AA) (t j : Nat) : Prop := ∀ r k, ¬ (r = 0 ∧ 27 ≤ k ∧ k ≤ 29) → x.1 r k = if 40 ≤ r ∧ r < 40 + j ∧ k = t then iI (sv A t r) else z.1 r k
theorem WT_0 {z : SX} {A : AA} {t : Nat} : WT z z A t 0 := fun r k _ => by rw [if_neg (by omega)]
theorem WT_s {z x : SX} {A : AA} {t j : Nat} (h : WT z x A t j) : WT z (si x (40 + j) t (iI (sv A t (40 + j)))) A t (j + 1) := fun r k hr => by
  rw [si_ap]
  by_cases c : r = 40 + j ∧ k = t
  · rw [if_pos c, if_pos (by omega), c.1]
  · rw [if_neg c, h r k hr]
    by_cases c2 : 40 ≤ r ∧ r < 40 + j ∧ k = t
    · rw [if_pos c2, if_pos (by omega)]
    · rw [if_neg c2, if_neg (by omega)]
theorem sp3_n {x : SX} {y m dd : Int} {r k : Nat} (h : ¬ (r = 0 ∧ 27 ≤ k ∧ k ≤ 29)) : (sp3 x y m dd).1 r k = x.1 r k := by
  unfold sp3
  rw [si_ap, si_ap, si_ap, if_neg (by omega), if_neg (by omega), if_neg (by omega)]
theorem WT_p {z x : SX} {A : AA} {t j : Nat} {y m dd : Int} (h : WT z x A t j) : WT z (sp3 x y m dd) A t j := fun r k hr => by rw [sp3_n hr]; exact h r k hr
theorem WT.at {z x : SX} {A : AA} {t j : Nat} (h : WT z x A t j) (r : Nat) (h1 : 40 ≤ r) (h2 : r < 40 + j) : x.1 r t = iI (sv A t r) := by rw [h r t (by omega), if_pos ⟨h1, h2, rfl⟩]
theorem WT.ot {z x : SX} {A : AA} {t j : Nat} (h : WT z x A t j) (r p : Nat) (h1 : 40 ≤ r) (hp : p ≠ t) : x.1 r p = z.1 r p := by rw [h r p (by omega), if_neg (by omega)]
theorem okb_0 : ∀ k, 27 ≤ k ∧ k ≤ 29 → okb 0 k = false := by
  intro k hk
  have : k = 27 ∨ k = 28 ∨ k = 29 := by omega
  rcases this with rfl | rfl | rfl <;> rfl
theorem okb_40 : ∀ r k, 40 ≤ r ∧ r ≤ 49 → okb r k = false := by
  intro r k hr
  have : r = 40 ∨ r = 41 ∨ r = 42 ∨ r = 43 ∨ r = 44 ∨ r = 45 ∨ r = 46 ∨ r = 47 ∨ r = 48 ∨ r = 49 := by omega
  rcases this with rfl | rfl | rfl | rfl | rfl | rfl | rfl | rfl | rfl | rfl <;> rfl
theorem MZ_k {z x : SX} {A : AA} (hz : MZ z A) (e : ∀ r k, WK r k → x.1 r k = z.1 r k) : MZ x A := fun r k hk => by
  rw [e r k, hz r k hk]
  unfold WK
  by_cases c : r = 0
  · refine Or.inl ⟨c, ?_⟩
    refine Classical.byContradiction fun q => ?_
    subst c
    rw [okb_0 k (by omega)] at hk
    cases hk
  · refine Or.inr ⟨c, ?_⟩
    refine Classical.byContradiction fun q => ?_
    rw [okb_40 r k (by omega)] at hk
    cases hk
theorem WT.mz {z x : SX} {A : AA} {t j : Nat} (h : WT z x A t j) (hj : j ≤ 10) (hz : MZ z A) : MZ x A := MZ_k hz fun r k hk => by
  unfold WK at hk
  rw [h r k (by omega), if_neg (by omega)]
def DZt (z : SX) (A : AA) (t : Nat) : Prop := z.1 40 t = iI (stZ A t) ∧ z.1 41 t = iI (lnZ A t) ∧ z.1 42 t = iI (ptZ A t) ∧ z.1 43 t = iI (fsZ A t) ∧ z.1 44 t = iI (alZ A t) ∧ z.1 45 t = iI (apZ A t) ∧ z.1 46 t = iI (cdZ A t) ∧ z.1 47 t = iI (adZ A t) ∧ z.1 48 t = iI (rlZ A t) ∧ z.1 49 t = iI (enZ A t)
theorem d_part (n : Nat) {kd ln : Int} (h1 : 0 ≤ kd) (h2 : kd ≤ 3) (h3 : 0 ≤ ln) (h4 : ln < 1000000) : f_X7_partOf n (iI kd) (iI ln) = some (iI (paZ kd ln)) := by
  unfold f_X7_partOf paZ
  simp (disch := omega) only [i_lit, i_eq, i_add, i_mul, i_div, i_lt, i_le, i_ite, q_nm, q_ite, q_ites, q_some]
theorem pk_v3 {α : Type} {P : Int} (X : Option α) (w : α) : (if (if P = -1 then (1 : Int32) else 0) = 0 then X else some w) = if P = -1 then some w else X := by
  by_cases c : P = -1
  · rw [if_pos c, if_pos c, if_neg (by decide)]
  · rw [if_neg c, if_neg c, if_pos rfl]
theorem workT {n : Nat} (hn : 40000 ≤ n) {z : SX} {A : AA} (h : WF A) (hz : MZ z A) {t : Nat} (ht : (t : Int) < A 0 6) (hp : 0 ≤ A 22 t → DZt z A (A 22 t).toNat) : ∃ z' : SX, f_X7_worksTerm n z (iI t) = some z' ∧ WT z z' A t 10 := by
  have w6 := h.2.1
  obtain ⟨w1, w2, w3, w4, w5, wp, -⟩ := h.te t ht
  obtain ⟨s1, s2, s3, s4⟩ := h.st t ht
  have ha := h.al t ht
  have hfs := h.fs t ht
  have hcd := cd_in h t ht
  have hadr : 0 ≤ adZ A t ∧ adZ A t ≤ 336 := ad_in h _
  have e1 := h.st_eq ht
  have e2 := h.fs_eq ht
  have e3 := h.al_eq ht
  have e4 := h.ap_eq ht
  have el : lnZ A t = latZ (stZ A t) (A 18 t) - stZ A t + A 19 t := rfl
  have ept : ptZ A t = paZ (A 17 t) (lnZ A t) := rfl
  have hpt := pa_in (kd := A 17 t) s3
  rw [← ept] at hpt
  have hcr : crM A (chM A t) ≤ 14656 := fb_ct_le _ _
  have hmx : 0 ≤ mxZ A t ∧ mxZ A t ≤ 30000 := by unfold mxZ; split <;> omega
  have hne : A 22 t ≠ -1 → (A 22 t).toNat ≠ t := by omega
  unfold f_X7_worksTerm
  rw [i_gd (by omega) (by omega) (by decide), i_clN (by omega), q_nm, hz 22 t rfl, show (-1 : Int32) = iI (-1) from rfl, it_eq (by omega) (by omega) (by omega) (by omega), q_ite]
  rw [pk_v3]
  have s40 : (if A 22 t = -1 then some (z.1 21 t) else qgd (qin (iI (A 22 t)) 10) (some (z.1 40 (iI (A 22 t)).toNatClampNeg + z.1 41 (iI (A 22 t)).toNatClampNeg))) = some (iI (sv A t 40)) := by
    show _ = some (iI (stZ A t))
    rw [e1]
    by_cases c : A 22 t = -1
    · rw [if_pos c, if_pos c, hz 21 t rfl]
    · obtain ⟨p1, p2, p3, p4, p5, p6, -⟩ := hp (by omega)
      rw [if_neg c, if_neg c, i_gd (by omega) (by omega) (by decide), i_cl (by omega) (by omega), p1, p2, i_add]
  rw [s40, q_some, q_nm]
  have hx7 := WT_s (WT_0 (z := z) (A := A) (t := t))
  generalize e7 : si z 40 t (iI (sv A t 40)) = x7
  replace hx7 : WT z x7 A t 1 := by rw [← e7]; exact hx7
  have hm7 := hx7.mz (by omega) hz
  rw [show x7.1 40 t = iI (stZ A t) from hx7.at 40 (by omega) (by omega), hm7 18 t rfl, d_lat hn x7 s1 (by omega) w2.1 w2.2, q_some2]
  generalize e9 : sp3 x7 (yZ (stZ A t)) (mdZ (stZ A t)).1 (mdZ (stZ A t)).2 = x9
  have hx9 : WT z x9 A t 1 := by rw [← e9]; exact WT_p hx7
  have hm9 := hx9.mz (by omega) hz
  rw [show x9.1 40 t = iI (stZ A t) from hx9.at 40 (by omega) (by omega), hm9 19 t rfl, i_sub, i_add, ← el, q_nm]
  generalize e11 : si x9 41 t (iI (lnZ A t)) = x11
  have hx11 : WT z x11 A t 2 := by rw [← e11]; exact WT_s hx9
  have hm11 := hx11.mz (by omega) hz
  rw [hm11 17 t rfl, show x11.1 41 t = iI (lnZ A t) from hx11.at 41 (by omega) (by omega), d_part n w1.1 w1.2 s3 (by omega), ← ept, q_some, q_nm]
  generalize e14 : si x11 42 t (iI (ptZ A t)) = x14
  have hx14 : WT z x14 A t 3 := by rw [← e14]; exact WT_s hx11
  have hm14 := hx14.mz (by omega) hz
  have s43 : (if A 22 t = -1 then some (x14.1 40 t) else qgd (qin (iI (A 22 t)) 10) (some (x14.1 43 (iI (A 22 t)).toNatClampNeg))) = some (iI (fsZ A t)) := by
    rw [e2]
    by_cases c : A 22 t = -1
    · rw [if_pos c, if_pos c, show x14.1 40 t = iI (stZ A t) from hx14.at 40 (by omega) (by omega), e1, if_pos c]
    · obtain ⟨p1, p2, p3, p4, p5, p6, -⟩ := hp (by omega)
      rw [if_neg c, if_neg c, i_gd (by omega) (by omega) (by decide), i_cl (by omega) (by omega), hx14.ot 43 _ (by omega) (hne c), p4]
  rw [pk_v3, s43, q_some, q_nm]
  generalize e17 : si x14 43 t (iI (fsZ A t)) = x17
  have hx17 : WT z x17 A t 4 := by rw [← e17]; exact WT_s hx14
  have s44 : (if A 22 t = -1 then some (0 : Int32) else qgd (qin (iI (A 22 t)) 10) (some (x17.1 44 (iI (A 22 t)).toNatClampNeg))) = some (iI (if A 22 t = -1 then 0 else alZ A (A 22 t).toNat)) := by
    by_cases c : A 22 t = -1
    · rw [if_pos c, if_pos c]; rfl
    · obtain ⟨p1, p2, p3, p4, p5, p6, -⟩ := hp (by omega)
      rw [if_neg c, if_neg c, i_gd (by omega) (by omega) (by decide), i_cl (by omega) (by omega), hx17.ot 44 _ (by omega) (hne c), p5]
  rw [pk_v3, s44, q_some, show x17.1 41 t = iI (lnZ A t) from hx17.at 41 (by omega) (by omega), i_add, ← e3, q_nm]
  generalize e20 : si x17 44 t (iI (alZ A t)) = x20
  have hx20 : WT z x20 A t 5 := by rw [← e20]; exact WT_s hx17
  have s45 : (if A 22 t = -1 then some (0 : Int32) else qgd (qin (iI (A 22 t)) 10) (some (x20.1 45 (iI (A 22 t)).toNatClampNeg))) = some (iI (if A 22 t = -1 then 0 else apZ A (A 22 t).toNat)) := by
    by_cases c : A 22 t = -1
    · rw [if_pos c, if_pos c]; rfl
    · obtain ⟨p1, p2, p3, p4, p5, p6, -⟩ := hp (by omega)
      rw [if_neg c, if_neg c, i_gd (by omega) (by omega) (by decide), i_cl (by omega) (by omega), hx20.ot 45 _ (by omega) (hne c), p6]
  rw [pk_v3, s45, q_some, show x20.1 42 t = iI (ptZ A t) from hx20.at 42 (by omega) (by omega), i_add, ← e4, q_nm]
  generalize e23 : si x20 45 t (iI (apZ A t)) = x23
  have hx23 : WT z x23 A t 6 := by rw [← e23]; exact WT_s hx20
  have hm23 := hx23.mz (by omega) hz
  rw [rem hn h hm23 ht, q_some, show x23.1 44 t = iI (alZ A t) from hx23.at 44 (by omega) (by omega), it_le (by omega) (by omega) (by omega) (by omega), q_ite, i_ite]
  have scd : (if alZ A t ≤ (crM A (chM A t) : Nat) then alZ A t else ((crM A (chM A t) : Nat) : Int)) = cdZ A t := by
    unfold cdZ
    split <;> split <;> omega
  rw [scd, q_nm]
  generalize e28 : si x23 46 t (iI (cdZ A t)) = x28
  have hx28 : WT z x28 A t 7 := by rw [← e28]; exact WT_s hx23
  have hm28 := hx28.mz (by omega) hz
  rw [addd hn h hm28 ht, q_some, q_nm]
  generalize e31 : si x28 47 t (iI (adZ A t)) = x31
  have hx31 : WT z x31 A t 8 := by rw [← e31]; exact WT_s hx28
  rw [show x31.1 44 t = iI (alZ A t) from hx31.at 44 (by omega) (by omega), show x31.1 45 t = iI (apZ A t) from hx31.at 45 (by omega) (by omega), show x31.1 46 t = iI (cdZ A t) from hx31.at 46 (by omega) (by omega), show x31.1 47 t = iI (adZ A t) from hx31.at 47 (by omega) (by omega), show x31.1 43 t = iI (fsZ A t) from hx31.at 43 (by omega) (by omega), i_sub, q_nm, it_le (by omega) (by omega) (by omega) (by omega), i_sub, i_0, q_ite, i_ite]
  have smx : (if apZ A t ≤ cdZ A t then 0 else apZ A t - cdZ A t) = mxZ A t := by
    unfold mxZ
    split <;> split <;> omega
  rw [smx, i_add, q_nm, it_le (by omega) (by omega) (by omega) (by omega), q_ite, i_ite, i_add]
  have srl : fsZ A t + (if alZ A t - cdZ A t ≤ mxZ A t + adZ A t then alZ A t - cdZ A t else mxZ A t + adZ A t) = rlZ A t := by
    unfold rlZ rlW
    split <;> split <;> omega
  rw [srl, q_nm]
  generalize e38 : si x31 48 t (iI (rlZ A t)) = x38
  have hx38 : WT z x38 A t 9 := by rw [← e38]; exact WT_s hx31
  rw [show x38.1 43 t = iI (fsZ A t) from hx38.at 43 (by omega) (by omega), i_add, q_nm]
  exact ⟨_, rfl, WT_s hx38⟩
theorem works_l {n : Nat} (hn : 40000 ≤ n) {A : AA} (h : WF A) : ∀ (f t : Nat) (z : SX), MZ z A → (∀ t' : Nat, t' < t → (t' : Int) < A 0 6 → A 23 t' = 0 → DZt z A t') → (t : Int) ≤ A 0 6 → A 0 6 < t + f → ∃ z' : SX, f_X7_works_l2 n f (iI t) z = some z' ∧ MZ z' A ∧ DZ z' A ∧ ∀ r k, WK r k → z'.1 r k = z.1 r k := by
  intro f
  have w6 := h.2.1
  induction f with
  | zero => intro t z _ _ a b; omega
  | succ f ih =>
    intro t z hz hD a b
    rw [f_X7_works_l2, hz 0 6 rfl, it_le (by omega) (by omega) (by omega) (by omega)]
    by_cases e : A 0 6 ≤ t
    · rw [if_pos e]
      exact ⟨z, rfl, hz, fun t' h1 h2 => hD t' (by omega) h1 h2, fun _ _ _ => rfl⟩
    · rw [if_neg e]
      by_cases c : A 23 t = 0
      · have wt := h.te t (by omega)
        obtain ⟨z1, g1, g2⟩ := workT hn h hz (t := t) (by omega) fun hp => hD (A 22 t).toNat (by omega) (by omega) (wt.2.2.2.2.2.2.2 c hp)
        rw [d_isIn1 hz (by omega) c, q_some, if_neg (by decide), g1, q_some, q_some, i_1, q_nm]
        obtain ⟨z', k1, k2, k3, k4⟩ := ih (t + 1) z1 (g2.mz (by omega) hz) (fun t' h1 h2 h3 => by
          by_cases q : t' = t
          · subst q
            exact ⟨g2.at 40 (by omega) (by omega), g2.at 41 (by omega) (by omega), g2.at 42 (by omega) (by omega), g2.at 43 (by omega) (by omega), g2.at 44 (by omega) (by omega), g2.at 45 (by omega) (by omega), g2.at 46 (by omega) (by omega), g2.at 47 (by omega) (by omega), g2.at 48 (by omega) (by omega), g2.at 49 (by omega) (by omega)⟩
          · have := hD t' (by omega) h2 h3
            unfold DZt at this ⊢
            rw [g2.ot 40 t' (by omega) q, g2.ot 41 t' (by omega) q, g2.ot 42 t' (by omega) q, g2.ot 43 t' (by omega) q, g2.ot 44 t' (by omega) q, g2.ot 45 t' (by omega) q, g2.ot 46 t' (by omega) q, g2.ot 47 t' (by omega) q, g2.ot 48 t' (by omega) q, g2.ot 49 t' (by omega) q]
            exact this) (by omega) (by omega)
        refine ⟨z', k1, k2, k3, fun r k hr => ?_⟩
        rw [k4 r k hr]
        unfold WK at hr
        rw [g2 r k (by omega), if_neg (by omega)]
      · rw [d_isIn0 h hz (by omega) c, q_some, if_pos rfl, q_some, i_1, q_nm]
        exact ih (t + 1) z hz (fun t' h1 h2 h3 => by
          by_cases q : t' = t
          · subst q; exact absurd h3 c
          · exact hD t' (by omega) h2 h3) (by omega) (by omega)
theorem works {n : Nat} (hn : 40000 ≤ n) {A : AA} (h : WF A) {z : SX} (hz : MZ z A) : ∃ z' : SX, f_X7_works n z = some z' ∧ MZ z' A ∧ DZ z' A ∧ ∀ r k, WK r k → z'.1 r k = z.1 r k := by
  have w6 := h.2.1
  exact works_l hn h n 0 z hz (fun t' h1 => by omega) (by omega) (by omega)
