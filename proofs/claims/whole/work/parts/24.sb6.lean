/-! ===== the StringBuilder, 6: what its appends come to ===== -/
theorem qgd_t {α : Type} {b : Bool} {x : Option α} (h : b = true) : qgd b x = x := by rw [h]; rfl
theorem qin_nI {k n : Nat} (h : k < n) (hk : k < 2 ^ 31) : qin (nI k) n = true := by
  simp only [qin, Bool.and_eq_true, decide_eq_true_eq]
  exact ⟨nI_pos' hk, by rw [nI_clamp hk]; exact h⟩
theorem tab_b : ∀ c, c < 128 → nI c = sb_b c := by decide +kernel
theorem tabO_s (w : Nat) : tabO w = sb_b (48 + w % 10) := tab_b _ (by omega)
theorem tabT_s {w : Nat} (h : w < 100) : tabT w = sb_b (48 + w / 10) := tab_b _ (by omega)
theorem sr_s {x : SX} {r : Nat} {f : Nat → Int32} : (sr x r f).1 r = f := if_pos rfl
theorem sr_n {x : SX} {r k : Nat} {f : Nat → Int32} (h : k ≠ r) : (sr x r f).1 k = x.1 k := if_neg h
theorem gc_loop {cap n : Nat} (hm : cap ≤ 2 ^ 20) : ∀ (f w p : Nat) (x : SX), w < f → w < 2 ^ 31 → p = n + sb_dg w → p ≤ cap →
    ∃ x' : SX, f_J6_getChars_ba4f3_l22 cap 0 f (-nI w) (nI p) x = some (nI n, x') ∧ x'.1 8 = x.1 8 ∧ (∀ j, j < n ∨ p ≤ j → x'.1 9 j = x.1 9 j) ∧ (∀ i, i < sb_dg w → x'.1 9 (p - 1 - i) = sb_b (48 + w / 10 ^ i % 10)) ∧ (sb_Fit (x.1 9) → sb_Fit (x'.1 9)) := by
  intro f
  induction f with
  | zero =>
    intro w p x h
    omega
  | succ f ih =>
    intro w p x hwf hw hp hpm
    have hd1 := (sb_dg_in w).1
    have e1 : -(-nI w) = nI w := Int32.neg_neg
    have ew : (nI w).toNatClampNeg = w := nI_clamp hw
    have ep : nI p + (-1) = nI (p - 1) := sb_m1 (by omega)
    have ec : (nI (p - 1)).toNatClampNeg = p - 1 := nI_clamp (by omega)
    rw [f_J6_getChars_ba4f3_l22]
    by_cases h100 : w < 100
    · rw [if_pos (show (-100 : Int32) < -nI w from (sb_nlt (a := 100) (by decide) hw).mpr h100), f_J6_getChars_ba4f3_e72, qnm, ep, e1, qgd_t (qin_nI h100 (by omega)), qgd_t (qin_nI (by omega) (by omega)), qnm, ew, ec, tabO_s]
      by_cases h9 : w < 10
      · have hd : sb_dg w = 1 := if_pos h9
        rw [if_pos (show (-9 : Int32) ≤ -nI w from (sb_nle (a := 9) (by decide) hw).mpr (by omega))]
        have epn : p - 1 = n := by omega
        rw [epn]
        refine ⟨_, rfl, sr_n (by decide), fun j hj => ?_, fun i hi => ?_, fun hf => ?_⟩
        · rw [sr_s]; exact pk_un (by omega)
        · obtain rfl : i = 0 := by omega
          rw [sr_s, Nat.sub_zero, pk_us, Nat.pow_zero, Nat.div_one]
        · rw [sr_s]; exact sb_fitU hf (sb_fitB _)
      · have hd : sb_dg w = 2 := by rw [sb_dg, if_neg h9, if_pos h100]
        have d2 : w / 10 % 10 = w / 10 := by omega
        have ep2 : nI (p - 1) + (-1) = nI (p - 1 - 1) := sb_m1 (by omega)
        have ec2 : (nI (p - 1 - 1)).toNatClampNeg = p - 1 - 1 := nI_clamp (by omega)
        rw [if_neg (show ¬ ((-9 : Int32) ≤ -nI w) from fun z => by have := (sb_nle (a := 9) (by decide) hw).mp z; omega), qnm, ep2, qgd_t (qin_nI (by omega) (by omega)), qnm, ec2, tabT_s h100]
        have epn : p - 1 - 1 = n := by omega
        rw [epn]
        refine ⟨_, rfl, (sr_n (by decide)).trans (sr_n (by decide)), fun j hj => ?_, fun i hi => ?_, fun hf => ?_⟩
        · rw [sr_s, sr_s, pk_un (by omega), pk_un (by omega)]
        · rw [sr_s, sr_s]
          obtain rfl | rfl : i = 0 ∨ i = 1 := by omega
          · rw [Nat.sub_zero, pk_un (by omega), pk_us, Nat.pow_zero, Nat.div_one]
          · rw [epn, pk_us, Nat.pow_one, d2]
        · rw [sr_s, sr_s]; exact sb_fitU (sb_fitU hf (sb_fitB _)) (sb_fitB _)
    · have hd := sb_dg100 (w := w) (by omega) hw
      have hd2 := (sb_dg_in (w / 100)).1
      have er : (nI (w % 100)).toNatClampNeg = w % 100 := nI_clamp (by omega)
      have ep2 : nI (p - 1) + (-1) = nI (p - 1 - 1) := sb_m1 (by omega)
      have ec2 : (nI (p - 1 - 1)).toNatClampNeg = p - 1 - 1 := nI_clamp (by omega)
      rw [if_neg (show ¬ ((-100 : Int32) < -nI w) from fun z => h100 ((sb_nlt (a := 100) (by decide) hw).mp z)), sb_ndiv hw, qnm, qnm, sb_nrem hw, qnm, ep, qgd_t (qin_nI (by omega) (by omega)), qgd_t (qin_nI (by omega) (by omega)), qnm, er, ec, tabO_s, qnm, ep2, qgd_t (qin_nI (by omega) (by omega)), qnm, ec2, tabT_s (by omega)]
      obtain ⟨x', g1, g2, g3, g4, g5⟩ := ih (w / 100) (p - 1 - 1) (si (si x 9 (p - 1) (sb_b (48 + w % 100 % 10))) 9 (p - 1 - 1) (sb_b (48 + w % 100 / 10))) (by omega) (by omega) (by omega) (by omega)
      have t1 : w % 100 % 10 = w % 10 := by omega
      have t2 : w % 100 / 10 = w / 10 % 10 := by omega
      rw [t1, t2] at g1 g2 g3 g5 ⊢
      refine ⟨x', g1, g2.trans ((sr_n (by decide)).trans (sr_n (by decide))), fun j hj => ?_, fun i hi => ?_, fun hf => g5 ?_⟩
      · rw [g3 j (by omega), sr_s, sr_s, pk_un (by omega), pk_un (by omega)]
      · match i, hi with
        | 0, _ => rw [Nat.sub_zero, g3 _ (by omega), sr_s, sr_s, pk_un (by omega), pk_us, Nat.pow_zero, Nat.div_one]
        | 1, _ => rw [g3 _ (by omega), sr_s, sr_s, pk_us, Nat.pow_one]
        | k + 2, hi =>
          rw [show p - 1 - (k + 2) = p - 1 - 1 - 1 - k by omega, g4 k (by omega), Nat.div_div_eq_div_mul, show 100 * 10 ^ k = 10 ^ (k + 2) by rw [show k + 2 = k + 1 + 1 from rfl, Nat.pow_succ, Nat.pow_succ]; omega]
      · rw [sr_s, sr_s]; exact sb_fitU (sb_fitU hf (sb_fitB _)) (sb_fitB _)
theorem gc_all {cap n v nn : Nat} (hm : cap ≤ 2 ^ 20) (x : SX) (hv : v < nn) (hv2 : v < 2 ^ 31) (hp : n + sb_dg v ≤ cap) :
    ∃ x' : SX, f_J6_getChars_ba4f3 nn cap x (nI v) (nI (n + sb_dg v)) = some (nI n, x') ∧ x'.1 8 = x.1 8 ∧ (∀ j, j < n ∨ n + sb_dg v ≤ j → x'.1 9 j = x.1 9 j) ∧ (∀ i, i < sb_dg v → x'.1 9 (n + sb_dg v - 1 - i) = sb_b (48 + v / 10 ^ i % 10)) ∧ (sb_Fit (x.1 9) → sb_Fit (x'.1 9)) := by
  obtain ⟨x', h⟩ := gc_loop hm nn v (n + sb_dg v) x hv hv2 rfl hp
  refine ⟨x', ?_, h.2⟩
  rw [f_J6_getChars_ba4f3, if_pos (nI_pos' hv2), qbd, if_pos rfl, qnm, qbd]
  exact h.1
theorem sz_step (v c : Nat) (m : Nat) (p q i j : Int32) (hv : v < 2 ^ 31) (hc : c < 2 ^ 31) (hp : p = -nI c) (h10 : ¬ (10 : Int32) ≤ i) (hq : (10 : Int32) * p = q) (hj : i + 1 = j) :
    f_J6_stringSize_0f7a4_l16 0 (-nI v) (m + 1) p i = if c ≤ v then f_J6_stringSize_0f7a4_l16 0 (-nI v) m q j else some (i + 0) := by
  rw [f_J6_stringSize_0f7a4_l16, if_neg h10, hp]
  by_cases h : c ≤ v
  · rw [if_pos h, if_pos ((sb_nle hv hc).mpr h), qnm, qnm, ← hp, hq, hj]
  · rw [if_neg h, if_neg (fun z => h ((sb_nle hv hc).mp z))]
theorem sz_all {v m : Nat} (hv : v < 2 ^ 31) : f_J6_stringSize_0f7a4 (m + 10) (nI v) = some (nI (sb_dg v)) := by
  rw [f_J6_stringSize_0f7a4, if_neg (nI_pos hv), qnm, qbd2]
  rw [sz_step v 10 (m + 9) (-10) (-100) 1 2 hv (by decide) rfl (by decide) rfl rfl, sz_step v 100 (m + 8) (-100) (-1000) 2 3 hv (by decide) rfl (by decide) rfl rfl, sz_step v 1000 (m + 7) (-1000) (-10000) 3 4 hv (by decide) rfl (by decide) rfl rfl, sz_step v 10000 (m + 6) (-10000) (-100000) 4 5 hv (by decide) rfl (by decide) rfl rfl, sz_step v 100000 (m + 5) (-100000) (-1000000) 5 6 hv (by decide) rfl (by decide) rfl rfl, sz_step v 1000000 (m + 4) (-1000000) (-10000000) 6 7 hv (by decide) rfl (by decide) rfl rfl, sz_step v 10000000 (m + 3) (-10000000) (-100000000) 7 8 hv (by decide) rfl (by decide) rfl rfl, sz_step v 100000000 (m + 2) (-100000000) (-1000000000) 8 9 hv (by decide) rfl (by decide) rfl rfl, sz_step v 1000000000 (m + 1) (-1000000000) (-1410065408) 9 10 hv (by decide) rfl (by decide) (by decide) rfl]
  rw [f_J6_stringSize_0f7a4_l16, if_pos (show (10 : Int32) ≤ 10 by decide)]
  unfold sb_dg
  by_cases h1 : 10 ≤ v
  · rw [if_pos h1, if_neg (by omega : ¬ v < 10)]
    by_cases h2 : 100 ≤ v
    · rw [if_pos h2, if_neg (by omega : ¬ v < 100)]
      by_cases h3 : 1000 ≤ v
      · rw [if_pos h3, if_neg (by omega : ¬ v < 1000)]
        by_cases h4 : 10000 ≤ v
        · rw [if_pos h4, if_neg (by omega : ¬ v < 10000)]
          by_cases h5 : 100000 ≤ v
          · rw [if_pos h5, if_neg (by omega : ¬ v < 100000)]
            by_cases h6 : 1000000 ≤ v
            · rw [if_pos h6, if_neg (by omega : ¬ v < 1000000)]
              by_cases h7 : 10000000 ≤ v
              · rw [if_pos h7, if_neg (by omega : ¬ v < 10000000)]
                by_cases h8 : 100000000 ≤ v
                · rw [if_pos h8, if_neg (by omega : ¬ v < 100000000)]
                  by_cases h9 : 1000000000 ≤ v
                  · rw [if_pos h9, if_neg (by omega : ¬ v < 1000000000)]; rfl
                  · rw [if_neg h9, if_pos (by omega : v < 1000000000)]; rfl
                · rw [if_neg h8, if_pos (by omega : v < 100000000)]; rfl
              · rw [if_neg h7, if_pos (by omega : v < 10000000)]; rfl
            · rw [if_neg h6, if_pos (by omega : v < 1000000)]; rfl
          · rw [if_neg h5, if_pos (by omega : v < 100000)]; rfl
        · rw [if_neg h4, if_pos (by omega : v < 10000)]; rfl
      · rw [if_neg h3, if_pos (by omega : v < 1000)]; rfl
    · rw [if_neg h2, if_pos (by omega : v < 100)]; rfl
  · rw [if_neg h1, if_pos (by omega : v < 10)]; rfl
