/-! ===== the sets of days ===== -/
def lbit (f : Nat → Int64) (d : Nat) : Bool := (f (d / 64)).toBitVec.getLsbD (d % 64)
theorem dec_iff {p q : Prop} [Decidable p] [Decidable q] (h : p ↔ q) : decide p = decide q := decide_eq_decide.mpr h
theorem lbit_at (f : Nat → Int64) {w k : Nat} (hk : k < 64) : lbit f (64 * w + k) = (f w).toBitVec.getLsbD k := by
  unfold lbit
  rw [show (64 * w + k) / 64 = w by omega, show (64 * w + k) % 64 = k by omega]
theorem wl_bitCount (n : Nat) (w : Int64) : f_J13_bitCount_95d88 n w = some (nI (fb_ct (fun i => w.toBitVec.getLsbD i) 64)) := by
  obtain ⟨N, hN, rfl⟩ := wb_of w
  rw [l_bitCount n hN]
  congr 2
  refine fb_ct_cong fun i hi => ?_
  show N.testBit i = (lN N).toBitVec.toNat.testBit i
  rw [wb_tn hN]
theorem sh6 {b : Int} (h1 : -1 ≤ b) (h2 : b < 1000000) : iI b >>> ((6 : Int32) &&& 31) = iI (b / 64) := by
  by_cases c : b = -1
  · subst c; decide
  · rw [i_nat (a := b) (by omega), pk_shrN (by omega) _ 6 (by decide), i_nat (by omega)]
    congr 1
    omega
theorem lg0 {a : Type} (x y : Int64) (u v : a) : (if lg_cmp x y = 0 then u else v) = if x = y then u else v := by
  unfold lg_cmp
  by_cases c : x = y
  · subst c
    rw [if_pos rfl]
    by_cases d : x > x
    · exact absurd d (by rw [gt_iff_lt, Int64.lt_iff_toInt_lt]; omega)
    · rw [if_neg d, if_pos rfl, if_pos rfl]
  · rw [if_neg c]
    split
    · rw [if_neg (by decide)]
    · rw [if_neg (by decide)]
theorem has_bit {w : Int64} {d : Int} (h1 : 0 ≤ d) (h2 : d < 1000000) {a : Type} (u v : a) : (if lg_cmp ((w.toUInt64 >>> ((iI d &&& (63 : Int32)).toInt64.toUInt64 &&& Int64.toUInt64 63)).toInt64 &&& (1 : Int64)) (0 : Int64) = 0 then u else v) = if w.toBitVec.getLsbD (d.toNat % 64) = true then v else u := by
  rw [lg0, i_nat h1, pk_andN (by omega) 6 (by decide), wb_cu _ (by omega)]
  have e := ts_bit (w := w) (s := UInt64.ofNat (d.toNat % 2 ^ 6)) (j := d.toNat % 64) (by omega) (u_tn (by omega))
  by_cases c : w.toBitVec.getLsbD (d.toNat % 64) = true
  · rw [if_pos c, if_neg]
    intro q
    rw [e.mp q] at c
    cases c
  · rw [if_neg c, if_pos]
    exact e.mpr (ts_nt c)
theorem bw_l : ∀ lo, lo < 64 → ∀ i, i < 64 → ((-1 : Int64) <<< ((nI lo).toInt64 &&& 63)).toBitVec.getLsbD i = decide (lo ≤ i) := by decide +kernel
theorem bw_r : ∀ h, h < 64 → ∀ i, i < 64 → (((-1 : Int64).toUInt64 >>> ((nI h).toInt64.toUInt64 &&& Int64.toUInt64 63)).toInt64).toBitVec.getLsbD i = decide (i + h ≤ 63) := by decide +kernel
theorem bw (n : Nat) {w : Nat} (hw : w < 229) {a b : Int} (h1 : 0 ≤ a) (h2 : a < 15000) (h3 : -1 ≤ b) (h4 : b < 15000) : ∃ v : Int64, f_X2_bitsWithin n (iI w) (iI a) (iI b) = some v ∧ ∀ i, i < 64 → v.toBitVec.getLsbD i = decide (a ≤ (64 * w + i : Nat) ∧ ((64 * w + i : Nat) : Int) ≤ b) := by
  unfold f_X2_bitsWithin
  have es : iI (w : Int) <<< ((6 : Int32) &&& 31) = iI ((64 * w : Nat) : Int) := by
    rw [i_N, pk_shlN _ 6 (by decide) (by omega), i_N]
    congr 1
    omega
  rw [es, i_sub, i_sub, i_0, it_lt (by omega) (by omega) (by omega) (by omega), show (63 : Int32) = iI 63 from rfl, it_lt (by omega) (by omega) (by omega) (by omega)]
  rw [i_ite, i_ite, q_nm, q_nm]
  generalize hlo : (if a - ((64 * w : Nat) : Int) < 0 then (0 : Int) else a - ((64 * w : Nat) : Int)) = lo
  generalize hhi : (if (63 : Int) < b - ((64 * w : Nat) : Int) then (63 : Int) else b - ((64 * w : Nat) : Int)) = hi
  have l1 : 0 ≤ lo ∧ lo < 15000 := by rw [← hlo]; split <;> omega
  have l2 : hi ≤ 63 ∧ -15000 < hi := by rw [← hhi]; split <;> omega
  have l3 : ∀ i : Nat, i < 64 → ((a ≤ (64 * w + i : Nat) ∧ ((64 * w + i : Nat) : Int) ≤ b) ↔ (lo ≤ i ∧ (i : Int) ≤ hi)) := by
    intro i hi2
    rw [← hlo, ← hhi]
    constructor
    · intro q; split <;> split <;> omega
    · intro q; revert q; split <;> split <;> omega
  rw [it_le (by omega) (by omega) (by omega) (by omega)]
  by_cases c : lo ≤ hi
  · rw [if_pos c, q_some]
    refine ⟨_, rfl, fun i hi2 => ?_⟩
    rw [Int64.toBitVec_and, BitVec.getLsbD_and, i_sub, i_nat (a := 63 - hi) (by omega), i_nat (a := lo) (by omega), bw_l _ (by omega) i hi2, bw_r _ (by omega) i hi2, dec_iff (l3 i hi2), Bool.eq_iff_iff]
    simp only [Bool.and_eq_true, decide_eq_true_eq]
    omega
  · rw [if_neg c, q_some]
    refine ⟨_, rfl, fun i hi2 => ?_⟩
    rw [dec_iff (l3 i hi2), decide_eq_false (by omega)]
    exact BitVec.getLsbD_zero
theorem sl_1 {x : SX} {r k : Nat} {v : Int64} : (sl x r k v).1 = x.1 := rfl
theorem sl_s {x : SX} {r k : Nat} {v : Int64} : (sl x r k v).2 r = vp_updL (x.2 r) k v := if_pos rfl
theorem sl_n {x : SX} {r k j : Nat} {v : Int64} (h : j ≠ r) : (sl x r k v).2 j = x.2 j := if_neg h
theorem lbit_or {f : Nat → Int64} {w : Nat} {v : Int64} (d : Nat) : lbit (vp_updL f w (f w ||| v)) d = (lbit f d || (decide (d / 64 = w) && v.toBitVec.getLsbD (d % 64))) := by
  unfold lbit
  by_cases c : d / 64 = w
  · rw [c, pk_uLs, Int64.toBitVec_or, BitVec.getLsbD_or, decide_eq_true rfl, Bool.true_and]
  · rw [pk_uLn c, decide_eq_false c, Bool.false_and, Bool.or_false]
def WX (x : SX) (A : AA) : Prop := ∀ d : Nat, d < 14656 → lbit (x.2 40) d = decide (A 12 d = 2) ∧ lbit (x.2 41) d = decide (A 12 d = 1)
theorem has_5 {n : Nat} {x : SX} {d : Nat} (hd : d < 14656) : f_X2_has_5 n x (iI d) = some (if lbit (x.2 40) d = true then 1 else 0) := by
  unfold f_X2_has_5
  rw [sh6 (by omega) (by omega), q_nm, i_0, it_lt (by omega) (by omega) (by omega) (by omega), if_neg (by omega), show (229 : Int32) = iI 229 from rfl, it_le (by omega) (by omega) (by omega) (by omega), if_neg (by omega), i_gd (by omega) (by omega) (by decide), i_cl (by omega) (by omega), ← i_0, has_bit (by omega) (by omega), show ((d : Int) / 64).toNat = d / 64 by omega, show ((d : Int)).toNat = d from rfl]
  show qbd (if lbit (x.2 40) d = true then some (1 : Int32) else some (0 : Int32)) _ = _
  split <;> rfl
theorem has_6 {n : Nat} {x : SX} {d : Nat} (hd : d < 14656) : f_X2_has_6 n x (iI d) = some (if lbit (x.2 41) d = true then 1 else 0) := by
  unfold f_X2_has_6
  rw [sh6 (by omega) (by omega), q_nm, i_0, it_lt (by omega) (by omega) (by omega) (by omega), if_neg (by omega), show (229 : Int32) = iI 229 from rfl, it_le (by omega) (by omega) (by omega) (by omega), if_neg (by omega), i_gd (by omega) (by omega) (by decide), i_cl (by omega) (by omega), ← i_0, has_bit (by omega) (by omega), show ((d : Int) / 64).toNat = d / 64 by omega, show ((d : Int)).toNat = d from rfl]
  show qbd (if lbit (x.2 41) d = true then some (1 : Int32) else some (0 : Int32)) _ = _
  split <;> rfl
theorem mark_5_l {n : Nat} {a b : Int} (h1 : 0 ≤ a) (h2 : a < 15000) (h3 : -1 ≤ b) (h4 : b < 15000) : ∀ (f w : Nat) (x : SX), w ≤ 229 → 229 < w + f → ∃ x' : SX, f_X2_mark_5_l9 (iI b) n (iI a) f (iI w) x = some x' ∧ x'.1 = x.1 ∧ (∀ r, r ≠ 40 → x'.2 r = x.2 r) ∧ ∀ d : Nat, d < 14656 → lbit (x'.2 40) d = (lbit (x.2 40) d || decide (64 * w ≤ d ∧ a ≤ (d : Int) ∧ (d : Int) ≤ b)) := by
  intro f
  induction f with
  | zero => intro w x g1 g2; omega
  | succ f ih =>
    intro w x g1 g2
    rw [f_X2_mark_5_l9, show (229 : Int32) = iI 229 from rfl, it_le (by omega) (by omega) (by omega) (by omega), sh6 h3 (by omega), it_lt (by omega) (by omega) (by omega) (by omega)]
    by_cases c : (229 : Int) ≤ w
    · rw [if_pos c]
      refine ⟨x, rfl, rfl, fun _ _ => rfl, fun d hd => ?_⟩
      rw [decide_eq_false (by omega), Bool.or_false]
    · rw [if_neg c]
      by_cases c2 : b / 64 < w
      · rw [if_pos c2]
        refine ⟨x, rfl, rfl, fun _ _ => rfl, fun d hd => ?_⟩
        rw [decide_eq_false (by omega), Bool.or_false]
      · obtain ⟨v, e, hv⟩ := bw n (w := w) (by omega) h1 h2 h3 h4
        rw [if_neg c2, i_gd (by omega) (by omega) (by decide), e, q_some, i_clN (by omega), q_nm, i_1, q_nm]
        obtain ⟨x', e1, e2, e3, e4⟩ := ih (w + 1) (sl x 40 w (x.2 40 w ||| v)) (by omega) (by omega)
        refine ⟨x', e1, e2, fun r hr => (e3 r hr).trans (sl_n hr), fun d hd => ?_⟩
        rw [e4 d hd, sl_s, lbit_or, hv (d % 64) (by omega), Bool.or_assoc]
        congr 1
        rw [Bool.eq_iff_iff]
        simp only [Bool.or_eq_true, Bool.and_eq_true, decide_eq_true_eq]
        omega
theorem mark_5 {n : Nat} (hn : 40000 ≤ n) {a b : Int} (h1 : 0 ≤ a) (h2 : a < 14656) (h3 : -1 ≤ b) (h4 : b < 15000) (x : SX) : ∃ x' : SX, f_X2_mark_5 n x (iI a) (iI b) = some x' ∧ x'.1 = x.1 ∧ (∀ r, r ≠ 40 → x'.2 r = x.2 r) ∧ ∀ d : Nat, d < 14656 → lbit (x'.2 40) d = (lbit (x.2 40) d || decide (a ≤ (d : Int) ∧ (d : Int) ≤ b)) := by
  obtain ⟨x', e1, e2, e3, e4⟩ := mark_5_l (n := n) h1 (by omega) h3 h4 n (a / 64).toNat x (by omega) (by omega)
  refine ⟨x', ?_, e2, e3, fun d hd => ?_⟩
  · unfold f_X2_mark_5
    rw [i_0, it_lt (by omega) (by omega) (by omega) (by omega), if_neg (by omega), sh6 (by omega) (by omega), q_nm]
    rw [show (((a / 64).toNat : Nat) : Int) = a / 64 by omega] at e1
    exact e1
  · rw [e4 d hd]
    congr 1
    exact dec_iff (by omega)
theorem mark_6_l {n : Nat} {a b : Int} (h1 : 0 ≤ a) (h2 : a < 15000) (h3 : -1 ≤ b) (h4 : b < 15000) : ∀ (f w : Nat) (x : SX), w ≤ 229 → 229 < w + f → ∃ x' : SX, f_X2_mark_6_l9 (iI b) n (iI a) f (iI w) x = some x' ∧ x'.1 = x.1 ∧ (∀ r, r ≠ 41 → x'.2 r = x.2 r) ∧ ∀ d : Nat, d < 14656 → lbit (x'.2 41) d = (lbit (x.2 41) d || decide (64 * w ≤ d ∧ a ≤ (d : Int) ∧ (d : Int) ≤ b)) := by
  intro f
  induction f with
  | zero => intro w x g1 g2; omega
  | succ f ih =>
    intro w x g1 g2
    rw [f_X2_mark_6_l9, show (229 : Int32) = iI 229 from rfl, it_le (by omega) (by omega) (by omega) (by omega), sh6 h3 (by omega), it_lt (by omega) (by omega) (by omega) (by omega)]
    by_cases c : (229 : Int) ≤ w
    · rw [if_pos c]
      refine ⟨x, rfl, rfl, fun _ _ => rfl, fun d hd => ?_⟩
      rw [decide_eq_false (by omega), Bool.or_false]
    · rw [if_neg c]
      by_cases c2 : b / 64 < w
      · rw [if_pos c2]
        refine ⟨x, rfl, rfl, fun _ _ => rfl, fun d hd => ?_⟩
        rw [decide_eq_false (by omega), Bool.or_false]
      · obtain ⟨v, e, hv⟩ := bw n (w := w) (by omega) h1 h2 h3 h4
        rw [if_neg c2, i_gd (by omega) (by omega) (by decide), e, q_some, i_clN (by omega), q_nm, i_1, q_nm]
        obtain ⟨x', e1, e2, e3, e4⟩ := ih (w + 1) (sl x 41 w (x.2 41 w ||| v)) (by omega) (by omega)
        refine ⟨x', e1, e2, fun r hr => (e3 r hr).trans (sl_n hr), fun d hd => ?_⟩
        rw [e4 d hd, sl_s, lbit_or, hv (d % 64) (by omega), Bool.or_assoc]
        congr 1
        rw [Bool.eq_iff_iff]
        simp only [Bool.or_eq_true, Bool.and_eq_true, decide_eq_true_eq]
        omega
theorem mark_6 {n : Nat} (hn : 40000 ≤ n) {a b : Int} (h1 : 0 ≤ a) (h2 : a < 14656) (h3 : -1 ≤ b) (h4 : b < 15000) (x : SX) : ∃ x' : SX, f_X2_mark_6 n x (iI a) (iI b) = some x' ∧ x'.1 = x.1 ∧ (∀ r, r ≠ 41 → x'.2 r = x.2 r) ∧ ∀ d : Nat, d < 14656 → lbit (x'.2 41) d = (lbit (x.2 41) d || decide (a ≤ (d : Int) ∧ (d : Int) ≤ b)) := by
  obtain ⟨x', e1, e2, e3, e4⟩ := mark_6_l (n := n) h1 (by omega) h3 h4 n (a / 64).toNat x (by omega) (by omega)
  refine ⟨x', ?_, e2, e3, fun d hd => ?_⟩
  · unfold f_X2_mark_6
    rw [i_0, it_lt (by omega) (by omega) (by omega) (by omega), if_neg (by omega), sh6 (by omega) (by omega), q_nm]
    rw [show (((a / 64).toNat : Nat) : Int) = a / 64 by omega] at e1
    exact e1
  · rw [e4 d hd]
    congr 1
    exact dec_iff (by omega)
theorem mark_7_l {n : Nat} {a b : Int} (h1 : 0 ≤ a) (h2 : a < 15000) (h3 : -1 ≤ b) (h4 : b < 15000) : ∀ (f w : Nat) (x : SX), w ≤ 229 → 229 < w + f → ∃ x' : SX, f_X2_mark_7_l9 (iI b) n (iI a) f (iI w) x = some x' ∧ x'.1 = x.1 ∧ (∀ r, r ≠ 42 → x'.2 r = x.2 r) ∧ ∀ d : Nat, d < 14656 → lbit (x'.2 42) d = (lbit (x.2 42) d || decide (64 * w ≤ d ∧ a ≤ (d : Int) ∧ (d : Int) ≤ b)) := by
  intro f
  induction f with
  | zero => intro w x g1 g2; omega
  | succ f ih =>
    intro w x g1 g2
    rw [f_X2_mark_7_l9, show (229 : Int32) = iI 229 from rfl, it_le (by omega) (by omega) (by omega) (by omega), sh6 h3 (by omega), it_lt (by omega) (by omega) (by omega) (by omega)]
    by_cases c : (229 : Int) ≤ w
    · rw [if_pos c]
      refine ⟨x, rfl, rfl, fun _ _ => rfl, fun d hd => ?_⟩
      rw [decide_eq_false (by omega), Bool.or_false]
    · rw [if_neg c]
      by_cases c2 : b / 64 < w
      · rw [if_pos c2]
        refine ⟨x, rfl, rfl, fun _ _ => rfl, fun d hd => ?_⟩
        rw [decide_eq_false (by omega), Bool.or_false]
      · obtain ⟨v, e, hv⟩ := bw n (w := w) (by omega) h1 h2 h3 h4
        rw [if_neg c2, i_gd (by omega) (by omega) (by decide), e, q_some, i_clN (by omega), q_nm, i_1, q_nm]
        obtain ⟨x', e1, e2, e3, e4⟩ := ih (w + 1) (sl x 42 w (x.2 42 w ||| v)) (by omega) (by omega)
        refine ⟨x', e1, e2, fun r hr => (e3 r hr).trans (sl_n hr), fun d hd => ?_⟩
        rw [e4 d hd, sl_s, lbit_or, hv (d % 64) (by omega), Bool.or_assoc]
        congr 1
        rw [Bool.eq_iff_iff]
        simp only [Bool.or_eq_true, Bool.and_eq_true, decide_eq_true_eq]
        omega
theorem mark_7 {n : Nat} (hn : 40000 ≤ n) {a b : Int} (h1 : 0 ≤ a) (h2 : a < 14656) (h3 : -1 ≤ b) (h4 : b < 15000) (x : SX) : ∃ x' : SX, f_X2_mark_7 n x (iI a) (iI b) = some x' ∧ x'.1 = x.1 ∧ (∀ r, r ≠ 42 → x'.2 r = x.2 r) ∧ ∀ d : Nat, d < 14656 → lbit (x'.2 42) d = (lbit (x.2 42) d || decide (a ≤ (d : Int) ∧ (d : Int) ≤ b)) := by
  obtain ⟨x', e1, e2, e3, e4⟩ := mark_7_l (n := n) h1 (by omega) h3 h4 n (a / 64).toNat x (by omega) (by omega)
  refine ⟨x', ?_, e2, e3, fun d hd => ?_⟩
  · unfold f_X2_mark_7
    rw [i_0, it_lt (by omega) (by omega) (by omega) (by omega), if_neg (by omega), sh6 (by omega) (by omega), q_nm]
    rw [show (((a / 64).toNat : Nat) : Int) = a / 64 by omega] at e1
    exact e1
  · rw [e4 d hd]
    congr 1
    exact dec_iff (by omega)
theorem fill_l {v : Int64} : ∀ (f w : Nat) (x : SX), w ≤ 229 → 229 < w + f → ∃ x' : SX, f_J7_fill_d0a16_l6 v f (iI w) x = some x' ∧ x'.1 = x.1 ∧ (∀ r, r ≠ 42 → x'.2 r = x.2 r) ∧ ∀ k : Nat, k < 229 → x'.2 42 k = if w ≤ k then v else x.2 42 k := by
  intro f
  induction f with
  | zero => intro w x g1 g2; omega
  | succ f ih =>
    intro w x g1 g2
    rw [f_J7_fill_d0a16_l6, show (229 : Int32) = iI 229 from rfl, it_le (by omega) (by omega) (by omega) (by omega)]
    by_cases c : (229 : Int) ≤ w
    · rw [if_pos c]
      refine ⟨x, rfl, rfl, fun _ _ => rfl, fun k hk => ?_⟩
      rw [if_neg (by omega)]
    · rw [if_neg c, i_gd (by omega) (by omega) (by decide), i_clN (by omega), q_nm, i_1, q_nm]
      obtain ⟨x', e1, e2, e3, e4⟩ := ih (w + 1) (sl x 42 w v) (by omega) (by omega)
      refine ⟨x', e1, e2, fun r hr => (e3 r hr).trans (sl_n hr), fun k hk => ?_⟩
      rw [e4 k hk, sl_s]
      by_cases q : k = w
      · subst q
        rw [if_neg (by omega), if_pos (by omega), pk_uLs]
      · rw [pk_uLn q]
        split <;> split <;> first | rfl | omega
theorem clear_7 {n : Nat} (hn : 40000 ≤ n) (x : SX) : ∃ x' : SX, f_X2_clear_7 n x = some x' ∧ x'.1 = x.1 ∧ (∀ r, r ≠ 42 → x'.2 r = x.2 r) ∧ ∀ d : Nat, d < 14656 → lbit (x'.2 42) d = false := by
  obtain ⟨x', e1, e2, e3, e4⟩ := fill_l (v := 0) n 0 x (by omega) (by omega)
  refine ⟨x', ?_, e2, e3, fun d hd => ?_⟩
  · unfold f_X2_clear_7 f_J7_fill_d0a16
    have e1 : f_J7_fill_d0a16_l6 0 n 0 x = some x' := e1
    rw [e1]
    rfl
  · unfold lbit
    rw [e4 _ (by omega), if_pos (by omega)]
    exact BitVec.getLsbD_zero
theorem swo_l {n : Nat} {x : SX} {P : Nat → Bool} (hP : ∀ d : Nat, d < 14656 → P d = (lbit (x.2 42) d && !lbit (x.2 40) d)) : ∀ (f w : Nat), w ≤ 229 → 229 < w + f → f_X2_sizeWithout_7_l4 n x f (nI (fb_ct P (64 * w))) (iI w) = some (nI (fb_ct P 14656)) := by
  intro f
  induction f with
  | zero => intro w g1 g2; omega
  | succ f ih =>
    intro w g1 g2
    rw [f_X2_sizeWithout_7_l4, show (229 : Int32) = iI 229 from rfl, it_le (by omega) (by omega) (by omega) (by omega)]
    by_cases c : (229 : Int) ≤ w
    · rw [if_pos c, show 64 * w = 14656 by omega]
    · rw [if_neg c, i_gd (by omega) (by omega) (by decide), i_clN (by omega), wl_bitCount, q_some, nI_add, q_nm, i_1, q_nm]
      have i := ih (w + 1) (by omega) (by omega)
      rw [show 64 * (w + 1) = 64 * w + 64 by omega, fb_ct_split] at i
      have e : fb_ct (fun i => (x.2 42 w &&& (x.2 40 w ^^^ (-1 : Int64))).toBitVec.getLsbD i) 64 = fb_ct (fun k => P (64 * w + k)) 64 := fb_ct_cong fun k hk => by
        rw [hP _ (by omega), lbit_at _ hk, lbit_at _ hk, Int64.toBitVec_and, BitVec.getLsbD_and, Int64.toBitVec_xor, BitVec.getLsbD_xor, show (-1 : Int64).toBitVec = BitVec.allOnes 64 from rfl, BitVec.getLsbD_allOnes, decide_eq_true hk, Bool.xor_true]
      rw [e]
      exact i
theorem swo {n : Nat} (hn : 40000 ≤ n) {x : SX} {P : Nat → Bool} (hP : ∀ d : Nat, d < 14656 → P d = (lbit (x.2 42) d && !lbit (x.2 40) d)) : f_X2_sizeWithout_7 n x = some (iI (fb_ct P 14656 : Nat)) := by
  rw [i_N]
  exact swo_l hP n 0 (by omega) (by omega)
theorem sw_l {n : Nat} {x : SX} {a b : Int} (h1 : 0 ≤ a) (h2 : a < 15000) (h3 : -1 ≤ b) (h4 : b < 14656) {P : Nat → Bool} (hP : ∀ d : Nat, d < 14656 → P d = (lbit (x.2 40) d && decide (a ≤ (d : Int) ∧ (d : Int) ≤ b))) : ∀ (f w : Nat), w ≤ 229 → 229 < w + f → f_X2_sizeWithin_5_l12 (iI b) n (iI a) x f (nI (fb_ct P (64 * w))) (iI w) = some (nI (fb_ct P 14656)) := by
  intro f
  induction f with
  | zero => intro w g1 g2; omega
  | succ f ih =>
    intro w g1 g2
    rw [f_X2_sizeWithin_5_l12, show (229 : Int32) = iI 229 from rfl, it_le (by omega) (by omega) (by omega) (by omega), sh6 h3 (by omega), it_lt (by omega) (by omega) (by omega) (by omega)]
    by_cases c : (229 : Int) ≤ w
    · rw [if_pos c, show 64 * w = 14656 by omega]
    · rw [if_neg c]
      by_cases c2 : b / 64 < w
      · rw [if_pos c2]
        congr 2
        rw [show 14656 = 64 * w + (14656 - 64 * w) by omega, fb_ct_split]
        have z : fb_ct (fun k => P (64 * w + k)) (14656 - 64 * w) = 0 := fb_ct_zero.mpr fun k hk => by
          rw [hP _ (by omega), decide_eq_false (by omega), Bool.and_false]
        rw [z, Nat.add_zero]
      · obtain ⟨v, e, hv⟩ := bw n (w := w) (by omega) h1 h2 h3 (by omega)
        rw [if_neg c2, i_gd (by omega) (by omega) (by decide), e, q_some, i_clN (by omega), wl_bitCount, q_some, nI_add, q_nm, i_1, q_nm]
        have i := ih (w + 1) (by omega) (by omega)
        rw [show 64 * (w + 1) = 64 * w + 64 by omega, fb_ct_split] at i
        have e : fb_ct (fun i => (x.2 40 w &&& v).toBitVec.getLsbD i) 64 = fb_ct (fun k => P (64 * w + k)) 64 := fb_ct_cong fun k hk => by
          rw [hP _ (by omega), lbit_at _ hk, Int64.toBitVec_and, BitVec.getLsbD_and, hv k hk]
        rw [e]
        exact i
theorem sw5 {n : Nat} (hn : 40000 ≤ n) {x : SX} {a b : Int} (h1 : 0 ≤ a) (h2 : a < 14656) (h3 : -1 ≤ b) (h4 : b < 14656) {P : Nat → Bool} (hP : ∀ d : Nat, d < 14656 → P d = (lbit (x.2 40) d && decide (a ≤ (d : Int) ∧ (d : Int) ≤ b))) : f_X2_sizeWithin_5 n x (iI a) (iI b) = some (iI (fb_ct P 14656 : Nat)) := by
  have z : fb_ct P (64 * (a / 64).toNat) = 0 := fb_ct_zero.mpr fun k hk => by
    rw [hP _ (by omega), decide_eq_false (by omega), Bool.and_false]
  have e := sw_l (n := n) h1 (by omega) h3 h4 hP n (a / 64).toNat (by omega) (by omega)
  rw [z, show (((a / 64).toNat : Nat) : Int) = a / 64 by omega] at e
  unfold f_X2_sizeWithin_5
  rw [i_0, it_lt (by omega) (by omega) (by omega) (by omega), if_neg (by omega), sh6 (by omega) (by omega), q_nm, i_N]
  exact e
theorem pastS {n : Nat} {x : SX} {A : AA} (h : WF A) (hW : WX x A) {d : Nat} (hd : d < 14656) : f_X6_pastStatus n x (iI d) = some (iI (A 12 d)) := by
  obtain ⟨w1, w2⟩ := hW d hd
  have w := (h.2.2.2.2.2.2.2.2.2.2.1 d).1
  unfold f_X6_pastStatus
  rw [has_5 hd, has_6 hd, w1, w2, q_some]
  rcases w with w | w | w <;> rw [w] <;> rfl
