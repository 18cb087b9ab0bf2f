/-! ===== the history as text ===== -/
theorem fig_s {m : Nat} {a v : Int} (h1 : 0 ≤ v) (h2 : v < 1000000) : f_X7_figures_l4 (m + 1) (iI a) (iI v) = if v ≤ 9 then some (iI a) else f_X7_figures_l4 m (iI (a + 1)) (iI (v / 10)) := by
  rw [f_X7_figures_l4, show (9 : Int32) = iI 9 from rfl, it_le (by omega) (by omega) (by omega) (by omega), i_1, show (10 : Int32) = iI 10 from rfl, i_div h1 (by omega) (by omega) (by omega)]
  rfl
theorem fig {n : Nat} (hn : 40000 ≤ n) {v : Nat} (hv : v < 100000) : f_X7_figures n (iI v) = some (iI (sb_dg v : Nat)) := by
  obtain ⟨m, rfl⟩ : ∃ m, n = m + 5 := ⟨n - 5, by omega⟩
  unfold f_X7_figures sb_dg
  rw [show (1 : Int32) = iI 1 from rfl, fig_s (by omega) (by omega)]
  by_cases c1 : v < 10
  · rw [if_pos (by omega), if_pos c1]; rfl
  rw [if_neg (by omega), if_neg c1, fig_s (by omega) (by omega)]
  by_cases c2 : v < 100
  · rw [if_pos (by omega), if_pos c2]; rfl
  rw [if_neg (by omega), if_neg c2, fig_s (by omega) (by omega)]
  by_cases c3 : v < 1000
  · rw [if_pos (by omega), if_pos c3]; rfl
  rw [if_neg (by omega), if_neg c3, fig_s (by omega) (by omega)]
  by_cases c4 : v < 10000
  · rw [if_pos (by omega), if_pos c4]; rfl
  rw [if_neg (by omega), if_neg c4, fig_s (by omega) (by omega), if_pos (by omega), if_pos hv]; rfl
theorem cut16 : ∀ u, u < 128 → ((nI u).toUInt32 % 65536).toInt32 = nI u ∧ qch (nI u) = true := by decide +kernel
theorem sg_l {m : Nat} : ∀ (f v q : Nat), v < 1000000 → q ≤ m → m < 100 → m < q + f → f_X7_signOf_l52 (iI m) f (iI v) (iI q) = some (nI (48 + v / 10 ^ (m - q) % 10)) := by
  intro f
  induction f with
  | zero => intro v q a1 a2 a3 a4; omega
  | succ f ih =>
    intro v q a1 a2 a3 a4
    rw [f_X7_signOf_l52, it_le (by omega) (by omega) (by omega) (by omega)]
    by_cases c : (m : Int) ≤ q
    · have e : m - q = 0 := by omega
      have hm : 48 + v % 10 < 128 := by omega
      rw [if_pos c, show (10 : Int32) = iI 10 from rfl, i_rem (by omega) (by omega) (by omega) (by omega), show (48 : Int32) = iI 48 from rfl, i_add, show (48 : Int) + (v : Int) % 10 = ((48 + v % 10 : Nat) : Int) by omega, i_N, (cut16 _ hm).1, (cut16 _ hm).2, q_gdt, e, Nat.pow_zero, Nat.div_one]
    · rw [if_neg c, show (10 : Int32) = iI 10 from rfl, i_div (by omega) (by omega) (by omega) (by omega), q_nm, i_1, q_nm]
      have i := ih (v / 10) (q + 1) (by omega) (by omega) a3 (by omega)
      rw [Nat.div_div_eq_div_mul, show 10 * 10 ^ (m - (q + 1)) = 10 ^ (m - q) by rw [← Nat.pow_succ', show (m - (q + 1)).succ = m - q by omega]] at i
      exact i
theorem sgn {n : Nat} (hn : 40000 ≤ n) {a : Int32} {L p : Nat} (hL : L < 100000) (hp : p ≤ sb_dg L + 1) : f_X7_signOf n a (iI L) (iI p) = some (nI (if p = 0 then wrc a else if p ≤ sb_dg L then sb_dec L (p - 1) else 32)) := by
  have hd := sb_dg_in L
  unfold f_X7_signOf
  rw [fig hn hL, q_some, i_0, it_eq (by omega) (by omega) (by omega) (by omega), it_le (by omega) (by omega) (by omega) (by omega), it_le (by omega) (by omega) (by omega) (by omega)]
  by_cases c : p = 0
  · rw [if_pos (by omega), if_pos (by omega), if_pos c]
    unfold wrc
    by_cases c1 : a = 2
    · rw [if_pos c1, if_pos c1]; rfl
    · rw [if_neg c1, if_neg c1]
      by_cases c2 : a = 1
      · rw [if_pos c2, if_pos c2]; rfl
      · rw [if_neg c2, if_neg c2]; rfl
  · rw [if_neg (show ¬ (p : Int) = 0 by omega), if_neg c]
    by_cases c1 : p ≤ sb_dg L
    · rw [if_pos (by omega), if_pos c1, sg_l n L p (by omega) c1 (by omega) (by omega)]
      unfold sb_dec
      rw [show sb_dg L - 1 - (p - 1) = sb_dg L - p by omega]
    · rw [if_neg (show ¬ (p : Int) ≤ (sb_dg L : Nat) by omega), if_neg c1, if_neg (by omega)]
      rfl
/-! runs -/
def IsR (ps : Nat → Int32) (D b L : Nat) : Prop := 1 ≤ L ∧ b + L ≤ D ∧ (∀ j, b ≤ j → j < b + L → ps j = ps b) ∧ (b + L < D → ps (b + L) ≠ ps b)
theorem run_l {z : SX} {A : AA} (hz : MZ z A) {D b : Nat} {ps : Nat → Int32} (hD : (D : Int) = A 0 26) (hD2 : D ≤ 14609) (hps : ∀ j, j < D → ps j = iI (A 12 j)) (hb : b < D) : ∀ (f e : Nat), b ≤ e → e ≤ D → D < e + f → (∀ j, b ≤ j → j < e → ps j = ps b) → ∃ L : Nat, f_X7_runFrom_l2 z (iI b) f (iI e) = some (iI L) ∧ b + L ≤ D ∧ (∀ j, b ≤ j → j < b + L → ps j = ps b) ∧ (b + L < D → ps (b + L) ≠ ps b) := by
  intro f
  induction f with
  | zero => intro e a1 a2 a3; omega
  | succ f ih =>
    intro e a1 a2 a3 a4
    have done : (e < D → ps e ≠ ps b) → ∃ L : Nat, some (iI (e : Int) - iI (b : Int)) = some (iI L) ∧ b + L ≤ D ∧ (∀ j, b ≤ j → j < b + L → ps j = ps b) ∧ (b + L < D → ps (b + L) ≠ ps b) := fun q => by
      refine ⟨e - b, ?_, by omega, fun j j1 j2 => a4 j j1 (by omega), fun q2 => ?_⟩
      · rw [i_sub]
        congr 2
        omega
      · rw [show b + (e - b) = e by omega]
        exact q (by omega)
    rw [f_X7_runFrom_l2, hz 0 26 rfl, ← hD, it_le (by omega) (by omega) (by omega) (by omega)]
    by_cases c : (D : Int) ≤ e
    · rw [if_pos c]
      exact done fun q => by omega
    · rw [if_neg c, i_gd (a := (e : Int)) (by omega) (by omega) (by decide), i_gd (a := (b : Int)) (by omega) (by omega) (by decide), i_clN (t := e) (by omega), i_clN (t := b) (by omega), hz 12 e rfl, hz 12 b rfl, ← hps e (by omega), ← hps b hb]
      by_cases c2 : ps e = ps b
      · rw [if_pos c2, i_1, q_nm]
        exact ih (e + 1) (by omega) (by omega) (by omega) fun j j1 j2 => by
          by_cases q : j = e
          · rw [q]; exact c2
          · exact a4 j j1 (by omega)
      · rw [if_neg c2]
        exact done fun _ => c2
theorem run_f {n : Nat} (hn : 40000 ≤ n) {z : SX} {A : AA} (hz : MZ z A) {D b : Nat} {ps : Nat → Int32} (hD : (D : Int) = A 0 26) (hD2 : D ≤ 14609) (hps : ∀ j, j < D → ps j = iI (A 12 j)) (hb : b < D) : ∃ L : Nat, f_X7_runFrom n z (iI b) = some (iI L) ∧ IsR ps D b L := by
  obtain ⟨L, l1, l2, l3, l4⟩ := run_l hz hD hD2 hps hb n b (Nat.le_refl _) (by omega) (by omega) (fun j j1 j2 => by omega)
  refine ⟨L, l1, ?_, l2, l3, l4⟩
  refine Classical.byContradiction fun q => ?_
  have e : L = 0 := by omega
  rw [e] at l4
  exact l4 hb rfl
/-- a run begins on day b: what is written then is T, K signs -/
def RS (ps : Nat → Int32) (b : Nat) (T : Nat → Nat) (K : Nat) : Prop := hs ps (b + 1) = (b, ps b, T, K)
theorem RS_0 (ps : Nat → Int32) : RS ps 0 (fun _ => 0) 0 := by
  unfold RS
  rw [hs, if_neg (fun q => Nat.lt_irrefl 0 q.2)]
  rfl
theorem RS_in {ps : Nat → Int32} {D b L : Nat} {T : Nat → Nat} {K : Nat} (h : RS ps b T K) (hL : IsR ps D b L) : ∀ j, 1 ≤ j → j ≤ L → hs ps (b + j) = (b, ps b, T, K) := by
  intro j
  induction j with
  | zero => intro q; omega
  | succ j ih =>
    intro _ q2
    by_cases c : j = 0
    · rw [c]; exact h
    · have i := ih (by omega) (by omega)
      show hs ps (b + j + 1) = _
      rw [hs, i]
      have e := hL.2.2.1 (b + j) (by omega) (by omega)
      rw [if_neg (fun q => q.1 e), e]
theorem RS_n {ps : Nat → Int32} {D b L : Nat} {T : Nat → Nat} {K : Nat} (h : RS ps b T K) (hL : IsR ps D b L) (hlt : b + L < D) : RS ps (b + L) (wrT T K (ps b) L) (wrK K L) := by
  have i := RS_in h hL L hL.1 (Nat.le_refl _)
  unfold RS
  rw [hs, i]
  have h1 := hL.1
  rw [if_pos ⟨hL.2.2.2 hlt, show b < b + L by omega⟩, show b + L - (b, ps b, T, K).1 = L from Nat.add_sub_cancel_left b L]
theorem RS_e {ps : Nat → Int32} {D b L : Nat} {T : Nat → Nat} {K : Nat} (h : RS ps b T K) (hL : IsR ps D b L) (he : b + L = D) : hsT ps D = wrT T K (ps b) L ∧ hsK ps D = wrK K L := by
  have i := RS_in h hL L hL.1 (Nat.le_refl _)
  have h1 := hL.1
  unfold hsT hsK
  rw [← he, i, if_pos (by omega), if_pos (by omega)]
  show wrT T K (ps b) (b + L - b) = _ ∧ wrK K (b + L - b) = _
  rw [Nat.add_sub_cancel_left]
  exact ⟨rfl, rfl⟩
theorem wk_le (K : Nat) : K ≤ wk1 K ∧ wk1 K ≤ K + 1 := by
  unfold wk1
  split <;> omega
theorem wrT_lo {T : Nat → Nat} {K d i : Nat} {a : Int32} (hi : i < K) : wrT T K a d i = T i := by
  have hw := wk_le K
  unfold wrT sb_cat wr1
  rw [if_pos (by omega), if_pos (by omega), if_pos (by omega)]
  unfold sb_cat
  rw [if_pos hi]
theorem wrT_bl {T : Nat → Nat} {K d : Nat} {a : Int32} (hK : 0 < K) : wrT T K a d K = 32 := by
  unfold wrT sb_cat wr1 wk1
  rw [if_pos hK, if_pos hK, if_pos (by omega), if_pos (by omega)]
  unfold sb_cat
  rw [if_neg (by omega)]
theorem wrT_hi {T : Nat → Nat} {K d p : Nat} {a : Int32} : wrT T K a d (wk1 K + p) = if p = 0 then wrc a else sb_dec d (p - 1) := by
  unfold wrT sb_cat
  by_cases c : p = 0
  · rw [if_pos (by omega), if_neg (by omega), if_pos c]
  · rw [if_neg (by omega), if_neg c]
    congr 1
    omega
/-- what is written stays -/
theorem txt_lo {ps : Nat → Int32} {D : Nat} (hrun : ∀ b, b < D → ∃ L, IsR ps D b L) : ∀ (m b : Nat) (T : Nat → Nat) (K : Nat), D - b < m → b < D → RS ps b T K → ∀ i, i < K → hsT ps D i = T i := by
  intro m
  induction m with
  | zero => intro b T K q; omega
  | succ m ih =>
    intro b T K q hb h i hi
    obtain ⟨L, hL⟩ := hrun b hb
    have h1 := hL.1
    by_cases c : b + L = D
    · rw [(RS_e h hL c).1, wrT_lo hi]
    · have hlt : b + L < D := by have := hL.2.1; omega
      have hw := wk_le K
      rw [ih (b + L) _ _ (by omega) hlt (RS_n h hL hlt) i (by unfold wrK; omega), wrT_lo hi]
theorem txt_at {ps : Nat → Int32} {D : Nat} (hrun : ∀ b, b < D → ∃ L, IsR ps D b L) {b L : Nat} {T : Nat → Nat} {K : Nat} (hb : b < D) (h : RS ps b T K) (hL : IsR ps D b L) : (∀ i, i < wrK K L → hsT ps D i = wrT T K (ps b) L i) ∧ (b + L < D → hsT ps D (wrK K L) = 32) := by
  refine ⟨fun i hi => ?_, fun hlt => ?_⟩
  · by_cases c : b + L = D
    · rw [(RS_e h hL c).1]
    · have hlt : b + L < D := by have := hL.2.1; omega
      exact txt_lo hrun (D + 1) (b + L) _ _ (by omega) hlt (RS_n h hL hlt) i hi
  · have hn := RS_n h hL hlt
    obtain ⟨L', hL'⟩ := hrun (b + L) hlt
    have hK : 0 < wrK K L := by unfold wrK; omega
    have hw := wk_le (wrK K L)
    by_cases c : b + L + L' = D
    · rw [(RS_e hn hL' c).1, wrT_bl hK]
    · have hlt' : b + L + L' < D := by have := hL'.2.1; omega
      rw [txt_lo hrun (D + 1) (b + L + L') _ _ (by omega) hlt' (RS_n hn hL' hlt') (wrK K L) (by
        show wrK K L < wk1 (wrK K L) + 1 + sb_dg L'
        omega), wrT_bl hK]
theorem hsK_le {ps : Nat → Int32} {D : Nat} : hsK ps D ≤ 3 * D + 12 := by
  have hi := hs_inv ps D
  unfold hsK
  split
  · have hw := wk_le (hs ps D).2.2.2
    have hd := sb_dg_in (D - (hs ps D).1)
    unfold wrK
    omega
  · omega
/-! the model's size and signs -/
theorem size_l {n : Nat} (hn : 40000 ≤ n) {z : SX} {A : AA} (hz : MZ z A) {D : Nat} {ps : Nat → Int32} (hD : (D : Int) = A 0 26) (hD2 : D ≤ 14609) (hps : ∀ j, j < D → ps j = iI (A 12 j)) : ∀ (f b : Nat) (T : Nat → Nat) (K : Nat), b < D → D < b + f → RS ps b T K → (K = 0 ↔ b = 0) → K ≤ 3 * b → f_X7_sizeToTold_l4 z n f (iI K) (iI b) = some (iI (hsK ps D : Nat)) := by
  intro f
  induction f with
  | zero => intro b T K a1 a2; omega
  | succ f ih =>
    intro b T K a1 a2 hR hK hK3
    obtain ⟨L, r1, hL⟩ := run_f hn hz hD hD2 hps a1
    have h1 := hL.1
    have h2 := hL.2.1
    have hd := sb_dg_in L
    have hdl := dg_le h1
    rw [f_X7_sizeToTold_l4, hz 0 26 rfl, ← hD, it_le (by omega) (by omega) (by omega) (by omega), if_neg (by omega), r1, q_some, i_0, it_le (by omega) (by omega) (by omega) (by omega)]
    have e1 : (if (b : Int) ≤ 0 then some (1 : Int32) else some (2 : Int32)) = some (iI ((wk1 K - K : Nat) + 1)) := by
      unfold wk1
      by_cases c : b = 0
      · rw [if_pos (by omega), if_neg (by omega)]
        have : K = 0 := hK.mpr c
        subst this
        rfl
      · rw [if_neg (by omega), if_pos (by omega), show K + 1 - K = 1 by omega]
        rfl
    rw [e1, q_some, fig hn (by omega), q_some, i_add, i_add, q_nm, i_add, q_nm]
    have hw := wk_le K
    have ek : (K : Int) + (((wk1 K - K : Nat) : Int) + 1 + (sb_dg L : Nat)) = (wrK K L : Nat) := by unfold wrK; omega
    rw [ek]
    by_cases c : b + L = D
    · cases f with
      | zero => omega
      | succ f =>
        rw [f_X7_sizeToTold_l4, hz 0 26 rfl, ← hD, it_le (by omega) (by omega) (by omega) (by omega), if_pos (by omega), (RS_e hR hL c).2]
    · have hlt : b + L < D := by omega
      have hkk : wrK K L ≤ 3 * (b + L) := by unfold wrK; omega
      exact ih (b + L) _ _ hlt (by omega) (RS_n hR hL hlt) (by unfold wrK; omega) hkk
theorem size_f {n : Nat} (hn : 40000 ≤ n) {z : SX} {A : AA} (hz : MZ z A) {D : Nat} {ps : Nat → Int32} (hD : (D : Int) = A 0 26) (hD2 : D ≤ 14609) (hps : ∀ j, j < D → ps j = iI (A 12 j)) : f_X7_sizeToTold n z = some (iI (hsK ps D : Nat)) := by
  by_cases c : D = 0
  · obtain ⟨m, rfl⟩ : ∃ m, n = m + 1 := ⟨n - 1, by omega⟩
    unfold f_X7_sizeToTold
    rw [f_X7_sizeToTold_l4, hz 0 26 rfl, ← hD, i_0, it_le (by omega) (by omega) (by omega) (by omega), if_pos (by omega), c]
    rfl
  · exact size_l hn hz hD hD2 hps n 0 _ 0 (by omega) (by omega) (RS_0 ps) (by omega) (by omega)
theorem out_l {n : Nat} (hn : 40000 ≤ n) {z : SX} {A : AA} (hz : MZ z A) {D : Nat} {ps : Nat → Int32} (hD : (D : Int) = A 0 26) (hD2 : D ≤ 14609) (hps : ∀ j, j < D → ps j = iI (A 12 j)) {ix : Nat} (hix : ix < hsK ps D) : ∀ (f b L : Nat) (T : Nat → Nat) (K : Nat), b < D → D < b + f → RS ps b T K → IsR ps D b L → wk1 K ≤ ix → f_X7_outputAt_l39 n z f (iI (ix - wk1 K : Nat)) (iI b) (iI L) = some (nI (hsT ps D ix), z) := by
  have hrun : ∀ b, b < D → ∃ L, IsR ps D b L := fun b hb => by
    obtain ⟨L, -, hL⟩ := run_f hn hz hD hD2 hps hb
    exact ⟨L, hL⟩
  have hk := hsK_le (ps := ps) (D := D)
  intro f
  induction f with
  | zero => intro b L T K a1 a2; omega
  | succ f ih =>
    intro b L T K a1 a2 hR hL hw
    have h1 := hL.1
    have h2 := hL.2.1
    have hd := sb_dg_in L
    obtain ⟨t1, t2⟩ := txt_at hrun a1 hR hL
    have hend : b + L = D → ix < wrK K L := fun q => by rw [← (RS_e hR hL q).2]; exact hix
    have ewk : wrK K L = wk1 K + 1 + sb_dg L := rfl
    rw [f_X7_outputAt_l39, fig hn (by omega), q_some, i_1, it_le (by omega) (by omega) (by omega) (by omega)]
    by_cases c : ((ix - wk1 K : Nat) : Int) ≤ (sb_dg L : Nat) + 1
    · have hpp : qch (nI (hsT ps D ix)) = true ∧ f_X7_signOf n (ps b) (iI L) (iI (ix - wk1 K : Nat)) = some (nI (hsT ps D ix)) := by
        rw [sgn hn (by omega) (by omega)]
        have hch : hsT ps D ix = (if ix - wk1 K = 0 then wrc (ps b) else if ix - wk1 K ≤ sb_dg L then sb_dec L (ix - wk1 K - 1) else 32) := by
          by_cases c2 : ix - wk1 K ≤ sb_dg L
          · rw [t1 ix (by omega)]
            have := wrT_hi (T := T) (K := K) (d := L) (p := ix - wk1 K) (a := ps b)
            rw [show wk1 K + (ix - wk1 K) = ix by omega] at this
            rw [this, if_pos c2]
          · rw [if_neg (by omega), if_neg c2]
            have e : ix = wrK K L := by omega
            rw [e]
            refine t2 ?_
            refine Classical.byContradiction fun q => ?_
            have := hend (by omega)
            omega
        rw [hch]
        refine ⟨?_, rfl⟩
        refine (cut16 _ ?_).2
        split
        · have : wrc (ps b) < 128 := by
            unfold wrc
            split
            · decide
            · split <;> decide
          exact this
        · split
          · unfold sb_dec; omega
          · decide
      have ew : z.1 12 b = ps b := by rw [hz 12 b rfl, hps b a1]
      rw [if_pos c, f_X7_outputAt_e75, i_gd (by omega) (by omega) (by decide), i_clN (by omega), ew, hpp.2, q_some, hpp.1, q_gdt]
    · have hlt : b + L < D := by
        refine Classical.byContradiction fun q => ?_
        have := hend (by omega)
        omega
      obtain ⟨L', r1, hL'⟩ := run_f hn hz hD hD2 hps hlt
      have hwk : wk1 (wrK K L) = wrK K L + 1 := by
        have : wk1 (wrK K L) = if 0 < wrK K L then wrK K L + 1 else wrK K L := rfl
        rw [this, if_pos (by omega)]
      rw [if_neg c, q_some, show (2 : Int32) = iI 2 from rfl, i_add, i_sub, q_nm, i_add, q_nm, show ((b : Int) + L) = ((b + L : Nat) : Int) from rfl, r1, q_some, show (((ix - wk1 K : Nat) : Int) - ((sb_dg L : Nat) + 2)) = ((ix - wk1 (wrK K L) : Nat) : Int) by omega]
      exact ih (b + L) L' _ _ hlt (by omega) (RS_n hR hL hlt) hL' (by omega)
