/-! ===== changes: what follows from what ===== -/
theorem aU_r {A : AA} {r k r' : Nat} {v : Int} (h : r' ≠ r) : aU A r k v r' = A r' := if_neg h
theorem aU_s {A : AA} {r k : Nat} {v : Int} : aU A r k v r k = v := by rw [aU_ap, if_pos ⟨rfl, rfl⟩]
theorem aU_k {A : AA} {r k j : Nat} {v : Int} (h : j ≠ k) : aU A r k v r j = A r j := by rw [aU_ap, if_neg (fun q => h q.2)]
theorem up {x : SX} {A : AA} {r r2 k : Nat} {v : Int} (h : ∀ j, x.1 r j = iI (A r2 j)) : ∀ j, (si x r k (iI v)).1 r j = iI (aU A r2 k v r2 j) := fun j => by
  by_cases c : j = k
  · rw [c, sg_s, aU_s]
  · rw [sg_k c, aU_k c, h j]
/-- the rows that make what is reckoned of the terms -/
def ER1 (A B : AA) : Prop := B 17 = A 17 ∧ B 18 = A 18 ∧ B 19 = A 19 ∧ B 21 = A 21 ∧ B 22 = A 22 ∧ B 23 = A 23 ∧ B 0 6 = A 0 6
theorem ER1.lo {A B : AA} (e : ER1 A B) : lnO B = lnO A := by
  funext s t
  unfold lnO
  rw [e.2.1, e.2.2.1]
theorem ER1.st {A B : AA} (e : ER1 A B) : stZ B = stZ A := by
  funext t
  unfold stZ
  rw [e.2.2.2.1, e.2.2.2.2.1, e.lo]
theorem ER1.ln {A B : AA} (e : ER1 A B) : lnZ B = lnZ A := by
  funext t
  unfold lnZ
  rw [e.lo, e.st]
theorem ER1.pt {A B : AA} (e : ER1 A B) : ptZ B = ptZ A := by
  funext t
  unfold ptZ
  rw [e.1, e.ln]
theorem ER1.fs {A B : AA} (e : ER1 A B) : fsZ B = fsZ A := by
  funext t
  unfold fsZ rtZ
  rw [e.2.2.2.1, e.2.2.2.2.1]
theorem ER1.al {A B : AA} (e : ER1 A B) : alZ B = alZ A := by
  funext t
  unfold alZ
  rw [e.2.2.2.2.1, e.ln]
theorem ER1.ap {A B : AA} (e : ER1 A B) : apZ B = apZ A := by
  funext t
  unfold apZ
  rw [e.2.2.2.2.1, e.pt]
theorem ER1.cm {A B : AA} (e : ER1 A B) : chM B = chM A := by
  funext t
  unfold chM
  rw [e.2.2.2.2.1]
/-- and those that make the credit -/
def ER2 (A B : AA) : Prop := B 0 14 = A 0 14 ∧ B 25 = A 25 ∧ B 26 = A 26 ∧ B 27 = A 27 ∧ ∀ d : Nat, (d : Int) < A 0 1 → B 12 d = A 12 d
theorem ER2.cr {A B : AA} (h : WF A) (e : ER2 A B) (m : Nat) : crM B m = crM A m := by
  obtain ⟨e1, e2, e3, e4, e5⟩ := e
  have ec : ∀ k d, covF B m k d = covF A m k d := by
    intro k
    induction k with
    | zero => intro d; rfl
    | succ k ih => intro d; rw [covF, covF, ih, e2, e3, e4]
  refine fb_ct_cong fun d hd => ?_
  show (cov B m d && uns B d) = (cov A m d && uns A d)
  unfold cov
  rw [e1, ec]
  by_cases c : covF A m (A 0 14).toNat d = true
  · obtain ⟨j, j1, j2, j3, j4⟩ := covF_i.mp c
    have w := h.pe j (by omega)
    unfold uns
    rw [e5 d (by omega)]
  · rw [bool_f c, Bool.false_and, Bool.false_and]
theorem ER2.cd {A B : AA} (h : WF A) (e1 : ER1 A B) (e : ER2 A B) : cdZ B = cdZ A := by
  funext t
  unfold cdZ
  rw [e.cr h, e1.al, e1.cm]
theorem DX_c {x : SX} {A B : AA} (h : WF A) (e1 : ER1 A B) (e2 : ER2 A B) (hD : DX x A) : DX x B := by
  intro t h1 h2
  rw [e1.2.2.2.2.2.2] at h1
  rw [e1.2.2.2.2.2.1] at h2
  rw [e1.cm, e1.st, e1.ln, e1.fs, e1.al, e1.ap, e2.cd h e1]
  exact hD t h1 h2
/-- and the added days -/
def ER3 (A B : AA) : Prop := B 0 18 = A 0 18 ∧ B 29 = A 29 ∧ B 30 = A 30
theorem ER3.ad {A B : AA} (e1 : ER1 A B) (e : ER3 A B) : adZ B = adZ A := by
  funext t
  unfold adZ adM
  rw [e1.cm, e.1, e.2.1, e.2.2]
theorem ER3.rl {A B : AA} (h : WF A) (e1 : ER1 A B) (e2 : ER2 A B) (e : ER3 A B) : rlZ B = rlZ A := by
  funext t
  unfold rlZ rlW mxZ
  rw [e.ad e1, e1.fs, e1.al, e1.ap, e2.cd h e1]
theorem ER2.en {A B : AA} (h : WF A) (e1 : ER1 A B) (e2 : ER2 A B) : enZ B = enZ A := by
  funext t
  unfold enZ
  rw [e1.fs, e1.al, e2.cd h e1]
theorem ER2.eo {A B : AA} (h : WF A) (e1 : ER1 A B) (e2 : ER2 A B) : eoA B = eoA A := by
  unfold eoA
  rw [e1.2.2.2.2.2.1, e1.2.2.2.2.2.2, e2.en h e1]
theorem ER3.ro {A B : AA} (h : WF A) (e1 : ER1 A B) (e2 : ER2 A B) (e : ER3 A B) : roA B = roA A := by
  unfold roA
  rw [e1.2.2.2.2.2.1, e1.2.2.2.2.2.2, e.rl h e1 e2]
theorem DZ_c {z : SX} {A B : AA} (h : WF A) (e1 : ER1 A B) (e2 : ER2 A B) (e3 : ER3 A B) (hD : DZ z A) : DZ z B := by
  intro t h1 h2
  rw [e1.2.2.2.2.2.2] at h1
  rw [e1.2.2.2.2.2.1] at h2
  rw [e1.st, e1.ln, e1.pt, e1.fs, e1.al, e1.ap, e2.cd h e1, e3.ad e1, e3.rl h e1 e2, e2.en h e1]
  exact hD t h1 h2
theorem HT_c {A B : AA} {t : Nat → Nat} {k : Nat} (e : B 0 26 = A 0 26) (e2 : ∀ d : Nat, (d : Int) < A 0 26 → B 12 d = A 12 d) (h : HT A t k) : HT B t k := by
  obtain ⟨ps, D, h1, h2, h3⟩ := h
  exact ⟨ps, D, by rw [e]; exact h1, fun j hj => by rw [h2 j hj, e2 j (by omega)], h3⟩
/-! a day's award is given back -/
theorem WF_29 {A B : AA} (h : WF A) (e : ∀ r, r ≠ 29 → B r = A r) (h29 : ∀ k : Nat, (k : Int) < A 0 18 → 0 ≤ B 29 k ∧ B 29 k ≤ 42) : WF B := by
  unfold WF at h ⊢
  rw [e 0 (by decide), e 12 (by decide), e 13 (by decide), e 17 (by decide), e 18 (by decide), e 19 (by decide), e 20 (by decide), e 21 (by decide), e 22 (by decide), e 23 (by decide), e 25 (by decide), e 26 (by decide), e 27 (by decide), e 30 (by decide), e 31 (by decide)]
  obtain ⟨h1, h2, h3, h4, h5, h6, h7, h8, h9, h10, h11⟩ := h
  exact ⟨h1, h2, h3, h4, h5, h6, h7, h8, fun k hk => ⟨h29 k hk, (h9 k hk).2⟩, h10, h11⟩
theorem MX_29 {x : SX} {A : AA} {k : Nat} {v : Int} (h : MX x A) : MX (si x 35 k (iI v)) (aU A 29 k v) := by
  obtain ⟨m8, m9, m10, m17, m25, m33, m40, mR, mR0, r10, r11, r12, r13, r14, r15, r16, r30, r31, r32, r35, r36, r37⟩ := h
  unfold MX
  simp (disch := decide) only [sg_r, aU_r]
  exact ⟨m8, m9, m10, m17, m25, m33, m40, mR, mR0, r10, r11, r12, r13, r14, r15, r16, r30, r31, r32, up r35, r36, r37⟩
theorem MX_30 {x : SX} {A : AA} {k : Nat} {v : Int} (h : MX x A) : MX (si x 36 k (iI v)) (aU A 30 k v) := by
  obtain ⟨m8, m9, m10, m17, m25, m33, m40, mR, mR0, r10, r11, r12, r13, r14, r15, r16, r30, r31, r32, r35, r36, r37⟩ := h
  unfold MX
  simp (disch := decide) only [sg_r, aU_r]
  exact ⟨m8, m9, m10, m17, m25, m33, m40, mR, mR0, r10, r11, r12, r13, r14, r15, r16, r30, r31, r32, r35, up r36, r37⟩
theorem MX_31 {x : SX} {A : AA} {k : Nat} {v : Int} (h : MX x A) : MX (si x 37 k (iI v)) (aU A 31 k v) := by
  obtain ⟨m8, m9, m10, m17, m25, m33, m40, mR, mR0, r10, r11, r12, r13, r14, r15, r16, r30, r31, r32, r35, r36, r37⟩ := h
  unfold MX
  simp (disch := decide) only [sg_r, aU_r]
  exact ⟨m8, m9, m10, m17, m25, m33, m40, mR, mR0, r10, r11, r12, r13, r14, r15, r16, r30, r31, r32, r35, r36, up r37⟩
theorem MX_25 {x : SX} {A : AA} {k : Nat} {v : Int} (h : MX x A) : MX (si x 30 k (iI v)) (aU A 25 k v) := by
  obtain ⟨m8, m9, m10, m17, m25, m33, m40, mR, mR0, r10, r11, r12, r13, r14, r15, r16, r30, r31, r32, r35, r36, r37⟩ := h
  unfold MX
  simp (disch := decide) only [sg_r, aU_r]
  exact ⟨m8, m9, m10, m17, m25, m33, m40, mR, mR0, r10, r11, r12, r13, r14, r15, r16, up r30, r31, r32, r35, r36, r37⟩
theorem MX_26 {x : SX} {A : AA} {k : Nat} {v : Int} (h : MX x A) : MX (si x 31 k (iI v)) (aU A 26 k v) := by
  obtain ⟨m8, m9, m10, m17, m25, m33, m40, mR, mR0, r10, r11, r12, r13, r14, r15, r16, r30, r31, r32, r35, r36, r37⟩ := h
  unfold MX
  simp (disch := decide) only [sg_r, aU_r]
  exact ⟨m8, m9, m10, m17, m25, m33, m40, mR, mR0, r10, r11, r12, r13, r14, r15, r16, r30, up r31, r32, r35, r36, r37⟩
theorem MX_27 {x : SX} {A : AA} {k : Nat} {v : Int} (h : MX x A) : MX (si x 32 k (iI v)) (aU A 27 k v) := by
  obtain ⟨m8, m9, m10, m17, m25, m33, m40, mR, mR0, r10, r11, r12, r13, r14, r15, r16, r30, r31, r32, r35, r36, r37⟩ := h
  unfold MX
  simp (disch := decide) only [sg_r, aU_r]
  exact ⟨m8, m9, m10, m17, m25, m33, m40, mR, mR0, r10, r11, r12, r13, r14, r15, r16, r30, r31, up r32, r35, r36, r37⟩
theorem MX_018 {x : SX} {A : AA} {v : Int} (h : MX x A) : MX (si x 3 3 (iI v)) (aU A 0 18 v) := by
  obtain ⟨m8, m9, m10, m17, m25, m33, m40, mR, mR0, r10, r11, r12, r13, r14, r15, r16, r30, r31, r32, r35, r36, r37⟩ := h
  unfold MX
  simp (disch := decide) only [sg_r, sg_s, aU_r, aU_s, aU_k]
  exact ⟨m8, m9, m10, m17, m25, trivial, m40, mR, mR0, r10, r11, r12, r13, r14, r15, r16, r30, r31, r32, r35, r36, r37⟩
theorem MX_014 {x : SX} {A : AA} {v : Int} (h : MX x A) : MX (si x 2 5 (iI v)) (aU A 0 14 v) := by
  obtain ⟨m8, m9, m10, m17, m25, m33, m40, mR, mR0, r10, r11, r12, r13, r14, r15, r16, r30, r31, r32, r35, r36, r37⟩ := h
  unfold MX
  simp (disch := decide) only [sg_r, sg_s, aU_r, aU_s, aU_k]
  exact ⟨m8, m9, m10, m17, trivial, m33, m40, mR, mR0, r10, r11, r12, r13, r14, r15, r16, r30, r31, r32, r35, r36, r37⟩
