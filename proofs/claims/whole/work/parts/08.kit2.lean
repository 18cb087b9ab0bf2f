/-! ===== my kit, 2: pure words; rows over Wd ===== -/
def qgd {α : Type} (b : Bool) (x : Option α) : Option α := if b = true then x else none
theorem qgd_e {α : Type} {b : Bool} {x : Option α} {r : α} (h : qgd b x = some r) : b = true ∧ x = some r := by
  unfold qgd at h
  split at h
  · exact ⟨by assumption, h⟩
  · cases h
def qin (i : Int32) (n : Nat) : Bool := decide (0 ≤ i) && decide (i.toNatClampNeg < n)
theorem qin_vp {i : Int32} {n : Nat} (h : qin i n = true) : vp_in i n := by
  simp only [qin, Bool.and_eq_true, decide_eq_true_eq] at h
  intro q
  rcases q with q | q
  · exact Int32.not_le.mpr q h.1
  · omega
def qz (v : Int32) : Bool := decide (v = 0) || decide (v = 1)
theorem qz_n {v : Int32} (h : qz v = true) : narrow .boolean (.int v) = .int v := by
  simp only [qz, Bool.or_eq_true, decide_eq_true_eq] at h
  rcases h with rfl | rfl <;> rfl
theorem qz_v {v : Int32} (h : qz v = true) : vp_nar .boolean v = v := by
  simp only [qz, Bool.or_eq_true, decide_eq_true_eq] at h
  rcases h with rfl | rfl <;> rfl
/-- a char -/
def qch (v : Int32) : Bool := decide ((v.toUInt32 % 65536).toInt32 = v)
theorem qch_n {v : Int32} (h : qch v = true) : narrow .char (.int v) = .int v := by
  simp only [qch, decide_eq_true_eq] at h
  rw [← h]
  exact pk_nc v
def qnm {α β : Type} (v : α) (f : α → β) : β := f v
theorem qnm_k {α β : Type} {v y : α} {f : α → β} {r : β} (e : y = v) (h : qnm v f = r) : f y = r := by rw [e]; exact h
def qbd {α β : Type} (x : Option α) (f : α → Option β) : Option β := match x with
  | none => none
  | some a => f a
theorem qbd_e {α β : Type} {x : Option α} {f : α → Option β} {r : β} (h : qbd x f = some r) : ∃ a, x = some a ∧ f a = some r := by
  cases x with
  | none => cases h
  | some a => exact ⟨a, rfl, h⟩
/-- a callee that may throw (its number; 0: it returns); d: what its caller hands on then -/
def qbx {α β : Type} (x : Option (Nat × α)) (d : α → β) (f : α → Option (Nat × β)) : Option (Nat × β) := match x with
  | none => none
  | some (0, a) => f a
  | some (k + 1, a) => some (k + 1, d a)
theorem qbx_e {α β : Type} {x : Option (Nat × α)} {d : α → β} {f : α → Option (Nat × β)} {r : Nat × β} (h : qbx x d f = some r) : ∃ (k : Nat) (a : α), x = some (k, a) ∧ (k = 0 → f a = some r) ∧ (k ≠ 0 → r = (k, d a)) := by
  match x, h with
  | none, h => cases h
  | some (0, a), h => exact ⟨0, a, rfl, fun _ => h, fun q => absurd rfl q⟩
  | some (k + 1, a), h => exact ⟨k + 1, a, rfl, fun q => (by cases q), fun _ => (Option.some.inj h).symm⟩
theorem q_t {α : Type} {P : Prop} [Decidable P] {x y r : α} (c : P) (h : (if P then x else y) = r) : x = r := by rw [if_pos c] at h; exact h
theorem q_f {α : Type} {P : Prop} [Decidable P] {x y r : α} (c : ¬ P) (h : (if P then x else y) = r) : y = r := by rw [if_neg c] at h; exact h
theorem q_s {α : Type} {x y : α} (h : some x = some y) : x = y := Option.some.inj h
theorem q_s2 {α β : Type} {x y : α} {z t : β} (h : some (x, z) = some (y, t)) : x = y ∧ z = t := Prod.mk.inj (Option.some.inj h)
theorem q_s3 {α β γ : Type} {x y : α} {z t : β} {u v : γ} (h : some (x, z, u) = some (y, t, v)) : x = y ∧ z = t ∧ u = v := by cases h; exact ⟨rfl, rfl, rfl⟩
theorem q_s4 {α β γ δ : Type} {x y : α} {z t : β} {u v : γ} {g h : δ} (q : some (x, z, u, g) = some (y, t, v, h)) : x = y ∧ z = t ∧ u = v ∧ g = h := by cases q; exact ⟨rfl, rfl, rfl, rfl⟩
abbrev SX : Type := (Nat → Nat → Int32) × (Nat → Nat → Int64)
def sr (x : SX) (r : Nat) (f : Nat → Int32) : SX := (fun k => if k = r then f else x.1 k, x.2)
def slr (x : SX) (r : Nat) (f : Nat → Int64) : SX := (x.1, fun k => if k = r then f else x.2 k)
abbrev si (x : SX) (r k : Nat) (v : Int32) : SX := sr x r (upd (x.1 r) k v)
abbrev sl (x : SX) (r k : Nat) (v : Int64) : SX := slr x r (vp_updL (x.2 r) k v)
section KITR
variable {p : Program} {l : Launch} {e : Env} {R : Room} {s : State} {m : MethodId} {args : Array Value} {below : List Frame} {meth : Method} {c : Code} {H : Heap} {locs : List Loc} {cells slots : Nat} {Q : State → Prop}
variable {cc : ByteArray} {pc : Nat} {ls : Array Slot} {rest : List Value} {nL : Nat} {Ts : List Cond} {own : String} {G : gG} {A : Nat → Prop} {w w' : va_W} {a n : Nat}
theorem k_ild (F : CallFix p m c cc nL s args Ts own) (hw : Wd G w A s H locs) (q0 : Nat) {f : Nat → Int32} (ha : w[q0]? = some (a, .inl (G.2 0, n, .inl f))) {i : Int32} (hin : qin i n = true) (hdg : decode cc pc = .ok (.iaload, 1))
    (kk : W p l e R s m args below meth c H locs cells slots Q (F0 m (pc + 1) ls (.int (f i.toNatClampNeg) :: rest))) : W p l e R s m args below meth c H locs cells slots Q (F0 m pc ls (.int i :: .ref a :: rest)) :=
  va_iald F.1 F.2.1 hw.1 hw.2.1 q0 0 ha rfl (qin_vp hin) hdg kk
theorem k_zld (F : CallFix p m c cc nL s args Ts own) (hw : Wd G w A s H locs) (q0 : Nat) {f : Nat → Int32} (ha : w[q0]? = some (a, .inl (G.2 2, n, .inl f))) {i : Int32} (hin : qin i n = true) (hdg : decode cc pc = .ok (.baload, 1))
    (kk : W p l e R s m args below meth c H locs cells slots Q (F0 m (pc + 1) ls (.int (f i.toNatClampNeg) :: rest))) : W p l e R s m args below meth c H locs cells slots Q (F0 m pc ls (.int i :: .ref a :: rest)) :=
  va_zald F.1 F.2.1 hw.1 hw.2.1 q0 2 ha rfl (qin_vp hin) hdg kk
theorem k_bld (F : CallFix p m c cc nL s args Ts own) (hw : Wd G w A s H locs) (q0 : Nat) {f : Nat → Int32} (ha : w[q0]? = some (a, .inl (G.2 3, n, .inl f))) {i : Int32} (hin : qin i n = true) (hdg : decode cc pc = .ok (.baload, 1))
    (kk : W p l e R s m args below meth c H locs cells slots Q (F0 m (pc + 1) ls (.int (f i.toNatClampNeg) :: rest))) : W p l e R s m args below meth c H locs cells slots Q (F0 m pc ls (.int i :: .ref a :: rest)) :=
  va_bald F.1 F.2.1 hw.1 hw.2.1 q0 3 ha rfl (qin_vp hin) hdg kk
theorem k_lld (F : CallFix p m c cc nL s args Ts own) (hw : Wd G w A s H locs) (q0 : Nat) {f : Nat → Int64} (ha : w[q0]? = some (a, .inl (G.2 1, n, .inr (.inl f)))) {i : Int32} (hin : qin i n = true) (hdg : decode cc pc = .ok (.laload, 1))
    (kk : W p l e R s m args below meth c H locs cells slots Q (F0 m (pc + 1) ls (.long (f i.toNatClampNeg) :: rest))) : W p l e R s m args below meth c H locs cells slots Q (F0 m pc ls (.int i :: .ref a :: rest)) :=
  va_lald F.1 F.2.1 hw.1 hw.2.1 q0 1 ha rfl (qin_vp hin) hdg kk
theorem k_ist (F : CallFix p m c cc nL s args Ts own) (hw : Wd G w A s H locs) (q0 : Nat) {f : Nat → Int32} (ha : w[q0]? = some (a, .inl (G.2 0, n, .inl (f)))) {i : Int32} {x : Int32} (hin : qin i n = true) (hw' : w.set q0 (a, .inl (G.2 0, n, .inl (upd f i.toNatClampNeg x))) = w') (hdg : decode cc pc = .ok (.iastore, 1))
    (kk : ∀ (H1 : Heap) (locs1 : List Loc), Wd G w' A s H1 locs1 → W p l e R s m args below meth c H1 locs1 cells slots Q (F0 m (pc + 1) ls rest)) : W p l e R s m args below meth c H locs cells slots Q (F0 m pc ls (.int x :: .int i :: .ref a :: rest)) := by
  obtain ⟨hK, hP, hD, hS, hA⟩ := hw
  exact va_iast F.1 F.2.1 hK hP hD hS q0 0 ha rfl (qin_vp hin) hdg fun H1 locs1 h1 h2 h3 => by
    exact kk H1 locs1 ⟨hK, hw' ▸ h1, hw' ▸ h2, h3, hA⟩
theorem k_zst (F : CallFix p m c cc nL s args Ts own) (hw : Wd G w A s H locs) (q0 : Nat) {f : Nat → Int32} (ha : w[q0]? = some (a, .inl (G.2 2, n, .inl (f)))) {i : Int32} {x : Int32} (hin : qin i n = true) (hx : vp_nar .boolean x = x) (hw' : w.set q0 (a, .inl (G.2 2, n, .inl (upd f i.toNatClampNeg x))) = w') (hdg : decode cc pc = .ok (.bastore, 1))
    (kk : ∀ (H1 : Heap) (locs1 : List Loc), Wd G w' A s H1 locs1 → W p l e R s m args below meth c H1 locs1 cells slots Q (F0 m (pc + 1) ls rest)) : W p l e R s m args below meth c H locs cells slots Q (F0 m pc ls (.int x :: .int i :: .ref a :: rest)) := by
  obtain ⟨hK, hP, hD, hS, hA⟩ := hw
  exact va_zast F.1 F.2.1 hK hP hD hS q0 2 ha rfl (qin_vp hin) hdg fun H1 locs1 h1 h2 h3 => by
    rw [hx] at h1 h2; exact kk H1 locs1 ⟨hK, hw' ▸ h1, hw' ▸ h2, h3, hA⟩
theorem k_bst (F : CallFix p m c cc nL s args Ts own) (hw : Wd G w A s H locs) (q0 : Nat) {f : Nat → Int32} (ha : w[q0]? = some (a, .inl (G.2 3, n, .inl (f)))) {i : Int32} {x : Int32} (hin : qin i n = true) (hx : vp_nar .byte x = x) (hw' : w.set q0 (a, .inl (G.2 3, n, .inl (upd f i.toNatClampNeg x))) = w') (hdg : decode cc pc = .ok (.bastore, 1))
    (kk : ∀ (H1 : Heap) (locs1 : List Loc), Wd G w' A s H1 locs1 → W p l e R s m args below meth c H1 locs1 cells slots Q (F0 m (pc + 1) ls rest)) : W p l e R s m args below meth c H locs cells slots Q (F0 m pc ls (.int x :: .int i :: .ref a :: rest)) := by
  obtain ⟨hK, hP, hD, hS, hA⟩ := hw
  exact va_bast F.1 F.2.1 hK hP hD hS q0 3 ha rfl (qin_vp hin) hdg fun H1 locs1 h1 h2 h3 => by
    rw [hx] at h1 h2; exact kk H1 locs1 ⟨hK, hw' ▸ h1, hw' ▸ h2, h3, hA⟩
theorem k_lst (F : CallFix p m c cc nL s args Ts own) (hw : Wd G w A s H locs) (q0 : Nat) {f : Nat → Int64} (ha : w[q0]? = some (a, .inl (G.2 1, n, .inr (.inl (f))))) {i : Int32} {x : Int64} (hin : qin i n = true) (hw' : w.set q0 (a, .inl (G.2 1, n, .inr (.inl (vp_updL f i.toNatClampNeg x)))) = w') (hdg : decode cc pc = .ok (.lastore, 1))
    (kk : ∀ (H1 : Heap) (locs1 : List Loc), Wd G w' A s H1 locs1 → W p l e R s m args below meth c H1 locs1 cells slots Q (F0 m (pc + 1) ls rest)) : W p l e R s m args below meth c H locs cells slots Q (F0 m pc ls (.long x :: .int i :: .ref a :: rest)) := by
  obtain ⟨hK, hP, hD, hS, hA⟩ := hw
  exact va_last F.1 F.2.1 hK hP hD hS q0 1 ha rfl (qin_vp hin) hdg fun H1 locs1 h1 h2 h3 => by
    exact kk H1 locs1 ⟨hK, hw' ▸ h1, hw' ▸ h2, h3, hA⟩
theorem k_get (F : CallFix p m c cc nL s args Ts own) (hw : Wd G w A s H locs) {C ref : String} {T : u_T} {N ci index : Nat} (hin : ∀ q ∈ u_ws C T N, q ∈ Ts) (q0 : Nat) {fs : List Value} (he : w[q0]? = some (a, .inr (ci, fs))) (hc : vwCl[ci]? = some (C, T, N)) (k : Nat) (hk : k < N) (hlink : Cond.fieldLink own index ref (T k).2.1 (T k).2.2.1 ∈ Ts) (hsame : (T k).1 = ref) {v : Value} (hv : fs[k]? = some v) (hdg : decode cc pc = .ok (.getfield index, 3))
    (kk : W p l e R s m args below meth c H locs cells slots Q (F0 m (pc + 3) ls (v :: rest))) : W p l e R s m args below meth c H locs cells slots Q (F0 m pc ls (.ref a :: rest)) :=
  va_get (D := G.1) (cl := vwCl) F.1 F.2.1 F.2.2.2.2 hin F.2.2.2.1 hw.1 hw.2.1 q0 he hc k hk (F.2.2.2.2 _ hlink) (fun x h => by rw [← hsame]; exact h) hv hdg kk
theorem k_put (F : CallFix p m c cc nL s args Ts own) (hw : Wd G w A s H locs) {C ref : String} {T : u_T} {N ci index : Nat} (hin : ∀ q ∈ u_ws C T N, q ∈ Ts) (ty0 : Nat → FieldType) (hty : ∀ k, k < N → parseFieldDescriptor (T k).2.2.1 = some (ty0 k)) (hnm : ∀ a, a < N → ∀ b, b < N → a ≠ b → (T a).2.1 ≠ (T b).2.1) (q0 : Nat) {fs : List Value} (he : w[q0]? = some (a, .inr (ci, fs))) (hc : vwCl[ci]? = some (C, T, N)) (k : Nat) (hk : k < N) (hlink : Cond.fieldLink own index ref (T k).2.1 (T k).2.2.1 ∈ Ts) (hsame : (T k).1 = ref) (hfin : (T k).2.2.2 = false) {ty : FieldType} {v : Value} (hd : parseFieldDescriptor (T k).2.2.1 = some ty) (hn : narrow ty v = v) (hfit : fits ty v = true) (hl : k < fs.length) (hw' : w.set q0 (a, .inr (ci, fs.set k v)) = w') (hdg : decode cc pc = .ok (.putfield index, 3))
    (kk : ∀ (H1 : Heap) (locs1 : List Loc), Wd G w' A s H1 locs1 → W p l e R s m args below meth c H1 locs1 cells slots Q (F0 m (pc + 3) ls rest)) : W p l e R s m args below meth c H locs cells slots Q (F0 m pc ls (v :: .ref a :: rest)) := by
  obtain ⟨hK, hP, hD, hS, hA⟩ := hw
  exact va_put (D := G.1) (cl := vwCl) F.1 F.2.1 F.2.2.2.2 hin ty0 hty hnm F.2.2.2.1 hK hP hD hS q0 he hc k hk (F.2.2.2.2 _ hlink) (fun x h => by rw [← hsame]; exact h) hfin hd hn hfit hl hdg fun H1 locs1 h1 h2 h3 => kk H1 locs1 ⟨hK, hw' ▸ h1, hw' ▸ h2, h3, hA⟩
theorem k_iret (F : CallFix p m c cc nL s args Ts own) (hr : meth.sig.returnType = some .int) (hlk : meth.locks = false) (hw : Wd G w A s H locs) {v : Int32} {mc ms : Nat} (hc : cells ≤ mc) (hs : slots ≤ ms) (hdg : decode cc pc = .ok (.ireturn, 1)) : W p l e R s m args below meth c H locs cells slots (KQI G below args s A w v mc ms) (F0 m pc ls [.int v]) := by
  obtain ⟨hK, hP, hD, hS, hA⟩ := hw
  refine W.widen hc hs ?_
  exact W.iret F.1 F.2.1 hr (fun t ht hW => ⟨⟨v, (), rfl, rfl, ⟨by rw [ht]; exact hP, hD⟩⟩, hS.F ht⟩) hS.2.2 hdg hlk
theorem k_zret (F : CallFix p m c cc nL s args Ts own) {ty : FieldType} (hr : meth.sig.returnType = some ty) (hlk : meth.locks = false) (hw : Wd G w A s H locs) {v : Int32} {mc ms : Nat} (hn : narrow ty (.int v) = .int v) (hc : cells ≤ mc) (hs : slots ≤ ms) (hdg : decode cc pc = .ok (.ireturn, 1)) : W p l e R s m args below meth c H locs cells slots (KQI G below args s A w v mc ms) (F0 m pc ls [.int v]) := by
  obtain ⟨hK, hP, hD, hS, hA⟩ := hw
  refine W.widen hc hs ?_
  exact W.zret F.1 F.2.1 hr hn (fun t ht hW => ⟨⟨v, (), rfl, rfl, ⟨by rw [ht]; exact hP, hD⟩⟩, hS.F ht⟩) hS.2.2 hdg hlk
theorem k_lret (F : CallFix p m c cc nL s args Ts own) (hr : meth.sig.returnType = some .long) (hlk : meth.locks = false) (hw : Wd G w A s H locs) {v : Int64} {mc ms : Nat} (hc : cells ≤ mc) (hs : slots ≤ ms) (hdg : decode cc pc = .ok (.lreturn, 1)) : W p l e R s m args below meth c H locs cells slots (KQJ G below args s A w v mc ms) (F0 m pc ls [.long v]) := by
  obtain ⟨hK, hP, hD, hS, hA⟩ := hw
  refine W.widen hc hs ?_
  exact W.lret F.1 F.2.1 hr (fun t ht hW => ⟨⟨v, (), rfl, rfl, ⟨by rw [ht]; exact hP, hD⟩⟩, hS.F ht⟩) hS.2.2 hdg hlk
theorem k_vret (F : CallFix p m c cc nL s args Ts own) (hr : meth.sig.returnType = none) (hlk : meth.locks = false) (hw : Wd G w A s H locs) {mc ms : Nat} (hc : cells ≤ mc) (hs : slots ≤ ms) (hdg : decode cc pc = .ok (.return_, 1)) : W p l e R s m args below meth c H locs cells slots (KQV G below args s A w mc ms) (F0 m pc ls []) := by
  obtain ⟨hK, hP, hD, hS, hA⟩ := hw
  refine W.widen hc hs ?_
  exact W.vret F.1 F.2.1 hr (fun t ht hW => ⟨⟨(), rfl, trivial, ⟨by rw [ht]; exact hP, hD⟩⟩, hS.F ht⟩) hS.2.2 hdg hlk
theorem k_mmax (F : CallFix p m c cc nL s args Ts own) (hT : ∀ q ∈ BIG, q ∈ Ts) {index : Nat} (hl : Cond.methodLink own index Lib.Math.max.name ∈ BIG) (h1 : Cond.static Lib.Math.max.name ∈ BIG ∧ Cond.initialized "java/lang/Math" ∈ BIG ∧ Cond.code Lib.Math.max.name Lib.Math.max.code 2 (some .int) ∈ BIG) (hls : ls.size = nL) (hR : 1 ≤ R.frames ∧ (rest.map fun v => v.category).sum + 13 ≤ R.locals ∧ cells ≤ R.cells ∧ slots ≤ R.slots) {x y : Int32} (hdg : decode cc pc = .ok (.invokestatic index, 3))
    (kk : W p l e R s m args below meth c H locs cells slots Q (F0 m (pc + 3) ls (.int (if x < y then y else x) :: rest))) : W p l e R s m args below meth c H locs cells slots Q (F0 m pc ls (.int y :: .int x :: rest)) :=
  va_mmax F.1 F.2.1 (by rw [F.2.2.1, hls]) F.2.2.2.1 (F.2.2.2.2 _ (hT _ hl)) (F.2.2.2.2 _ (hT _ h1.1)) (F.2.2.2.2 _ (hT _ h1.2.1)) (F.2.2.2.2 _ (hT _ h1.2.2)) hR.1 hR.2.1 hR.2.2.1 hR.2.2.2 hdg kk
theorem k_mmin (F : CallFix p m c cc nL s args Ts own) (hT : ∀ q ∈ BIG, q ∈ Ts) {index : Nat} (hl : Cond.methodLink own index Lib.Math.min.name ∈ BIG) (h1 : Cond.static Lib.Math.min.name ∈ BIG ∧ Cond.initialized "java/lang/Math" ∈ BIG ∧ Cond.code Lib.Math.min.name Lib.Math.min.code 2 (some .int) ∈ BIG) (hls : ls.size = nL) (hR : 1 ≤ R.frames ∧ (rest.map fun v => v.category).sum + 13 ≤ R.locals ∧ cells ≤ R.cells ∧ slots ≤ R.slots) {x y : Int32} (hdg : decode cc pc = .ok (.invokestatic index, 3))
    (kk : W p l e R s m args below meth c H locs cells slots Q (F0 m (pc + 3) ls (.int (if y < x then y else x) :: rest))) : W p l e R s m args below meth c H locs cells slots Q (F0 m pc ls (.int y :: .int x :: rest)) :=
  va_mmin F.1 F.2.1 (by rw [F.2.2.1, hls]) F.2.2.2.1 (F.2.2.2.2 _ (hT _ hl)) (F.2.2.2.2 _ (hT _ h1.1)) (F.2.2.2.2 _ (hT _ h1.2.1)) (F.2.2.2.2 _ (hT _ h1.2.2)) hR.1 hR.2.1 hR.2.2.1 hR.2.2.2 hdg kk
theorem k_callVi (F : CallFix p m c cc nL s args Ts own) (hT : ∀ q ∈ BIG, q ∈ Ts) {y : MethodName} {bytes : ByteArray} {mL : Nat} {ret : Option FieldType} {fr mc ms lo : Nat} {As : List Value} {index nn : Nat} {b : Nat} {ci : Nat} {fs : List Value} {T : u_T} {N : Nat} {w1 w2 wl wr : va_W} {rv : Int32} {st0 : List Value} (hM : MetI G l y bytes mL ret fr mc ms lo (.ref b :: As) w1 w2 rv) (hc : CalV y bytes mL ret nn) (hl : Cond.methodLink own index y ∈ BIG) (hw : Wd G (wl ++ (w1 ++ wr)) A s H locs) (q0 : Nat) (he : w1[q0]? = some (b, .inr (ci, fs))) (hci : vwCl[ci]? = some (y.cls, T, N)) (hn : As.length = nn) (hls : ls.size = nL) (hst : st0 = As.reverse ++ .ref b :: rest) (hcat : (rest.map fun v => v.category).sum ≤ 8) (hR : fr + 1 ≤ R.frames ∧ 8 + (mL + 11) + lo ≤ R.locals) (hf : cells + mc ≤ R.cells ∧ slots + ms ≤ R.slots) (hdg : decode cc pc = .ok (.invokevirtual index, 3))
    (kk : ∀ (H1 : Heap) (locs1 : List Loc), Wd G (wl ++ (w2 ++ wr)) A s H1 locs1 → W p l e R s m args below meth c H1 locs1 (cells + mc) (slots + ms) Q (F0 m (pc + 3) ls (.int rv :: rest))) : W p l e R s m args below meth c H locs cells slots Q (F0 m pc ls st0) := by
  obtain ⟨hK, hP, hD, hS, hA⟩ := hw
  have hP1 : va_P G.1 vwCl w1 H := k_Pl (k_Pr hP)
  have hD1 : va_D A w1 := k_Dl (k_Dr hD)
  have hF : ∀ q, va_A w1 H.size q → A q := fun q h => by
    rcases h with ⟨k, e, h⟩ | h
    · exact hD1.2 k _ h
    · exact hA q (Nat.le_trans hS.1 h)
  subst hst
  refine va_calli (va_runV (As := As) (rest := rest) F (hM H.size) (k_cwV (rm := rmk fr mc ms lo) F.2.2.2.2 hT hl hc hR) ⟨k_blind, va_recv hK hP1 hci he, fun U hU hW => ⟨rfl, by rw [hU], by rw [hU]; exact hP1, va_K.moved hW.alike hK, hD1.weaken (fun _ _ _ _ => trivial)⟩⟩ rfl hn hls rfl (lv_room hcat) hdg hf) hS (fun q _ h => hF q h) hF (fun r u t H1 locs1 ht hvm hpost hB hz1 hk1 hS1 => ?_)
  subst hpost
  obtain ⟨hP2, hD2⟩ := hB
  rw [ht] at hP2
  obtain ⟨h1, h2⟩ := k_frame hP hD hk1 hF hP2 hD2
  exact kk H1 locs1 ⟨hK, h1, h2, hS1, hA⟩
theorem k_callVi' (F : CallFix p m c cc nL s args Ts own) (hT : ∀ q ∈ BIG, q ∈ Ts) {y : MethodName} {bytes : ByteArray} {mL : Nat} {ret : Option FieldType} {fr mc ms lo : Nat} {As : List Value} {index nn : Nat} {b : Nat} {ci : Nat} {fs : List Value} {T : u_T} {N : Nat} {w1 w2 : va_W} {rv : Int32} {st0 : List Value} (hM : MetI G l y bytes mL ret fr mc ms lo (.ref b :: As) w1 w2 rv) (hc : CalV y bytes mL ret nn) (hl : Cond.methodLink own index y ∈ BIG) (hw : Wd G w1 A s H locs) (q0 : Nat) (he : w1[q0]? = some (b, .inr (ci, fs))) (hci : vwCl[ci]? = some (y.cls, T, N)) (hn : As.length = nn) (hls : ls.size = nL) (hst : st0 = As.reverse ++ .ref b :: rest) (hcat : (rest.map fun v => v.category).sum ≤ 8) (hR : fr + 1 ≤ R.frames ∧ 8 + (mL + 11) + lo ≤ R.locals) (hf : cells + mc ≤ R.cells ∧ slots + ms ≤ R.slots) (hdg : decode cc pc = .ok (.invokevirtual index, 3))
    (kk : ∀ (H1 : Heap) (locs1 : List Loc), Wd G w2 A s H1 locs1 → W p l e R s m args below meth c H1 locs1 (cells + mc) (slots + ms) Q (F0 m (pc + 3) ls (.int rv :: rest))) : W p l e R s m args below meth c H locs cells slots Q (F0 m pc ls st0) :=
  k_callVi (wl := []) (wr := []) F hT hM hc hl (by rw [List.append_nil]; exact hw) q0 he hci hn hls hst hcat hR hf hdg (fun H1 locs1 h => kk H1 locs1 (by rw [List.append_nil] at h; exact h))
theorem k_callSi (F : CallFix p m c cc nL s args Ts own) (hT : ∀ q ∈ BIG, q ∈ Ts) {y : MethodName} {bytes : ByteArray} {mL : Nat} {ret : Option FieldType} {fr mc ms lo : Nat} {As : List Value} {index nn : Nat} {w1 w2 wl wr : va_W} {rv : Int32} {st0 : List Value} (hM : MetI G l y bytes mL ret fr mc ms lo As w1 w2 rv) (hc : CalS y bytes mL ret nn) (hl : Cond.methodLink own index y ∈ BIG) (hw : Wd G (wl ++ (w1 ++ wr)) A s H locs) (hn : As.length = nn) (hls : ls.size = nL) (hst : st0 = As.reverse ++ rest) (hcat : (rest.map fun v => v.category).sum ≤ 8) (hR : fr + 1 ≤ R.frames ∧ 8 + (mL + 11) + lo ≤ R.locals) (hf : cells + mc ≤ R.cells ∧ slots + ms ≤ R.slots) (hdg : decode cc pc = .ok (.invokestatic index, 3))
    (kk : ∀ (H1 : Heap) (locs1 : List Loc), Wd G (wl ++ (w2 ++ wr)) A s H1 locs1 → W p l e R s m args below meth c H1 locs1 (cells + mc) (slots + ms) Q (F0 m (pc + 3) ls (.int rv :: rest))) : W p l e R s m args below meth c H locs cells slots Q (F0 m pc ls st0) := by
  obtain ⟨hK, hP, hD, hS, hA⟩ := hw
  have hP1 : va_P G.1 vwCl w1 H := k_Pl (k_Pr hP)
  have hD1 : va_D A w1 := k_Dl (k_Dr hD)
  have hF : ∀ q, va_A w1 H.size q → A q := fun q h => by
    rcases h with ⟨k, e, h⟩ | h
    · exact hD1.2 k _ h
    · exact hA q (Nat.le_trans hS.1 h)
  subst hst
  refine va_calli (va_runS (As := As) (rest := rest) F (hM H.size) (k_cwS (rm := rmk fr mc ms lo) F.2.2.2.2 hT hl hc hR) ⟨k_blind, fun U hU hW => ⟨rfl, by rw [hU], by rw [hU]; exact hP1, va_K.moved hW.alike hK, hD1.weaken (fun _ _ _ _ => trivial)⟩⟩ rfl hn hls rfl (lv_room hcat) hdg hf) hS (fun q _ h => hF q h) hF (fun r u t H1 locs1 ht hvm hpost hB hz1 hk1 hS1 => ?_)
  subst hpost
  obtain ⟨hP2, hD2⟩ := hB
  rw [ht] at hP2
  obtain ⟨h1, h2⟩ := k_frame hP hD hk1 hF hP2 hD2
  exact kk H1 locs1 ⟨hK, h1, h2, hS1, hA⟩
theorem k_callSi' (F : CallFix p m c cc nL s args Ts own) (hT : ∀ q ∈ BIG, q ∈ Ts) {y : MethodName} {bytes : ByteArray} {mL : Nat} {ret : Option FieldType} {fr mc ms lo : Nat} {As : List Value} {index nn : Nat} {w1 w2 : va_W} {rv : Int32} {st0 : List Value} (hM : MetI G l y bytes mL ret fr mc ms lo As w1 w2 rv) (hc : CalS y bytes mL ret nn) (hl : Cond.methodLink own index y ∈ BIG) (hw : Wd G w1 A s H locs) (hn : As.length = nn) (hls : ls.size = nL) (hst : st0 = As.reverse ++ rest) (hcat : (rest.map fun v => v.category).sum ≤ 8) (hR : fr + 1 ≤ R.frames ∧ 8 + (mL + 11) + lo ≤ R.locals) (hf : cells + mc ≤ R.cells ∧ slots + ms ≤ R.slots) (hdg : decode cc pc = .ok (.invokestatic index, 3))
    (kk : ∀ (H1 : Heap) (locs1 : List Loc), Wd G w2 A s H1 locs1 → W p l e R s m args below meth c H1 locs1 (cells + mc) (slots + ms) Q (F0 m (pc + 3) ls (.int rv :: rest))) : W p l e R s m args below meth c H locs cells slots Q (F0 m pc ls st0) :=
  k_callSi (wl := []) (wr := []) F hT hM hc hl (by rw [List.append_nil]; exact hw) hn hls hst hcat hR hf hdg (fun H1 locs1 h => kk H1 locs1 (by rw [List.append_nil] at h; exact h))
theorem k_callPi (F : CallFix p m c cc nL s args Ts own) (hT : ∀ q ∈ BIG, q ∈ Ts) {y : MethodName} {bytes : ByteArray} {mL : Nat} {ret : Option FieldType} {fr mc ms lo : Nat} {As : List Value} {index nn : Nat} {rv : Int32} {st0 : List Value} (hM : MetI G l y bytes mL ret fr mc ms lo As [] [] rv) (hc : CalS y bytes mL ret nn) (hl : Cond.methodLink own index y ∈ BIG) (hw : Wd G w A s H locs) (hn : As.length = nn) (hls : ls.size = nL) (hst : st0 = As.reverse ++ rest) (hcat : (rest.map fun v => v.category).sum ≤ 8) (hR : fr + 1 ≤ R.frames ∧ 8 + (mL + 11) + lo ≤ R.locals) (hf : cells + mc ≤ R.cells ∧ slots + ms ≤ R.slots) (hdg : decode cc pc = .ok (.invokestatic index, 3))
    (kk : ∀ (H1 : Heap) (locs1 : List Loc), Wd G w A s H1 locs1 → W p l e R s m args below meth c H1 locs1 (cells + mc) (slots + ms) Q (F0 m (pc + 3) ls (.int rv :: rest))) : W p l e R s m args below meth c H locs cells slots Q (F0 m pc ls st0) :=
  k_callSi (wl := []) (w1 := []) (w2 := []) (wr := w) F hT hM hc hl hw hn hls hst hcat hR hf hdg kk
theorem k_callVj (F : CallFix p m c cc nL s args Ts own) (hT : ∀ q ∈ BIG, q ∈ Ts) {y : MethodName} {bytes : ByteArray} {mL : Nat} {ret : Option FieldType} {fr mc ms lo : Nat} {As : List Value} {index nn : Nat} {b : Nat} {ci : Nat} {fs : List Value} {T : u_T} {N : Nat} {w1 w2 wl wr : va_W} {rv : Int64} {st0 : List Value} (hM : MetJ G l y bytes mL ret fr mc ms lo (.ref b :: As) w1 w2 rv) (hc : CalV y bytes mL ret nn) (hl : Cond.methodLink own index y ∈ BIG) (hw : Wd G (wl ++ (w1 ++ wr)) A s H locs) (q0 : Nat) (he : w1[q0]? = some (b, .inr (ci, fs))) (hci : vwCl[ci]? = some (y.cls, T, N)) (hn : As.length = nn) (hls : ls.size = nL) (hst : st0 = As.reverse ++ .ref b :: rest) (hcat : (rest.map fun v => v.category).sum ≤ 8) (hR : fr + 1 ≤ R.frames ∧ 8 + (mL + 11) + lo ≤ R.locals) (hf : cells + mc ≤ R.cells ∧ slots + ms ≤ R.slots) (hdg : decode cc pc = .ok (.invokevirtual index, 3))
    (kk : ∀ (H1 : Heap) (locs1 : List Loc), Wd G (wl ++ (w2 ++ wr)) A s H1 locs1 → W p l e R s m args below meth c H1 locs1 (cells + mc) (slots + ms) Q (F0 m (pc + 3) ls (.long rv :: rest))) : W p l e R s m args below meth c H locs cells slots Q (F0 m pc ls st0) := by
  obtain ⟨hK, hP, hD, hS, hA⟩ := hw
  have hP1 : va_P G.1 vwCl w1 H := k_Pl (k_Pr hP)
  have hD1 : va_D A w1 := k_Dl (k_Dr hD)
  have hF : ∀ q, va_A w1 H.size q → A q := fun q h => by
    rcases h with ⟨k, e, h⟩ | h
    · exact hD1.2 k _ h
    · exact hA q (Nat.le_trans hS.1 h)
  subst hst
  refine va_calll (va_runV (As := As) (rest := rest) F (hM H.size) (k_cwV (rm := rmk fr mc ms lo) F.2.2.2.2 hT hl hc hR) ⟨k_blind, va_recv hK hP1 hci he, fun U hU hW => ⟨rfl, by rw [hU], by rw [hU]; exact hP1, va_K.moved hW.alike hK, hD1.weaken (fun _ _ _ _ => trivial)⟩⟩ rfl hn hls rfl (lv_room hcat) hdg hf) hS (fun q _ h => hF q h) hF (fun r u t H1 locs1 ht hvm hpost hB hz1 hk1 hS1 => ?_)
  subst hpost
  obtain ⟨hP2, hD2⟩ := hB
  rw [ht] at hP2
  obtain ⟨h1, h2⟩ := k_frame hP hD hk1 hF hP2 hD2
  exact kk H1 locs1 ⟨hK, h1, h2, hS1, hA⟩
theorem k_callVj' (F : CallFix p m c cc nL s args Ts own) (hT : ∀ q ∈ BIG, q ∈ Ts) {y : MethodName} {bytes : ByteArray} {mL : Nat} {ret : Option FieldType} {fr mc ms lo : Nat} {As : List Value} {index nn : Nat} {b : Nat} {ci : Nat} {fs : List Value} {T : u_T} {N : Nat} {w1 w2 : va_W} {rv : Int64} {st0 : List Value} (hM : MetJ G l y bytes mL ret fr mc ms lo (.ref b :: As) w1 w2 rv) (hc : CalV y bytes mL ret nn) (hl : Cond.methodLink own index y ∈ BIG) (hw : Wd G w1 A s H locs) (q0 : Nat) (he : w1[q0]? = some (b, .inr (ci, fs))) (hci : vwCl[ci]? = some (y.cls, T, N)) (hn : As.length = nn) (hls : ls.size = nL) (hst : st0 = As.reverse ++ .ref b :: rest) (hcat : (rest.map fun v => v.category).sum ≤ 8) (hR : fr + 1 ≤ R.frames ∧ 8 + (mL + 11) + lo ≤ R.locals) (hf : cells + mc ≤ R.cells ∧ slots + ms ≤ R.slots) (hdg : decode cc pc = .ok (.invokevirtual index, 3))
    (kk : ∀ (H1 : Heap) (locs1 : List Loc), Wd G w2 A s H1 locs1 → W p l e R s m args below meth c H1 locs1 (cells + mc) (slots + ms) Q (F0 m (pc + 3) ls (.long rv :: rest))) : W p l e R s m args below meth c H locs cells slots Q (F0 m pc ls st0) :=
  k_callVj (wl := []) (wr := []) F hT hM hc hl (by rw [List.append_nil]; exact hw) q0 he hci hn hls hst hcat hR hf hdg (fun H1 locs1 h => kk H1 locs1 (by rw [List.append_nil] at h; exact h))
theorem k_callSj (F : CallFix p m c cc nL s args Ts own) (hT : ∀ q ∈ BIG, q ∈ Ts) {y : MethodName} {bytes : ByteArray} {mL : Nat} {ret : Option FieldType} {fr mc ms lo : Nat} {As : List Value} {index nn : Nat} {w1 w2 wl wr : va_W} {rv : Int64} {st0 : List Value} (hM : MetJ G l y bytes mL ret fr mc ms lo As w1 w2 rv) (hc : CalS y bytes mL ret nn) (hl : Cond.methodLink own index y ∈ BIG) (hw : Wd G (wl ++ (w1 ++ wr)) A s H locs) (hn : As.length = nn) (hls : ls.size = nL) (hst : st0 = As.reverse ++ rest) (hcat : (rest.map fun v => v.category).sum ≤ 8) (hR : fr + 1 ≤ R.frames ∧ 8 + (mL + 11) + lo ≤ R.locals) (hf : cells + mc ≤ R.cells ∧ slots + ms ≤ R.slots) (hdg : decode cc pc = .ok (.invokestatic index, 3))
    (kk : ∀ (H1 : Heap) (locs1 : List Loc), Wd G (wl ++ (w2 ++ wr)) A s H1 locs1 → W p l e R s m args below meth c H1 locs1 (cells + mc) (slots + ms) Q (F0 m (pc + 3) ls (.long rv :: rest))) : W p l e R s m args below meth c H locs cells slots Q (F0 m pc ls st0) := by
  obtain ⟨hK, hP, hD, hS, hA⟩ := hw
  have hP1 : va_P G.1 vwCl w1 H := k_Pl (k_Pr hP)
  have hD1 : va_D A w1 := k_Dl (k_Dr hD)
  have hF : ∀ q, va_A w1 H.size q → A q := fun q h => by
    rcases h with ⟨k, e, h⟩ | h
    · exact hD1.2 k _ h
    · exact hA q (Nat.le_trans hS.1 h)
  subst hst
  refine va_calll (va_runS (As := As) (rest := rest) F (hM H.size) (k_cwS (rm := rmk fr mc ms lo) F.2.2.2.2 hT hl hc hR) ⟨k_blind, fun U hU hW => ⟨rfl, by rw [hU], by rw [hU]; exact hP1, va_K.moved hW.alike hK, hD1.weaken (fun _ _ _ _ => trivial)⟩⟩ rfl hn hls rfl (lv_room hcat) hdg hf) hS (fun q _ h => hF q h) hF (fun r u t H1 locs1 ht hvm hpost hB hz1 hk1 hS1 => ?_)
  subst hpost
  obtain ⟨hP2, hD2⟩ := hB
  rw [ht] at hP2
  obtain ⟨h1, h2⟩ := k_frame hP hD hk1 hF hP2 hD2
  exact kk H1 locs1 ⟨hK, h1, h2, hS1, hA⟩
theorem k_callSj' (F : CallFix p m c cc nL s args Ts own) (hT : ∀ q ∈ BIG, q ∈ Ts) {y : MethodName} {bytes : ByteArray} {mL : Nat} {ret : Option FieldType} {fr mc ms lo : Nat} {As : List Value} {index nn : Nat} {w1 w2 : va_W} {rv : Int64} {st0 : List Value} (hM : MetJ G l y bytes mL ret fr mc ms lo As w1 w2 rv) (hc : CalS y bytes mL ret nn) (hl : Cond.methodLink own index y ∈ BIG) (hw : Wd G w1 A s H locs) (hn : As.length = nn) (hls : ls.size = nL) (hst : st0 = As.reverse ++ rest) (hcat : (rest.map fun v => v.category).sum ≤ 8) (hR : fr + 1 ≤ R.frames ∧ 8 + (mL + 11) + lo ≤ R.locals) (hf : cells + mc ≤ R.cells ∧ slots + ms ≤ R.slots) (hdg : decode cc pc = .ok (.invokestatic index, 3))
    (kk : ∀ (H1 : Heap) (locs1 : List Loc), Wd G w2 A s H1 locs1 → W p l e R s m args below meth c H1 locs1 (cells + mc) (slots + ms) Q (F0 m (pc + 3) ls (.long rv :: rest))) : W p l e R s m args below meth c H locs cells slots Q (F0 m pc ls st0) :=
  k_callSj (wl := []) (wr := []) F hT hM hc hl (by rw [List.append_nil]; exact hw) hn hls hst hcat hR hf hdg (fun H1 locs1 h => kk H1 locs1 (by rw [List.append_nil] at h; exact h))
theorem k_callPj (F : CallFix p m c cc nL s args Ts own) (hT : ∀ q ∈ BIG, q ∈ Ts) {y : MethodName} {bytes : ByteArray} {mL : Nat} {ret : Option FieldType} {fr mc ms lo : Nat} {As : List Value} {index nn : Nat} {rv : Int64} {st0 : List Value} (hM : MetJ G l y bytes mL ret fr mc ms lo As [] [] rv) (hc : CalS y bytes mL ret nn) (hl : Cond.methodLink own index y ∈ BIG) (hw : Wd G w A s H locs) (hn : As.length = nn) (hls : ls.size = nL) (hst : st0 = As.reverse ++ rest) (hcat : (rest.map fun v => v.category).sum ≤ 8) (hR : fr + 1 ≤ R.frames ∧ 8 + (mL + 11) + lo ≤ R.locals) (hf : cells + mc ≤ R.cells ∧ slots + ms ≤ R.slots) (hdg : decode cc pc = .ok (.invokestatic index, 3))
    (kk : ∀ (H1 : Heap) (locs1 : List Loc), Wd G w A s H1 locs1 → W p l e R s m args below meth c H1 locs1 (cells + mc) (slots + ms) Q (F0 m (pc + 3) ls (.long rv :: rest))) : W p l e R s m args below meth c H locs cells slots Q (F0 m pc ls st0) :=
  k_callSj (wl := []) (w1 := []) (w2 := []) (wr := w) F hT hM hc hl hw hn hls hst hcat hR hf hdg kk
theorem k_callVv (F : CallFix p m c cc nL s args Ts own) (hT : ∀ q ∈ BIG, q ∈ Ts) {y : MethodName} {bytes : ByteArray} {mL : Nat} {ret : Option FieldType} {fr mc ms lo : Nat} {As : List Value} {index nn : Nat} {b : Nat} {ci : Nat} {fs : List Value} {T : u_T} {N : Nat} {w1 w2 wl wr : va_W} {st0 : List Value} (hM : MetV G l y bytes mL ret fr mc ms lo (.ref b :: As) w1 w2) (hc : CalV y bytes mL ret nn) (hl : Cond.methodLink own index y ∈ BIG) (hw : Wd G (wl ++ (w1 ++ wr)) A s H locs) (q0 : Nat) (he : w1[q0]? = some (b, .inr (ci, fs))) (hci : vwCl[ci]? = some (y.cls, T, N)) (hn : As.length = nn) (hls : ls.size = nL) (hst : st0 = As.reverse ++ .ref b :: rest) (hcat : (rest.map fun v => v.category).sum ≤ 8) (hR : fr + 1 ≤ R.frames ∧ 8 + (mL + 11) + lo ≤ R.locals) (hf : cells + mc ≤ R.cells ∧ slots + ms ≤ R.slots) (hdg : decode cc pc = .ok (.invokevirtual index, 3))
    (kk : ∀ (H1 : Heap) (locs1 : List Loc), Wd G (wl ++ (w2 ++ wr)) A s H1 locs1 → W p l e R s m args below meth c H1 locs1 (cells + mc) (slots + ms) Q (F0 m (pc + 3) ls (rest))) : W p l e R s m args below meth c H locs cells slots Q (F0 m pc ls st0) := by
  obtain ⟨hK, hP, hD, hS, hA⟩ := hw
  have hP1 : va_P G.1 vwCl w1 H := k_Pl (k_Pr hP)
  have hD1 : va_D A w1 := k_Dl (k_Dr hD)
  have hF : ∀ q, va_A w1 H.size q → A q := fun q h => by
    rcases h with ⟨k, e, h⟩ | h
    · exact hD1.2 k _ h
    · exact hA q (Nat.le_trans hS.1 h)
  subst hst
  refine va_callv (va_runV (As := As) (rest := rest) F (hM H.size) (k_cwV (rm := rmk fr mc ms lo) F.2.2.2.2 hT hl hc hR) ⟨k_blind, va_recv hK hP1 hci he, fun U hU hW => ⟨rfl, by rw [hU], by rw [hU]; exact hP1, va_K.moved hW.alike hK, hD1.weaken (fun _ _ _ _ => trivial)⟩⟩ rfl hn hls rfl (lv_room hcat) hdg hf) hS (fun q _ h => hF q h) hF (fun u t H1 locs1 ht hvm hpost hB hz1 hk1 hS1 => ?_)
  skip
  obtain ⟨hP2, hD2⟩ := hB
  rw [ht] at hP2
  obtain ⟨h1, h2⟩ := k_frame hP hD hk1 hF hP2 hD2
  exact kk H1 locs1 ⟨hK, h1, h2, hS1, hA⟩
theorem k_callVv' (F : CallFix p m c cc nL s args Ts own) (hT : ∀ q ∈ BIG, q ∈ Ts) {y : MethodName} {bytes : ByteArray} {mL : Nat} {ret : Option FieldType} {fr mc ms lo : Nat} {As : List Value} {index nn : Nat} {b : Nat} {ci : Nat} {fs : List Value} {T : u_T} {N : Nat} {w1 w2 : va_W} {st0 : List Value} (hM : MetV G l y bytes mL ret fr mc ms lo (.ref b :: As) w1 w2) (hc : CalV y bytes mL ret nn) (hl : Cond.methodLink own index y ∈ BIG) (hw : Wd G w1 A s H locs) (q0 : Nat) (he : w1[q0]? = some (b, .inr (ci, fs))) (hci : vwCl[ci]? = some (y.cls, T, N)) (hn : As.length = nn) (hls : ls.size = nL) (hst : st0 = As.reverse ++ .ref b :: rest) (hcat : (rest.map fun v => v.category).sum ≤ 8) (hR : fr + 1 ≤ R.frames ∧ 8 + (mL + 11) + lo ≤ R.locals) (hf : cells + mc ≤ R.cells ∧ slots + ms ≤ R.slots) (hdg : decode cc pc = .ok (.invokevirtual index, 3))
    (kk : ∀ (H1 : Heap) (locs1 : List Loc), Wd G w2 A s H1 locs1 → W p l e R s m args below meth c H1 locs1 (cells + mc) (slots + ms) Q (F0 m (pc + 3) ls (rest))) : W p l e R s m args below meth c H locs cells slots Q (F0 m pc ls st0) :=
  k_callVv (wl := []) (wr := []) F hT hM hc hl (by rw [List.append_nil]; exact hw) q0 he hci hn hls hst hcat hR hf hdg (fun H1 locs1 h => kk H1 locs1 (by rw [List.append_nil] at h; exact h))
theorem k_callSv (F : CallFix p m c cc nL s args Ts own) (hT : ∀ q ∈ BIG, q ∈ Ts) {y : MethodName} {bytes : ByteArray} {mL : Nat} {ret : Option FieldType} {fr mc ms lo : Nat} {As : List Value} {index nn : Nat} {w1 w2 wl wr : va_W} {st0 : List Value} (hM : MetV G l y bytes mL ret fr mc ms lo As w1 w2) (hc : CalS y bytes mL ret nn) (hl : Cond.methodLink own index y ∈ BIG) (hw : Wd G (wl ++ (w1 ++ wr)) A s H locs) (hn : As.length = nn) (hls : ls.size = nL) (hst : st0 = As.reverse ++ rest) (hcat : (rest.map fun v => v.category).sum ≤ 8) (hR : fr + 1 ≤ R.frames ∧ 8 + (mL + 11) + lo ≤ R.locals) (hf : cells + mc ≤ R.cells ∧ slots + ms ≤ R.slots) (hdg : decode cc pc = .ok (.invokestatic index, 3))
    (kk : ∀ (H1 : Heap) (locs1 : List Loc), Wd G (wl ++ (w2 ++ wr)) A s H1 locs1 → W p l e R s m args below meth c H1 locs1 (cells + mc) (slots + ms) Q (F0 m (pc + 3) ls (rest))) : W p l e R s m args below meth c H locs cells slots Q (F0 m pc ls st0) := by
  obtain ⟨hK, hP, hD, hS, hA⟩ := hw
  have hP1 : va_P G.1 vwCl w1 H := k_Pl (k_Pr hP)
  have hD1 : va_D A w1 := k_Dl (k_Dr hD)
  have hF : ∀ q, va_A w1 H.size q → A q := fun q h => by
    rcases h with ⟨k, e, h⟩ | h
    · exact hD1.2 k _ h
    · exact hA q (Nat.le_trans hS.1 h)
  subst hst
  refine va_callv (va_runS (As := As) (rest := rest) F (hM H.size) (k_cwS (rm := rmk fr mc ms lo) F.2.2.2.2 hT hl hc hR) ⟨k_blind, fun U hU hW => ⟨rfl, by rw [hU], by rw [hU]; exact hP1, va_K.moved hW.alike hK, hD1.weaken (fun _ _ _ _ => trivial)⟩⟩ rfl hn hls rfl (lv_room hcat) hdg hf) hS (fun q _ h => hF q h) hF (fun u t H1 locs1 ht hvm hpost hB hz1 hk1 hS1 => ?_)
  skip
  obtain ⟨hP2, hD2⟩ := hB
  rw [ht] at hP2
  obtain ⟨h1, h2⟩ := k_frame hP hD hk1 hF hP2 hD2
  exact kk H1 locs1 ⟨hK, h1, h2, hS1, hA⟩
theorem k_callSv' (F : CallFix p m c cc nL s args Ts own) (hT : ∀ q ∈ BIG, q ∈ Ts) {y : MethodName} {bytes : ByteArray} {mL : Nat} {ret : Option FieldType} {fr mc ms lo : Nat} {As : List Value} {index nn : Nat} {w1 w2 : va_W} {st0 : List Value} (hM : MetV G l y bytes mL ret fr mc ms lo As w1 w2) (hc : CalS y bytes mL ret nn) (hl : Cond.methodLink own index y ∈ BIG) (hw : Wd G w1 A s H locs) (hn : As.length = nn) (hls : ls.size = nL) (hst : st0 = As.reverse ++ rest) (hcat : (rest.map fun v => v.category).sum ≤ 8) (hR : fr + 1 ≤ R.frames ∧ 8 + (mL + 11) + lo ≤ R.locals) (hf : cells + mc ≤ R.cells ∧ slots + ms ≤ R.slots) (hdg : decode cc pc = .ok (.invokestatic index, 3))
    (kk : ∀ (H1 : Heap) (locs1 : List Loc), Wd G w2 A s H1 locs1 → W p l e R s m args below meth c H1 locs1 (cells + mc) (slots + ms) Q (F0 m (pc + 3) ls (rest))) : W p l e R s m args below meth c H locs cells slots Q (F0 m pc ls st0) :=
  k_callSv (wl := []) (wr := []) F hT hM hc hl (by rw [List.append_nil]; exact hw) hn hls hst hcat hR hf hdg (fun H1 locs1 h => kk H1 locs1 (by rw [List.append_nil] at h; exact h))
theorem k_callPv (F : CallFix p m c cc nL s args Ts own) (hT : ∀ q ∈ BIG, q ∈ Ts) {y : MethodName} {bytes : ByteArray} {mL : Nat} {ret : Option FieldType} {fr mc ms lo : Nat} {As : List Value} {index nn : Nat} {st0 : List Value} (hM : MetV G l y bytes mL ret fr mc ms lo As [] []) (hc : CalS y bytes mL ret nn) (hl : Cond.methodLink own index y ∈ BIG) (hw : Wd G w A s H locs) (hn : As.length = nn) (hls : ls.size = nL) (hst : st0 = As.reverse ++ rest) (hcat : (rest.map fun v => v.category).sum ≤ 8) (hR : fr + 1 ≤ R.frames ∧ 8 + (mL + 11) + lo ≤ R.locals) (hf : cells + mc ≤ R.cells ∧ slots + ms ≤ R.slots) (hdg : decode cc pc = .ok (.invokestatic index, 3))
    (kk : ∀ (H1 : Heap) (locs1 : List Loc), Wd G w A s H1 locs1 → W p l e R s m args below meth c H1 locs1 (cells + mc) (slots + ms) Q (F0 m (pc + 3) ls (rest))) : W p l e R s m args below meth c H locs cells slots Q (F0 m pc ls st0) :=
  k_callSv (wl := []) (w1 := []) (w2 := []) (wr := w) F hT hM hc hl hw hn hls hst hcat hR hf hdg kk
end KITR
