/-! ===== my kit, 3: methods that return or throw; k: the number of what is thrown, 0: it returns ===== -/
def exn : Nat → String
  | 1 => "java/lang/IllegalArgumentException"
  | 2 => "java/lang/IllegalStateException"
  | 3 => "java/lang/IndexOutOfBoundsException"
  | 4 => "java/util/NoSuchElementException"
  | _ => ""
def exs : List String := ["java/lang/RuntimeException", "java/lang/Exception"]
/-- the words of a throw that change with the machine's warming: carried by hand -/
def XW : List Cond := [.declares (Bundle.init0 "java/lang/RuntimeException"), .declares (Bundle.init0 "java/lang/Exception"), .declares (Bundle.init0 Bundle.tN), .castable (exn 1) (exn 1), .castable (exn 2) (exn 2), .castable (exn 3) (exn 3), .castable (exn 4) (exn 4)]
def YY (U : State) : Prop := ∀ w ∈ XW, va_Nw w U
theorem xw_on : ∀ w ∈ XW, w.onTables = true := by
  intro w h
  simp only [XW, List.mem_cons, List.not_mem_nil, or_false] at h
  rcases h with rfl | rfl | rfl | rfl | rfl | rfl | rfl <;> rfl
theorem YY.same {u U : State} (h : u.vm = U.vm) (y : YY u) : YY U := fun w hw => va_Nw.same (xw_on w hw) h (y w hw)
theorem YY.warm {s U : State} (hW : s.WarmedH U.vm) (y : YY s) : YY U := by
  intro w hw
  have h1 := y w hw
  simp only [XW, List.mem_cons, List.not_mem_nil, or_false] at hw
  rcases hw with rfl | rfl | rfl | rfl | rfl | rfl | rfl
  · exact va_Nw.warmD hW h1
  · exact va_Nw.warmD hW h1
  · exact va_Nw.warmD hW h1
  · exact va_Nw.warmC hW h1
  · exact va_Nw.warmC hW h1
  · exact va_Nw.warmC hW h1
  · exact va_Nw.warmC hW h1
theorem YY.use {args : Array Value} {s : State} (y : YY s) {w : Cond} (h : w ∈ XW) : w.before args s = true := va_Nw.use (xw_on w h) (y w h)
def ZZ (A : Nat → Prop) (U : State) (H : Heap) : Prop := vx_Zq Bundle.tN "UNASSIGNED_STACK" Bundle.steD A U H ∧ vx_Zq Bundle.tN "SUPPRESSED_SENTINEL" Bundle.listD A U H ∧ YY U
/-- a callee's code, its answer handed on; a throw goes on to the caller -/
def qxb {β : Type} (x : Option Nat) (d : β) (f : Option (Nat × β)) : Option (Nat × β) := match x with
  | none => none
  | some 0 => f
  | some (k + 1) => some (k + 1, d)
theorem qxb_e {β : Type} {x : Option Nat} {d : β} {f : Option (Nat × β)} {r : Nat × β} (h : qxb x d f = some r) : ∃ k : Nat, x = some k ∧ (k = 0 → f = some r) ∧ (k ≠ 0 → (k, d) = r) := by
  match x, h with
  | none, h => cases h
  | some 0, h => exact ⟨0, rfl, fun _ => h, fun q => absurd rfl q⟩
  | some (k + 1), h => exact ⟨k + 1, rfl, fun q => (by cases q), fun _ => Option.some.inj h⟩
def qbc (x : Option Nat) (f : Option Nat) : Option Nat := match x with
  | none => none
  | some 0 => f
  | some (k + 1) => some (k + 1)
theorem qbc_e {x : Option Nat} {f : Option Nat} {r : Nat} (h : qbc x f = some r) : ∃ k : Nat, x = some k ∧ (k = 0 → f = some r) ∧ (k ≠ 0 → k = r) := by
  match x, h with
  | none, h => cases h
  | some 0, h => exact ⟨0, rfl, fun _ => h, fun q => absurd rfl q⟩
  | some (k + 1), h => exact ⟨k + 1, rfl, fun q => (by cases q), fun _ => Option.some.inj h⟩
def qbd2 {α β γ : Type} (x : Option (α × β)) (f : α → β → Option γ) : Option γ := match x with
  | none => none
  | some (a, b) => f a b
theorem qbd2_e {α β γ : Type} {x : Option (α × β)} {f : α → β → Option γ} {r : γ} (h : qbd2 x f = some r) : ∃ (a : α) (b : β), x = some (a, b) ∧ f a b = some r := by
  match x, h with
  | none, h => cases h
  | some (a, b), h => exact ⟨a, b, rfl, h⟩
def PcX (G : gG) (w1 : va_W) (sz : Nat) (U : State) : Prop := PcW G w1 sz U ∧ ZZ (va_A w1 sz) U U.heap
theorem k_blindX {G : gG} {av : List Value} {w1 : va_W} {sz : Nat} : FrameBlind (va_Pc av (PcX G w1 sz)) := fun a U g mk q => by
  obtain ⟨q0, ⟨q1, qP, qK, qD⟩, z1, z2, z3⟩ := q
  exact ⟨q0, ⟨q1, qP, va_K.moved (u := U) (U := U.calling g mk a) (Vm.Alike.refl U.vm) qK, qD⟩, vx_Zq.moved (u := U) (U := U.calling g mk a) (Vm.Alike.refl U.vm) z1, vx_Zq.moved (u := U) (U := U.calling g mk a) (Vm.Alike.refl U.vm) z2, YY.same (u := U) (U := U.calling g mk a) rfl z3⟩
def MetXI (G : gG) (l : Launch) (y : MethodName) (cc : ByteArray) (mL : Nat) (ret : Option FieldType) (fr mc ms lo : Nat) (av : List Value) (w1 w2 : va_W) (k : Nat) (rv : Int32) : Prop :=
  ∀ sz : Nat, vx_Met l y (WS y cc mL ret) (rmk fr mc ms lo) (va_Pc av (PcX G w1 sz)) (va_Qi (fun (r : Int32) (_ : Unit) => k = 0 ∧ r = rv) (fun _ t => BW G w2 (va_A w1 sz) t) (va_A w1 sz)) (vx_X (fun (_ : Unit) => True) (fun E _ t => (k ≠ 0 ∧ E = exn k) ∧ BW G w2 (va_A w1 sz) t) (va_A w1 sz)) mc ms (va_A w1 sz)
def MetXV (G : gG) (l : Launch) (y : MethodName) (cc : ByteArray) (mL : Nat) (ret : Option FieldType) (fr mc ms lo : Nat) (av : List Value) (w1 w2 : va_W) (k : Nat) : Prop :=
  ∀ sz : Nat, vx_Met l y (WS y cc mL ret) (rmk fr mc ms lo) (va_Pc av (PcX G w1 sz)) (va_Qv (fun (_ : Unit) => k = 0) (fun _ t => BW G w2 (va_A w1 sz) t) (va_A w1 sz)) (vx_X (fun (_ : Unit) => True) (fun E _ t => (k ≠ 0 ∧ E = exn k) ∧ BW G w2 (va_A w1 sz) t) (va_A w1 sz)) mc ms (va_A w1 sz)
def KQXI (G : gG) (below : List Frame) (args : Array Value) (s : State) (A : Nat → Prop) (w2 : va_W) (k : Nat) (rv : Int32) (mc ms : Nat) : State → Prop := vx_MQ below (va_Qi (fun (r : Int32) (_ : Unit) => k = 0 ∧ r = rv) (fun _ t => BW G w2 A t) A) (vx_X (fun (_ : Unit) => True) (fun E _ t => (k ≠ 0 ∧ E = exn k) ∧ BW G w2 A t) A) args s mc ms A
def KQXV (G : gG) (below : List Frame) (args : Array Value) (s : State) (A : Nat → Prop) (w2 : va_W) (k : Nat) (mc ms : Nat) : State → Prop := vx_MQ below (va_Qv (fun (_ : Unit) => k = 0) (fun _ t => BW G w2 A t) A) (vx_X (fun (_ : Unit) => True) (fun E _ t => (k ≠ 0 ∧ E = exn k) ∧ BW G w2 A t) A) args s mc ms A
theorem k_ofXI {G : gG} {l : Launch} {y : MethodName} {cc : ByteArray} {mL : Nat} {ret : Option FieldType} {fr mc ms lo : Nat} {av : List Value} {w1 w2 : va_W} {k : Nat} {rv : Int32} (hy : plainName y.cls = true) (hn : (lg_sl av).length ≤ mL)
    (body : ∀ (p : Program) (e : Env) (s : State) (m : MethodId) (args : Array Value) (below : List Frame) (meth : Method) (c : Code) (ls : Array Slot) (A : Nat → Prop), CallFix p m c cc mL s args (WS y cc mL ret) y.cls → meth.sig.returnType = ret → meth.locks = false → (∀ x ∈ c.exceptionTable.toList, False) → lv_has ls mL (lv_args 0 av) → Wd G w1 A s s.heap [] → ZZ A s s.heap →
      W p l e (rmk fr mc ms lo) s m args below meth c s.heap [] 0 0 (KQXI G below args s A w2 k rv mc ms) (F0 m 0 ls [])) : MetXI G l y cc mL ret fr mc ms lo av w1 w2 k rv := by
  intro sz
  refine vx_ofW (cc := cc) (maxL := mL) (ret := ret) hy rfl ?_
  intro p e s m args below meth c s₁ B hml hout hv
  obtain ⟨rfl, ⟨hsz, hP, hK, hD0⟩, hZ⟩ := hv
  subst hsz
  have hD := hD0.self (sz := s.heap.size)
  have hl := lv_entry av (n := mL) hn
  rw [lg_entry_eq]
  have hts := atoms_spec (ws := WS y cc mL ret) B.pre
  exact body p e s m _ below meth c _ (va_A w1 s.heap.size) ⟨B.exec, B.bytes, hml, findClass_of_methodNamed B.named, hts⟩ B.returns B.notSynchronized hout hl ⟨hK, hP, hD, va_S.rf, fun q h => Or.inr h⟩ hZ
theorem k_ofXV {G : gG} {l : Launch} {y : MethodName} {cc : ByteArray} {mL : Nat} {ret : Option FieldType} {fr mc ms lo : Nat} {av : List Value} {w1 w2 : va_W} {k : Nat} (hy : plainName y.cls = true) (hn : (lg_sl av).length ≤ mL)
    (body : ∀ (p : Program) (e : Env) (s : State) (m : MethodId) (args : Array Value) (below : List Frame) (meth : Method) (c : Code) (ls : Array Slot) (A : Nat → Prop), CallFix p m c cc mL s args (WS y cc mL ret) y.cls → meth.sig.returnType = ret → meth.locks = false → (∀ x ∈ c.exceptionTable.toList, False) → lv_has ls mL (lv_args 0 av) → Wd G w1 A s s.heap [] → ZZ A s s.heap →
      W p l e (rmk fr mc ms lo) s m args below meth c s.heap [] 0 0 (KQXV G below args s A w2 k mc ms) (F0 m 0 ls [])) : MetXV G l y cc mL ret fr mc ms lo av w1 w2 k := by
  intro sz
  refine vx_ofW (cc := cc) (maxL := mL) (ret := ret) hy rfl ?_
  intro p e s m args below meth c s₁ B hml hout hv
  obtain ⟨rfl, ⟨hsz, hP, hK, hD0⟩, hZ⟩ := hv
  subst hsz
  have hD := hD0.self (sz := s.heap.size)
  have hl := lv_entry av (n := mL) hn
  rw [lg_entry_eq]
  have hts := atoms_spec (ws := WS y cc mL ret) B.pre
  exact body p e s m _ below meth c _ (va_A w1 s.heap.size) ⟨B.exec, B.bytes, hml, findClass_of_methodNamed B.named, hts⟩ B.returns B.notSynchronized hout hl ⟨hK, hP, hD, va_S.rf, fun q h => Or.inr h⟩ hZ
section KITX
variable {p : Program} {l : Launch} {e : Env} {R : Room} {s : State} {m : MethodId} {args : Array Value} {below : List Frame} {meth : Method} {c : Code} {H : Heap} {locs : List Loc} {cells slots : Nat} {Q : State → Prop}
variable {cc : ByteArray} {pc : Nat} {ls : Array Slot} {rest : List Value} {nL : Nat} {Ts : List Cond} {own : String} {G : gG} {A : Nat → Prop} {w w' : va_W} {a n : Nat}
theorem k_xiret (F : CallFix p m c cc nL s args Ts own) {ty : FieldType} (hr : meth.sig.returnType = some ty) (hlk : meth.locks = false) (hw : Wd G w A s H locs) {v : Int32} {mc ms : Nat} (hn : narrow ty (.int v) = .int v) (hc : cells ≤ mc) (hs : slots ≤ ms) (hdg : decode cc pc = .ok (.ireturn, 1)) : W p l e R s m args below meth c H locs cells slots (KQXI G below args s A w 0 v mc ms) (F0 m pc ls [.int v]) := by
  obtain ⟨hK, hP, hD, hS, hA⟩ := hw
  refine vx_ret (W.widen hc hs ?_)
  exact W.zret F.1 F.2.1 hr hn (fun t ht hW => ⟨⟨v, (), rfl, ⟨rfl, rfl⟩, ⟨by rw [ht]; exact hP, hD⟩⟩, hS.F ht⟩) hS.2.2 hdg hlk
theorem k_xvret (F : CallFix p m c cc nL s args Ts own) (hr : meth.sig.returnType = none) (hlk : meth.locks = false) (hw : Wd G w A s H locs) {mc ms : Nat} (hc : cells ≤ mc) (hs : slots ≤ ms) (hdg : decode cc pc = .ok (.return_, 1)) : W p l e R s m args below meth c H locs cells slots (KQXV G below args s A w 0 mc ms) (F0 m pc ls []) := by
  obtain ⟨hK, hP, hD, hS, hA⟩ := hw
  refine vx_ret (W.widen hc hs ?_)
  exact W.vret F.1 F.2.1 hr (fun t ht hW => ⟨⟨(), rfl, rfl, ⟨by rw [ht]; exact hP, hD⟩⟩, hS.F ht⟩) hS.2.2 hdg hlk
theorem k_throwI (F : CallFix p m c cc nL s args Ts own) (hlt : l.stackTraces = false) (hlk : meth.locks = false) (hout : ∀ x ∈ c.exceptionTable.toList, False) (hT : ∀ q ∈ BIG, q ∈ Ts) (hZ : ZZ A s s.heap) (hw : Wd G w A s H locs) (hls : ls.size = nL) {k ik ic mc ms : Nat} {rv : Int32} (hk0 : k ≠ 0) (hfit : Bundle.fit (exn k) = true) (hk : Cond.classLink own ik (exn k) ∈ BIG) (hini : Cond.initialized (exn k) ∈ BIG) (hat : ∀ w ∈ vx_at0 own ic (exn k) exs, w ∈ BIG ∨ w ∈ XW)
    (hR : 6 ≤ R.frames ∧ (rest.map fun v => v.category).sum + 81 ≤ R.locals ∧ cells + 1 ≤ R.cells ∧ slots + 6 ≤ R.slots) (hc : cells + 1 ≤ mc) (hs : slots + 6 ≤ ms)
    (d0 : decode cc pc = .ok (.new ik, 3)) (d3 : decode cc (pc + 3) = .ok (.dup, 1)) (d4 : decode cc (pc + 4) = .ok (.invokespecial ic, 3)) (d7 : decode cc (pc + 7) = .ok (.athrow, 1)) :
    W p l e R s m args below meth c H locs cells slots (KQXI G below args s A w k rv mc ms) (F0 m pc ls rest) := by
  obtain ⟨hK, hP, hD, hS, hA⟩ := hw
  have ok : ∀ w ∈ BIG, w.before args s = true := fun w h => F.2.2.2.2 _ (hT _ h)
  refine vx_throw0 F.1 F.2.1 hlt (own := own) (cls := exn k) (names := exs) (A := A) F.2.2.2.1 hfit (by decide) (ok _ hk) (ok _ hini) (fun w h => (hat w h).elim (fun b => ok _ b) (fun b => hZ.2.2.use b)) (fun w h => ?_) hZ.1 hZ.2.1 hS (by rw [hls, F.2.2.1]) d0 d3 d4 d7 (fun x h => (hout x h).elim) (Nat.lt_of_lt_of_le (by decide) hR.1) (Nat.le_trans (Nat.le_of_eq rfl) hR.2.1) hR.2.2.1 hR.2.2.2 hlk (fun t hvm hz hkp => ?_) hS.2.2 hc hs
  · have hb : w ∈ BIG ∨ w ∈ XW := by
      rcases List.mem_cons.mp h with h | h
      · rw [h]; exact Or.inl hk
      · rcases List.mem_cons.mp h with h | h
        · rw [h]; exact Or.inl hini
        · exact hat w h
    show (w.onTables || goodWord w) = true
    rcases hb with hb | hb
    · rw [big_good w hb, Bool.or_true]
    · rw [xw_on w hb, Bool.true_or]
  · refine ⟨(), trivial, ⟨⟨hk0, rfl⟩, ?_, hD⟩, Nat.le_trans hS.1 hz, fun q h1 h2 => ?_⟩
    · exact hP.kept fun k q hq => hkp _ (hP k q hq).lt
    · rw [hkp q (Nat.lt_of_lt_of_le h1 hS.1)]; exact hS.2.1 q h1 h2
theorem k_xoutI {E : String} {ce : Cell} {q : Nat} {k : Nat} {rv : Int32} {mc ms : Nat} (hlk : meth.locks = false) (hout : ∀ x ∈ c.exceptionTable.toList, False) (hw : Wd G w A s H locs) (hk : k ≠ 0) (hE : E = exn k) (h1 : H[q]? = some ce) (h2 : ce.vm = .none) (h3 : s.vm.findClass E = some ce.cls) (hc : cells ≤ mc) (hs : slots ≤ ms) :
    vx_W p l e R s m args below meth c H locs cells slots (KQXI G below args s A w k rv mc ms) (F0 m pc ls rest) q := by
  obtain ⟨hK, hP, hD, hS, hA⟩ := hw
  exact vx_out (fun x h => (hout x h).elim) hlk h1 h2 h3 (fun t ht hvm => ⟨(), trivial, ⟨⟨hk, hE⟩, ⟨by rw [ht]; exact hP, hD⟩⟩, hS.F ht⟩) hS.2.2 hc hs
theorem k_throwV (F : CallFix p m c cc nL s args Ts own) (hlt : l.stackTraces = false) (hlk : meth.locks = false) (hout : ∀ x ∈ c.exceptionTable.toList, False) (hT : ∀ q ∈ BIG, q ∈ Ts) (hZ : ZZ A s s.heap) (hw : Wd G w A s H locs) (hls : ls.size = nL) {k ik ic mc ms : Nat} (hk0 : k ≠ 0) (hfit : Bundle.fit (exn k) = true) (hk : Cond.classLink own ik (exn k) ∈ BIG) (hini : Cond.initialized (exn k) ∈ BIG) (hat : ∀ w ∈ vx_at0 own ic (exn k) exs, w ∈ BIG ∨ w ∈ XW)
    (hR : 6 ≤ R.frames ∧ (rest.map fun v => v.category).sum + 81 ≤ R.locals ∧ cells + 1 ≤ R.cells ∧ slots + 6 ≤ R.slots) (hc : cells + 1 ≤ mc) (hs : slots + 6 ≤ ms)
    (d0 : decode cc pc = .ok (.new ik, 3)) (d3 : decode cc (pc + 3) = .ok (.dup, 1)) (d4 : decode cc (pc + 4) = .ok (.invokespecial ic, 3)) (d7 : decode cc (pc + 7) = .ok (.athrow, 1)) :
    W p l e R s m args below meth c H locs cells slots (KQXV G below args s A w k mc ms) (F0 m pc ls rest) := by
  obtain ⟨hK, hP, hD, hS, hA⟩ := hw
  have ok : ∀ w ∈ BIG, w.before args s = true := fun w h => F.2.2.2.2 _ (hT _ h)
  refine vx_throw0 F.1 F.2.1 hlt (own := own) (cls := exn k) (names := exs) (A := A) F.2.2.2.1 hfit (by decide) (ok _ hk) (ok _ hini) (fun w h => (hat w h).elim (fun b => ok _ b) (fun b => hZ.2.2.use b)) (fun w h => ?_) hZ.1 hZ.2.1 hS (by rw [hls, F.2.2.1]) d0 d3 d4 d7 (fun x h => (hout x h).elim) (Nat.lt_of_lt_of_le (by decide) hR.1) (Nat.le_trans (Nat.le_of_eq rfl) hR.2.1) hR.2.2.1 hR.2.2.2 hlk (fun t hvm hz hkp => ?_) hS.2.2 hc hs
  · have hb : w ∈ BIG ∨ w ∈ XW := by
      rcases List.mem_cons.mp h with h | h
      · rw [h]; exact Or.inl hk
      · rcases List.mem_cons.mp h with h | h
        · rw [h]; exact Or.inl hini
        · exact hat w h
    show (w.onTables || goodWord w) = true
    rcases hb with hb | hb
    · rw [big_good w hb, Bool.or_true]
    · rw [xw_on w hb, Bool.true_or]
  · refine ⟨(), trivial, ⟨⟨hk0, rfl⟩, ?_, hD⟩, Nat.le_trans hS.1 hz, fun q h1 h2 => ?_⟩
    · exact hP.kept fun k q hq => hkp _ (hP k q hq).lt
    · rw [hkp q (Nat.lt_of_lt_of_le h1 hS.1)]; exact hS.2.1 q h1 h2
theorem k_xoutV {E : String} {ce : Cell} {q : Nat} {k : Nat} {mc ms : Nat} (hlk : meth.locks = false) (hout : ∀ x ∈ c.exceptionTable.toList, False) (hw : Wd G w A s H locs) (hk : k ≠ 0) (hE : E = exn k) (h1 : H[q]? = some ce) (h2 : ce.vm = .none) (h3 : s.vm.findClass E = some ce.cls) (hc : cells ≤ mc) (hs : slots ≤ ms) :
    vx_W p l e R s m args below meth c H locs cells slots (KQXV G below args s A w k mc ms) (F0 m pc ls rest) q := by
  obtain ⟨hK, hP, hD, hS, hA⟩ := hw
  exact vx_out (fun x h => (hout x h).elim) hlk h1 h2 h3 (fun t ht hvm => ⟨(), trivial, ⟨⟨hk, hE⟩, ⟨by rw [ht]; exact hP, hD⟩⟩, hS.F ht⟩) hS.2.2 hc hs
theorem k_xcallVi (F : CallFix p m c cc nL s args Ts own) (hT : ∀ q ∈ BIG, q ∈ Ts) {y : MethodName} {bytes : ByteArray} {mL : Nat} {ret : Option FieldType} {fr mc ms lo : Nat} {As : List Value} {index nn : Nat} {b : Nat} {ci : Nat} {fs : List Value} {T : u_T} {N : Nat} {w1 w2 wl wr : va_W} {k : Nat} {rv : Int32} {st0 : List Value} (hM : MetXI G l y bytes mL ret fr mc ms lo (.ref b :: As) w1 w2 k rv) (hc : CalV y bytes mL ret nn) (hl : Cond.methodLink own index y ∈ BIG) (hZ : ZZ A s s.heap) (hw : Wd G (wl ++ (w1 ++ wr)) A s H locs) (q0 : Nat) (he : w1[q0]? = some (b, .inr (ci, fs))) (hci : vwCl[ci]? = some (y.cls, T, N)) (hn : As.length = nn) (hls : ls.size = nL) (hst : st0 = As.reverse ++ .ref b :: rest) (hcat : (rest.map fun v => v.category).sum ≤ 8) (hR : fr + 1 ≤ R.frames ∧ 8 + (mL + 11) + lo ≤ R.locals) (hf : cells + mc ≤ R.cells ∧ slots + ms ≤ R.slots) (hdg : decode cc pc = .ok (.invokevirtual index, 3))
    (kx : k ≠ 0 → ∀ (E : String) (ce : Cell) (q9 : Nat) (H1 : Heap) (locs1 : List Loc), E = exn k → Wd G (wl ++ (w2 ++ wr)) A s H1 locs1 → H1[q9]? = some ce → ce.vm = .none → s.vm.findClass E = some ce.cls → vx_W p l e R s m args below meth c H1 locs1 (cells + mc) (slots + ms) Q (F0 m pc ls rest) q9)
    (kk : k = 0 → ∀ (H1 : Heap) (locs1 : List Loc), Wd G (wl ++ (w2 ++ wr)) A s H1 locs1 → W p l e R s m args below meth c H1 locs1 (cells + mc) (slots + ms) Q (F0 m (pc + 3) ls (.int rv :: rest))) : W p l e R s m args below meth c H locs cells slots Q (F0 m pc ls st0) := by
  obtain ⟨hK, hP, hD, hS, hA⟩ := hw
  have hP1 : va_P G.1 vwCl w1 H := k_Pl (k_Pr hP)
  have hD1 : va_D A w1 := k_Dl (k_Dr hD)
  have hF : ∀ q, va_A w1 H.size q → A q := fun q h => by
    rcases h with ⟨k, e, h⟩ | h
    · exact hD1.2 k _ h
    · exact hA q (Nat.le_trans hS.1 h)
  subst hst
  have hZ1 : vx_Zq Bundle.tN "UNASSIGNED_STACK" Bundle.steD (va_A w1 H.size) s H := (hZ.1.kept hS.2.1).narrow hF
  have hZ2 : vx_Zq Bundle.tN "SUPPRESSED_SENTINEL" Bundle.listD (va_A w1 H.size) s H := (hZ.2.1.kept hS.2.1).narrow hF
  refine vx_calli (vx_runV (As := As) (rest := rest) F (hM H.size) (k_cwV (rm := rmk fr mc ms lo) F.2.2.2.2 hT hl hc hR) ⟨k_blindX, va_recv hK hP1 hci he, fun U hU hW => ⟨rfl, ⟨by rw [hU], by rw [hU]; exact hP1, va_K.moved hW.alike hK, hD1.weaken (fun _ _ _ _ => trivial)⟩, by rw [hU]; exact vx_Zq.moved hW.alike hZ1, by rw [hU]; exact vx_Zq.moved hW.alike hZ2, hZ.2.2.warm hW⟩⟩ rfl hn hls rfl (lv_room hcat) hdg hf) hS (fun q _ h => hF q h) hF (fun q _ h => hF q h) (fun E ce q9 u t H1 locs1 ht hvm _ hB hz1 hk1 hS1 g1 g2 g3 => ?_) (fun r u t H1 locs1 ht hvm hpost hB hz1 hk1 hS1 => ?_)
  · obtain ⟨⟨hk0, hE⟩, hP2, hD2⟩ := hB
    rw [ht] at hP2
    obtain ⟨h1, h2⟩ := k_frame hP hD hk1 hF hP2 hD2
    exact kx hk0 E ce q9 H1 locs1 hE ⟨hK, h1, h2, hS1, hA⟩ g1 g2 g3
  · obtain ⟨hk0, rfl⟩ := hpost
    obtain ⟨hP2, hD2⟩ := hB
    rw [ht] at hP2
    obtain ⟨h1, h2⟩ := k_frame hP hD hk1 hF hP2 hD2
    exact kk hk0 H1 locs1 ⟨hK, h1, h2, hS1, hA⟩
theorem k_xcallVi' (F : CallFix p m c cc nL s args Ts own) (hT : ∀ q ∈ BIG, q ∈ Ts) {y : MethodName} {bytes : ByteArray} {mL : Nat} {ret : Option FieldType} {fr mc ms lo : Nat} {As : List Value} {index nn : Nat} {b : Nat} {ci : Nat} {fs : List Value} {T : u_T} {N : Nat} {w1 w2 : va_W} {k : Nat} {rv : Int32} {st0 : List Value} (hM : MetXI G l y bytes mL ret fr mc ms lo (.ref b :: As) w1 w2 k rv) (hc : CalV y bytes mL ret nn) (hl : Cond.methodLink own index y ∈ BIG) (hZ : ZZ A s s.heap) (hw : Wd G w1 A s H locs) (q0 : Nat) (he : w1[q0]? = some (b, .inr (ci, fs))) (hci : vwCl[ci]? = some (y.cls, T, N)) (hn : As.length = nn) (hls : ls.size = nL) (hst : st0 = As.reverse ++ .ref b :: rest) (hcat : (rest.map fun v => v.category).sum ≤ 8) (hR : fr + 1 ≤ R.frames ∧ 8 + (mL + 11) + lo ≤ R.locals) (hf : cells + mc ≤ R.cells ∧ slots + ms ≤ R.slots) (hdg : decode cc pc = .ok (.invokevirtual index, 3))
    (kx : k ≠ 0 → ∀ (E : String) (ce : Cell) (q9 : Nat) (H1 : Heap) (locs1 : List Loc), E = exn k → Wd G w2 A s H1 locs1 → H1[q9]? = some ce → ce.vm = .none → s.vm.findClass E = some ce.cls → vx_W p l e R s m args below meth c H1 locs1 (cells + mc) (slots + ms) Q (F0 m pc ls rest) q9)
    (kk : k = 0 → ∀ (H1 : Heap) (locs1 : List Loc), Wd G w2 A s H1 locs1 → W p l e R s m args below meth c H1 locs1 (cells + mc) (slots + ms) Q (F0 m (pc + 3) ls (.int rv :: rest))) : W p l e R s m args below meth c H locs cells slots Q (F0 m pc ls st0) :=
  k_xcallVi (wl := []) (wr := []) F hT hM hc hl hZ (by rw [List.append_nil]; exact hw) q0 he hci hn hls hst hcat hR hf hdg (fun hk E ce q9 H1 locs1 hE h => kx hk E ce q9 H1 locs1 hE (by rw [List.append_nil] at h; exact h)) (fun hk H1 locs1 h => kk hk H1 locs1 (by rw [List.append_nil] at h; exact h))
theorem k_xcallSi (F : CallFix p m c cc nL s args Ts own) (hT : ∀ q ∈ BIG, q ∈ Ts) {y : MethodName} {bytes : ByteArray} {mL : Nat} {ret : Option FieldType} {fr mc ms lo : Nat} {As : List Value} {index nn : Nat} {w1 w2 wl wr : va_W} {k : Nat} {rv : Int32} {st0 : List Value} (hM : MetXI G l y bytes mL ret fr mc ms lo As w1 w2 k rv) (hc : CalS y bytes mL ret nn) (hl : Cond.methodLink own index y ∈ BIG) (hZ : ZZ A s s.heap) (hw : Wd G (wl ++ (w1 ++ wr)) A s H locs) (hn : As.length = nn) (hls : ls.size = nL) (hst : st0 = As.reverse ++ rest) (hcat : (rest.map fun v => v.category).sum ≤ 8) (hR : fr + 1 ≤ R.frames ∧ 8 + (mL + 11) + lo ≤ R.locals) (hf : cells + mc ≤ R.cells ∧ slots + ms ≤ R.slots) (hdg : decode cc pc = .ok (.invokestatic index, 3))
    (kx : k ≠ 0 → ∀ (E : String) (ce : Cell) (q9 : Nat) (H1 : Heap) (locs1 : List Loc), E = exn k → Wd G (wl ++ (w2 ++ wr)) A s H1 locs1 → H1[q9]? = some ce → ce.vm = .none → s.vm.findClass E = some ce.cls → vx_W p l e R s m args below meth c H1 locs1 (cells + mc) (slots + ms) Q (F0 m pc ls rest) q9)
    (kk : k = 0 → ∀ (H1 : Heap) (locs1 : List Loc), Wd G (wl ++ (w2 ++ wr)) A s H1 locs1 → W p l e R s m args below meth c H1 locs1 (cells + mc) (slots + ms) Q (F0 m (pc + 3) ls (.int rv :: rest))) : W p l e R s m args below meth c H locs cells slots Q (F0 m pc ls st0) := by
  obtain ⟨hK, hP, hD, hS, hA⟩ := hw
  have hP1 : va_P G.1 vwCl w1 H := k_Pl (k_Pr hP)
  have hD1 : va_D A w1 := k_Dl (k_Dr hD)
  have hF : ∀ q, va_A w1 H.size q → A q := fun q h => by
    rcases h with ⟨k, e, h⟩ | h
    · exact hD1.2 k _ h
    · exact hA q (Nat.le_trans hS.1 h)
  subst hst
  have hZ1 : vx_Zq Bundle.tN "UNASSIGNED_STACK" Bundle.steD (va_A w1 H.size) s H := (hZ.1.kept hS.2.1).narrow hF
  have hZ2 : vx_Zq Bundle.tN "SUPPRESSED_SENTINEL" Bundle.listD (va_A w1 H.size) s H := (hZ.2.1.kept hS.2.1).narrow hF
  refine vx_calli (vx_runS (As := As) (rest := rest) F (hM H.size) (k_cwS (rm := rmk fr mc ms lo) F.2.2.2.2 hT hl hc hR) ⟨k_blindX, fun U hU hW => ⟨rfl, ⟨by rw [hU], by rw [hU]; exact hP1, va_K.moved hW.alike hK, hD1.weaken (fun _ _ _ _ => trivial)⟩, by rw [hU]; exact vx_Zq.moved hW.alike hZ1, by rw [hU]; exact vx_Zq.moved hW.alike hZ2, hZ.2.2.warm hW⟩⟩ rfl hn hls rfl (lv_room hcat) hdg hf) hS (fun q _ h => hF q h) hF (fun q _ h => hF q h) (fun E ce q9 u t H1 locs1 ht hvm _ hB hz1 hk1 hS1 g1 g2 g3 => ?_) (fun r u t H1 locs1 ht hvm hpost hB hz1 hk1 hS1 => ?_)
  · obtain ⟨⟨hk0, hE⟩, hP2, hD2⟩ := hB
    rw [ht] at hP2
    obtain ⟨h1, h2⟩ := k_frame hP hD hk1 hF hP2 hD2
    exact kx hk0 E ce q9 H1 locs1 hE ⟨hK, h1, h2, hS1, hA⟩ g1 g2 g3
  · obtain ⟨hk0, rfl⟩ := hpost
    obtain ⟨hP2, hD2⟩ := hB
    rw [ht] at hP2
    obtain ⟨h1, h2⟩ := k_frame hP hD hk1 hF hP2 hD2
    exact kk hk0 H1 locs1 ⟨hK, h1, h2, hS1, hA⟩
theorem k_xcallSi' (F : CallFix p m c cc nL s args Ts own) (hT : ∀ q ∈ BIG, q ∈ Ts) {y : MethodName} {bytes : ByteArray} {mL : Nat} {ret : Option FieldType} {fr mc ms lo : Nat} {As : List Value} {index nn : Nat} {w1 w2 : va_W} {k : Nat} {rv : Int32} {st0 : List Value} (hM : MetXI G l y bytes mL ret fr mc ms lo As w1 w2 k rv) (hc : CalS y bytes mL ret nn) (hl : Cond.methodLink own index y ∈ BIG) (hZ : ZZ A s s.heap) (hw : Wd G w1 A s H locs) (hn : As.length = nn) (hls : ls.size = nL) (hst : st0 = As.reverse ++ rest) (hcat : (rest.map fun v => v.category).sum ≤ 8) (hR : fr + 1 ≤ R.frames ∧ 8 + (mL + 11) + lo ≤ R.locals) (hf : cells + mc ≤ R.cells ∧ slots + ms ≤ R.slots) (hdg : decode cc pc = .ok (.invokestatic index, 3))
    (kx : k ≠ 0 → ∀ (E : String) (ce : Cell) (q9 : Nat) (H1 : Heap) (locs1 : List Loc), E = exn k → Wd G w2 A s H1 locs1 → H1[q9]? = some ce → ce.vm = .none → s.vm.findClass E = some ce.cls → vx_W p l e R s m args below meth c H1 locs1 (cells + mc) (slots + ms) Q (F0 m pc ls rest) q9)
    (kk : k = 0 → ∀ (H1 : Heap) (locs1 : List Loc), Wd G w2 A s H1 locs1 → W p l e R s m args below meth c H1 locs1 (cells + mc) (slots + ms) Q (F0 m (pc + 3) ls (.int rv :: rest))) : W p l e R s m args below meth c H locs cells slots Q (F0 m pc ls st0) :=
  k_xcallSi (wl := []) (wr := []) F hT hM hc hl hZ (by rw [List.append_nil]; exact hw) hn hls hst hcat hR hf hdg (fun hk E ce q9 H1 locs1 hE h => kx hk E ce q9 H1 locs1 hE (by rw [List.append_nil] at h; exact h)) (fun hk H1 locs1 h => kk hk H1 locs1 (by rw [List.append_nil] at h; exact h))
theorem k_xcallPi (F : CallFix p m c cc nL s args Ts own) (hT : ∀ q ∈ BIG, q ∈ Ts) {y : MethodName} {bytes : ByteArray} {mL : Nat} {ret : Option FieldType} {fr mc ms lo : Nat} {As : List Value} {index nn : Nat} {k : Nat} {rv : Int32} {st0 : List Value} (hM : MetXI G l y bytes mL ret fr mc ms lo As [] [] k rv) (hc : CalS y bytes mL ret nn) (hl : Cond.methodLink own index y ∈ BIG) (hZ : ZZ A s s.heap) (hw : Wd G w A s H locs) (hn : As.length = nn) (hls : ls.size = nL) (hst : st0 = As.reverse ++ rest) (hcat : (rest.map fun v => v.category).sum ≤ 8) (hR : fr + 1 ≤ R.frames ∧ 8 + (mL + 11) + lo ≤ R.locals) (hf : cells + mc ≤ R.cells ∧ slots + ms ≤ R.slots) (hdg : decode cc pc = .ok (.invokestatic index, 3))
    (kx : k ≠ 0 → ∀ (E : String) (ce : Cell) (q9 : Nat) (H1 : Heap) (locs1 : List Loc), E = exn k → Wd G w A s H1 locs1 → H1[q9]? = some ce → ce.vm = .none → s.vm.findClass E = some ce.cls → vx_W p l e R s m args below meth c H1 locs1 (cells + mc) (slots + ms) Q (F0 m pc ls rest) q9)
    (kk : k = 0 → ∀ (H1 : Heap) (locs1 : List Loc), Wd G w A s H1 locs1 → W p l e R s m args below meth c H1 locs1 (cells + mc) (slots + ms) Q (F0 m (pc + 3) ls (.int rv :: rest))) : W p l e R s m args below meth c H locs cells slots Q (F0 m pc ls st0) :=
  k_xcallSi (wl := []) (w1 := []) (w2 := []) (wr := w) F hT hM hc hl hZ hw hn hls hst hcat hR hf hdg kx kk
theorem k_xcallVv (F : CallFix p m c cc nL s args Ts own) (hT : ∀ q ∈ BIG, q ∈ Ts) {y : MethodName} {bytes : ByteArray} {mL : Nat} {ret : Option FieldType} {fr mc ms lo : Nat} {As : List Value} {index nn : Nat} {b : Nat} {ci : Nat} {fs : List Value} {T : u_T} {N : Nat} {w1 w2 wl wr : va_W} {k : Nat} {st0 : List Value} (hM : MetXV G l y bytes mL ret fr mc ms lo (.ref b :: As) w1 w2 k) (hc : CalV y bytes mL ret nn) (hl : Cond.methodLink own index y ∈ BIG) (hZ : ZZ A s s.heap) (hw : Wd G (wl ++ (w1 ++ wr)) A s H locs) (q0 : Nat) (he : w1[q0]? = some (b, .inr (ci, fs))) (hci : vwCl[ci]? = some (y.cls, T, N)) (hn : As.length = nn) (hls : ls.size = nL) (hst : st0 = As.reverse ++ .ref b :: rest) (hcat : (rest.map fun v => v.category).sum ≤ 8) (hR : fr + 1 ≤ R.frames ∧ 8 + (mL + 11) + lo ≤ R.locals) (hf : cells + mc ≤ R.cells ∧ slots + ms ≤ R.slots) (hdg : decode cc pc = .ok (.invokevirtual index, 3))
    (kx : k ≠ 0 → ∀ (E : String) (ce : Cell) (q9 : Nat) (H1 : Heap) (locs1 : List Loc), E = exn k → Wd G (wl ++ (w2 ++ wr)) A s H1 locs1 → H1[q9]? = some ce → ce.vm = .none → s.vm.findClass E = some ce.cls → vx_W p l e R s m args below meth c H1 locs1 (cells + mc) (slots + ms) Q (F0 m pc ls rest) q9)
    (kk : k = 0 → ∀ (H1 : Heap) (locs1 : List Loc), Wd G (wl ++ (w2 ++ wr)) A s H1 locs1 → W p l e R s m args below meth c H1 locs1 (cells + mc) (slots + ms) Q (F0 m (pc + 3) ls (rest))) : W p l e R s m args below meth c H locs cells slots Q (F0 m pc ls st0) := by
  obtain ⟨hK, hP, hD, hS, hA⟩ := hw
  have hP1 : va_P G.1 vwCl w1 H := k_Pl (k_Pr hP)
  have hD1 : va_D A w1 := k_Dl (k_Dr hD)
  have hF : ∀ q, va_A w1 H.size q → A q := fun q h => by
    rcases h with ⟨k, e, h⟩ | h
    · exact hD1.2 k _ h
    · exact hA q (Nat.le_trans hS.1 h)
  subst hst
  have hZ1 : vx_Zq Bundle.tN "UNASSIGNED_STACK" Bundle.steD (va_A w1 H.size) s H := (hZ.1.kept hS.2.1).narrow hF
  have hZ2 : vx_Zq Bundle.tN "SUPPRESSED_SENTINEL" Bundle.listD (va_A w1 H.size) s H := (hZ.2.1.kept hS.2.1).narrow hF
  refine vx_callv (vx_runV (As := As) (rest := rest) F (hM H.size) (k_cwV (rm := rmk fr mc ms lo) F.2.2.2.2 hT hl hc hR) ⟨k_blindX, va_recv hK hP1 hci he, fun U hU hW => ⟨rfl, ⟨by rw [hU], by rw [hU]; exact hP1, va_K.moved hW.alike hK, hD1.weaken (fun _ _ _ _ => trivial)⟩, by rw [hU]; exact vx_Zq.moved hW.alike hZ1, by rw [hU]; exact vx_Zq.moved hW.alike hZ2, hZ.2.2.warm hW⟩⟩ rfl hn hls rfl (lv_room hcat) hdg hf) hS (fun q _ h => hF q h) hF (fun q _ h => hF q h) (fun E ce q9 u t H1 locs1 ht hvm _ hB hz1 hk1 hS1 g1 g2 g3 => ?_) (fun u t H1 locs1 ht hvm hpost hB hz1 hk1 hS1 => ?_)
  · obtain ⟨⟨hk0, hE⟩, hP2, hD2⟩ := hB
    rw [ht] at hP2
    obtain ⟨h1, h2⟩ := k_frame hP hD hk1 hF hP2 hD2
    exact kx hk0 E ce q9 H1 locs1 hE ⟨hK, h1, h2, hS1, hA⟩ g1 g2 g3
  · have hk0 := hpost
    obtain ⟨hP2, hD2⟩ := hB
    rw [ht] at hP2
    obtain ⟨h1, h2⟩ := k_frame hP hD hk1 hF hP2 hD2
    exact kk hk0 H1 locs1 ⟨hK, h1, h2, hS1, hA⟩
theorem k_xcallVv' (F : CallFix p m c cc nL s args Ts own) (hT : ∀ q ∈ BIG, q ∈ Ts) {y : MethodName} {bytes : ByteArray} {mL : Nat} {ret : Option FieldType} {fr mc ms lo : Nat} {As : List Value} {index nn : Nat} {b : Nat} {ci : Nat} {fs : List Value} {T : u_T} {N : Nat} {w1 w2 : va_W} {k : Nat} {st0 : List Value} (hM : MetXV G l y bytes mL ret fr mc ms lo (.ref b :: As) w1 w2 k) (hc : CalV y bytes mL ret nn) (hl : Cond.methodLink own index y ∈ BIG) (hZ : ZZ A s s.heap) (hw : Wd G w1 A s H locs) (q0 : Nat) (he : w1[q0]? = some (b, .inr (ci, fs))) (hci : vwCl[ci]? = some (y.cls, T, N)) (hn : As.length = nn) (hls : ls.size = nL) (hst : st0 = As.reverse ++ .ref b :: rest) (hcat : (rest.map fun v => v.category).sum ≤ 8) (hR : fr + 1 ≤ R.frames ∧ 8 + (mL + 11) + lo ≤ R.locals) (hf : cells + mc ≤ R.cells ∧ slots + ms ≤ R.slots) (hdg : decode cc pc = .ok (.invokevirtual index, 3))
    (kx : k ≠ 0 → ∀ (E : String) (ce : Cell) (q9 : Nat) (H1 : Heap) (locs1 : List Loc), E = exn k → Wd G w2 A s H1 locs1 → H1[q9]? = some ce → ce.vm = .none → s.vm.findClass E = some ce.cls → vx_W p l e R s m args below meth c H1 locs1 (cells + mc) (slots + ms) Q (F0 m pc ls rest) q9)
    (kk : k = 0 → ∀ (H1 : Heap) (locs1 : List Loc), Wd G w2 A s H1 locs1 → W p l e R s m args below meth c H1 locs1 (cells + mc) (slots + ms) Q (F0 m (pc + 3) ls (rest))) : W p l e R s m args below meth c H locs cells slots Q (F0 m pc ls st0) :=
  k_xcallVv (wl := []) (wr := []) F hT hM hc hl hZ (by rw [List.append_nil]; exact hw) q0 he hci hn hls hst hcat hR hf hdg (fun hk E ce q9 H1 locs1 hE h => kx hk E ce q9 H1 locs1 hE (by rw [List.append_nil] at h; exact h)) (fun hk H1 locs1 h => kk hk H1 locs1 (by rw [List.append_nil] at h; exact h))
theorem k_xcallSv (F : CallFix p m c cc nL s args Ts own) (hT : ∀ q ∈ BIG, q ∈ Ts) {y : MethodName} {bytes : ByteArray} {mL : Nat} {ret : Option FieldType} {fr mc ms lo : Nat} {As : List Value} {index nn : Nat} {w1 w2 wl wr : va_W} {k : Nat} {st0 : List Value} (hM : MetXV G l y bytes mL ret fr mc ms lo As w1 w2 k) (hc : CalS y bytes mL ret nn) (hl : Cond.methodLink own index y ∈ BIG) (hZ : ZZ A s s.heap) (hw : Wd G (wl ++ (w1 ++ wr)) A s H locs) (hn : As.length = nn) (hls : ls.size = nL) (hst : st0 = As.reverse ++ rest) (hcat : (rest.map fun v => v.category).sum ≤ 8) (hR : fr + 1 ≤ R.frames ∧ 8 + (mL + 11) + lo ≤ R.locals) (hf : cells + mc ≤ R.cells ∧ slots + ms ≤ R.slots) (hdg : decode cc pc = .ok (.invokestatic index, 3))
    (kx : k ≠ 0 → ∀ (E : String) (ce : Cell) (q9 : Nat) (H1 : Heap) (locs1 : List Loc), E = exn k → Wd G (wl ++ (w2 ++ wr)) A s H1 locs1 → H1[q9]? = some ce → ce.vm = .none → s.vm.findClass E = some ce.cls → vx_W p l e R s m args below meth c H1 locs1 (cells + mc) (slots + ms) Q (F0 m pc ls rest) q9)
    (kk : k = 0 → ∀ (H1 : Heap) (locs1 : List Loc), Wd G (wl ++ (w2 ++ wr)) A s H1 locs1 → W p l e R s m args below meth c H1 locs1 (cells + mc) (slots + ms) Q (F0 m (pc + 3) ls (rest))) : W p l e R s m args below meth c H locs cells slots Q (F0 m pc ls st0) := by
  obtain ⟨hK, hP, hD, hS, hA⟩ := hw
  have hP1 : va_P G.1 vwCl w1 H := k_Pl (k_Pr hP)
  have hD1 : va_D A w1 := k_Dl (k_Dr hD)
  have hF : ∀ q, va_A w1 H.size q → A q := fun q h => by
    rcases h with ⟨k, e, h⟩ | h
    · exact hD1.2 k _ h
    · exact hA q (Nat.le_trans hS.1 h)
  subst hst
  have hZ1 : vx_Zq Bundle.tN "UNASSIGNED_STACK" Bundle.steD (va_A w1 H.size) s H := (hZ.1.kept hS.2.1).narrow hF
  have hZ2 : vx_Zq Bundle.tN "SUPPRESSED_SENTINEL" Bundle.listD (va_A w1 H.size) s H := (hZ.2.1.kept hS.2.1).narrow hF
  refine vx_callv (vx_runS (As := As) (rest := rest) F (hM H.size) (k_cwS (rm := rmk fr mc ms lo) F.2.2.2.2 hT hl hc hR) ⟨k_blindX, fun U hU hW => ⟨rfl, ⟨by rw [hU], by rw [hU]; exact hP1, va_K.moved hW.alike hK, hD1.weaken (fun _ _ _ _ => trivial)⟩, by rw [hU]; exact vx_Zq.moved hW.alike hZ1, by rw [hU]; exact vx_Zq.moved hW.alike hZ2, hZ.2.2.warm hW⟩⟩ rfl hn hls rfl (lv_room hcat) hdg hf) hS (fun q _ h => hF q h) hF (fun q _ h => hF q h) (fun E ce q9 u t H1 locs1 ht hvm _ hB hz1 hk1 hS1 g1 g2 g3 => ?_) (fun u t H1 locs1 ht hvm hpost hB hz1 hk1 hS1 => ?_)
  · obtain ⟨⟨hk0, hE⟩, hP2, hD2⟩ := hB
    rw [ht] at hP2
    obtain ⟨h1, h2⟩ := k_frame hP hD hk1 hF hP2 hD2
    exact kx hk0 E ce q9 H1 locs1 hE ⟨hK, h1, h2, hS1, hA⟩ g1 g2 g3
  · have hk0 := hpost
    obtain ⟨hP2, hD2⟩ := hB
    rw [ht] at hP2
    obtain ⟨h1, h2⟩ := k_frame hP hD hk1 hF hP2 hD2
    exact kk hk0 H1 locs1 ⟨hK, h1, h2, hS1, hA⟩
theorem k_xcallSv' (F : CallFix p m c cc nL s args Ts own) (hT : ∀ q ∈ BIG, q ∈ Ts) {y : MethodName} {bytes : ByteArray} {mL : Nat} {ret : Option FieldType} {fr mc ms lo : Nat} {As : List Value} {index nn : Nat} {w1 w2 : va_W} {k : Nat} {st0 : List Value} (hM : MetXV G l y bytes mL ret fr mc ms lo As w1 w2 k) (hc : CalS y bytes mL ret nn) (hl : Cond.methodLink own index y ∈ BIG) (hZ : ZZ A s s.heap) (hw : Wd G w1 A s H locs) (hn : As.length = nn) (hls : ls.size = nL) (hst : st0 = As.reverse ++ rest) (hcat : (rest.map fun v => v.category).sum ≤ 8) (hR : fr + 1 ≤ R.frames ∧ 8 + (mL + 11) + lo ≤ R.locals) (hf : cells + mc ≤ R.cells ∧ slots + ms ≤ R.slots) (hdg : decode cc pc = .ok (.invokestatic index, 3))
    (kx : k ≠ 0 → ∀ (E : String) (ce : Cell) (q9 : Nat) (H1 : Heap) (locs1 : List Loc), E = exn k → Wd G w2 A s H1 locs1 → H1[q9]? = some ce → ce.vm = .none → s.vm.findClass E = some ce.cls → vx_W p l e R s m args below meth c H1 locs1 (cells + mc) (slots + ms) Q (F0 m pc ls rest) q9)
    (kk : k = 0 → ∀ (H1 : Heap) (locs1 : List Loc), Wd G w2 A s H1 locs1 → W p l e R s m args below meth c H1 locs1 (cells + mc) (slots + ms) Q (F0 m (pc + 3) ls (rest))) : W p l e R s m args below meth c H locs cells slots Q (F0 m pc ls st0) :=
  k_xcallSv (wl := []) (wr := []) F hT hM hc hl hZ (by rw [List.append_nil]; exact hw) hn hls hst hcat hR hf hdg (fun hk E ce q9 H1 locs1 hE h => kx hk E ce q9 H1 locs1 hE (by rw [List.append_nil] at h; exact h)) (fun hk H1 locs1 h => kk hk H1 locs1 (by rw [List.append_nil] at h; exact h))
theorem k_xcallPv (F : CallFix p m c cc nL s args Ts own) (hT : ∀ q ∈ BIG, q ∈ Ts) {y : MethodName} {bytes : ByteArray} {mL : Nat} {ret : Option FieldType} {fr mc ms lo : Nat} {As : List Value} {index nn : Nat} {k : Nat} {st0 : List Value} (hM : MetXV G l y bytes mL ret fr mc ms lo As [] [] k) (hc : CalS y bytes mL ret nn) (hl : Cond.methodLink own index y ∈ BIG) (hZ : ZZ A s s.heap) (hw : Wd G w A s H locs) (hn : As.length = nn) (hls : ls.size = nL) (hst : st0 = As.reverse ++ rest) (hcat : (rest.map fun v => v.category).sum ≤ 8) (hR : fr + 1 ≤ R.frames ∧ 8 + (mL + 11) + lo ≤ R.locals) (hf : cells + mc ≤ R.cells ∧ slots + ms ≤ R.slots) (hdg : decode cc pc = .ok (.invokestatic index, 3))
    (kx : k ≠ 0 → ∀ (E : String) (ce : Cell) (q9 : Nat) (H1 : Heap) (locs1 : List Loc), E = exn k → Wd G w A s H1 locs1 → H1[q9]? = some ce → ce.vm = .none → s.vm.findClass E = some ce.cls → vx_W p l e R s m args below meth c H1 locs1 (cells + mc) (slots + ms) Q (F0 m pc ls rest) q9)
    (kk : k = 0 → ∀ (H1 : Heap) (locs1 : List Loc), Wd G w A s H1 locs1 → W p l e R s m args below meth c H1 locs1 (cells + mc) (slots + ms) Q (F0 m (pc + 3) ls (rest))) : W p l e R s m args below meth c H locs cells slots Q (F0 m pc ls st0) :=
  k_xcallSv (wl := []) (w1 := []) (w2 := []) (wr := w) F hT hM hc hl hZ hw hn hls hst hcat hR hf hdg kx kk
end KITX
theorem thc_1 : Cond.classLink RX6 84 (exn 1) ∈ BIG := big_in (List.mem_of_getElem? (i := 852) (by decide +kernel)) (by decide +kernel)
theorem thi_1 : Cond.initialized (exn 1) ∈ BIG := big_in (List.mem_of_getElem? (i := 75) (by decide +kernel)) (by decide +kernel)
theorem tha_1 : ∀ w ∈ vx_at0 RX6 86 (exn 1) exs, w ∈ BIG ∨ w ∈ XW := by
  have h : (vx_at0 RX6 86 (exn 1) exs).all (fun w => (decide (w ∈ lw_tbl) && goodWord w) || decide (w ∈ XW)) = true := by decide +kernel
  intro w hw
  have h1 := List.all_eq_true.mp h w hw
  simp only [Bool.or_eq_true, Bool.and_eq_true, decide_eq_true_eq] at h1
  exact h1.elim (fun h => Or.inl (big_in h.1 h.2)) Or.inr
theorem thc_2 : Cond.classLink RX6 96 (exn 2) ∈ BIG := big_in (List.mem_of_getElem? (i := 938) (by decide +kernel)) (by decide +kernel)
theorem thi_2 : Cond.initialized (exn 2) ∈ BIG := big_in (List.mem_of_getElem? (i := 77) (by decide +kernel)) (by decide +kernel)
theorem tha_2 : ∀ w ∈ vx_at0 RX6 98 (exn 2) exs, w ∈ BIG ∨ w ∈ XW := by
  have h : (vx_at0 RX6 98 (exn 2) exs).all (fun w => (decide (w ∈ lw_tbl) && goodWord w) || decide (w ∈ XW)) = true := by decide +kernel
  intro w hw
  have h1 := List.all_eq_true.mp h w hw
  simp only [Bool.or_eq_true, Bool.and_eq_true, decide_eq_true_eq] at h1
  exact h1.elim (fun h => Or.inl (big_in h.1 h.2)) Or.inr
theorem thc_3 : Cond.classLink RX6 249 (exn 3) ∈ BIG := big_in (List.mem_of_getElem? (i := 1022) (by decide +kernel)) (by decide +kernel)
theorem thi_3 : Cond.initialized (exn 3) ∈ BIG := big_in (List.mem_of_getElem? (i := 81) (by decide +kernel)) (by decide +kernel)
theorem tha_3 : ∀ w ∈ vx_at0 RX6 251 (exn 3) exs, w ∈ BIG ∨ w ∈ XW := by
  have h : (vx_at0 RX6 251 (exn 3) exs).all (fun w => (decide (w ∈ lw_tbl) && goodWord w) || decide (w ∈ XW)) = true := by decide +kernel
  intro w hw
  have h1 := List.all_eq_true.mp h w hw
  simp only [Bool.or_eq_true, Bool.and_eq_true, decide_eq_true_eq] at h1
  exact h1.elim (fun h => Or.inl (big_in h.1 h.2)) Or.inr
theorem thc_4 : Cond.classLink RX6 205 (exn 4) ∈ BIG := big_in (List.mem_of_getElem? (i := 1129) (by decide +kernel)) (by decide +kernel)
theorem thi_4 : Cond.initialized (exn 4) ∈ BIG := big_in (List.mem_of_getElem? (i := 82) (by decide +kernel)) (by decide +kernel)
theorem tha_4 : ∀ w ∈ vx_at0 RX6 207 (exn 4) exs, w ∈ BIG ∨ w ∈ XW := by
  have h : (vx_at0 RX6 207 (exn 4) exs).all (fun w => (decide (w ∈ lw_tbl) && goodWord w) || decide (w ∈ XW)) = true := by decide +kernel
  intro w hw
  have h1 := List.all_eq_true.mp h w hw
  simp only [Bool.or_eq_true, Bool.and_eq_true, decide_eq_true_eq] at h1
  exact h1.elim (fun h => Or.inl (big_in h.1 h.2)) Or.inr
