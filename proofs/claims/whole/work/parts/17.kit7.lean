/-! ===== my kit, 7: contracts with a premise Pr; the StringBuilder's two cells ===== -/
def PcP (Pr : (Nat → Prop) → State → Heap → Prop) (G : gG) (w1 : va_W) (sz : Nat) (U : State) : Prop := PcW G w1 sz U ∧ Pr (va_A w1 sz) U U.heap
def MetPI (Pr : (Nat → Prop) → State → Heap → Prop) (G : gG) (l : Launch) (y : MethodName) (cc : ByteArray) (mL : Nat) (ret : Option FieldType) (fr mc ms lo : Nat) (av : List Value) (w1 w2 : va_W) (rv : Int32) : Prop :=
  ∀ sz : Nat, Met l y (WS y cc mL ret) (rmk fr mc ms lo) (va_Pc av (PcP Pr G w1 sz)) (va_Qi (fun (r : Int32) (_ : Unit) => r = rv) (fun _ t => BW G w2 (va_A w1 sz) t) (va_A w1 sz)) mc ms (va_A w1 sz)
def MetPU (Pr : (Nat → Prop) → State → Heap → Prop) (G : gG) (l : Launch) (y : MethodName) (cc : ByteArray) (mL : Nat) (ret : Option FieldType) (fr mc ms lo : Nat) (av : List Value) (w1 : va_W) (w2 : Nat → va_W) : Prop :=
  ∀ sz : Nat, Met l y (WS y cc mL ret) (rmk fr mc ms lo) (va_Pc av (PcP Pr G w1 sz)) (va_Qv (fun (_ : Nat) => True) (fun u t => BW G (w2 u) (va_A w1 sz) t) (va_A w1 sz)) mc ms (va_A w1 sz)
def MetPIU (Pr : (Nat → Prop) → State → Heap → Prop) (G : gG) (l : Launch) (y : MethodName) (cc : ByteArray) (mL : Nat) (ret : Option FieldType) (fr mc ms lo : Nat) (av : List Value) (w1 : va_W) (w2 : Nat → va_W) (rv : Int32) : Prop :=
  ∀ sz : Nat, Met l y (WS y cc mL ret) (rmk fr mc ms lo) (va_Pc av (PcP Pr G w1 sz)) (va_Qi (fun (r : Int32) (_ : Nat) => r = rv) (fun u t => BW G (w2 u) (va_A w1 sz) t) (va_A w1 sz)) mc ms (va_A w1 sz)
def MetPR (Pr : (Nat → Prop) → State → Heap → Prop) (G : gG) (l : Launch) (y : MethodName) (cc : ByteArray) (mL : Nat) (ret : Option FieldType) (fr mc ms lo : Nat) (av : List Value) (w1 : va_W) (w2 : Nat → va_W) (ra : Nat → Nat) : Prop :=
  ∀ sz : Nat, Met l y (WS y cc mL ret) (rmk fr mc ms lo) (va_Pc av (PcP Pr G w1 sz)) (va_Qr (fun (_ : Nat) => True) (fun u a t => a = ra u ∧ BW G (w2 u) (va_A w1 sz) t) (va_A w1 sz)) mc ms (va_A w1 sz)
def KQPU (G : gG) (below : List Frame) (args : Array Value) (s : State) (A : Nat → Prop) (w2 : Nat → va_W) (mc ms : Nat) : State → Prop := MQ below (va_Qv (fun (_ : Nat) => True) (fun u t => BW G (w2 u) A t) A) args s mc ms A
def KQPIU (G : gG) (below : List Frame) (args : Array Value) (s : State) (A : Nat → Prop) (w2 : Nat → va_W) (rv : Int32) (mc ms : Nat) : State → Prop := MQ below (va_Qi (fun (r : Int32) (_ : Nat) => r = rv) (fun u t => BW G (w2 u) A t) A) args s mc ms A
def KQPR (G : gG) (below : List Frame) (args : Array Value) (s : State) (A : Nat → Prop) (w2 : Nat → va_W) (ra : Nat → Nat) (mc ms : Nat) : State → Prop := MQ below (va_Qr (fun (_ : Nat) => True) (fun u a t => a = ra u ∧ BW G (w2 u) A t) A) args s mc ms A
theorem k_ofPI {Pr : (Nat → Prop) → State → Heap → Prop} {G : gG} {l : Launch} {y : MethodName} {cc : ByteArray} {mL : Nat} {ret : Option FieldType} {fr mc ms lo : Nat} {av : List Value} {w1 w2 : va_W} {rv : Int32} (hy : plainName y.cls = true) (hn : (lg_sl av).length ≤ mL)
    (body : ∀ (p : Program) (e : Env) (s : State) (m : MethodId) (args : Array Value) (below : List Frame) (meth : Method) (c : Code) (ls : Array Slot) (A : Nat → Prop), CallFix p m c cc mL s args (WS y cc mL ret) y.cls → meth.sig.returnType = ret → meth.locks = false → lv_has ls mL (lv_args 0 av) → Wd G w1 A s s.heap [] → Pr A s s.heap →
      W p l e (rmk fr mc ms lo) s m args below meth c s.heap [] 0 0 (KQI G below args s A w2 rv mc ms) (F0 m 0 ls [])) : MetPI Pr G l y cc mL ret fr mc ms lo av w1 w2 rv := by
  intro sz
  refine Met.ofW (cc := cc) (maxL := mL) (ret := ret) hy rfl ?_
  intro p e s m args below meth c s₁ B hml hv
  obtain ⟨rfl, ⟨hsz, hP, hK, hD0⟩, hZ⟩ := hv
  subst hsz
  have hD := hD0.self (sz := s.heap.size)
  have hl := lv_entry av (n := mL) hn
  rw [lg_entry_eq]
  have hts := atoms_spec (ws := WS y cc mL ret) B.pre
  exact body p e s m _ below meth c _ (va_A w1 s.heap.size) ⟨B.exec, B.bytes, hml, findClass_of_methodNamed B.named, hts⟩ B.returns B.notSynchronized hl ⟨hK, hP, hD, va_S.rf, fun q h => Or.inr h⟩ hZ
theorem k_ofPU {Pr : (Nat → Prop) → State → Heap → Prop} {G : gG} {l : Launch} {y : MethodName} {cc : ByteArray} {mL : Nat} {ret : Option FieldType} {fr mc ms lo : Nat} {av : List Value} {w1 : va_W} {w2 : Nat → va_W} (hy : plainName y.cls = true) (hn : (lg_sl av).length ≤ mL)
    (body : ∀ (p : Program) (e : Env) (s : State) (m : MethodId) (args : Array Value) (below : List Frame) (meth : Method) (c : Code) (ls : Array Slot) (A : Nat → Prop), CallFix p m c cc mL s args (WS y cc mL ret) y.cls → meth.sig.returnType = ret → meth.locks = false → lv_has ls mL (lv_args 0 av) → Wd G w1 A s s.heap [] → Pr A s s.heap →
      W p l e (rmk fr mc ms lo) s m args below meth c s.heap [] 0 0 (KQPU G below args s A w2 mc ms) (F0 m 0 ls [])) : MetPU Pr G l y cc mL ret fr mc ms lo av w1 w2 := by
  intro sz
  refine Met.ofW (cc := cc) (maxL := mL) (ret := ret) hy rfl ?_
  intro p e s m args below meth c s₁ B hml hv
  obtain ⟨rfl, ⟨hsz, hP, hK, hD0⟩, hZ⟩ := hv
  subst hsz
  have hD := hD0.self (sz := s.heap.size)
  have hl := lv_entry av (n := mL) hn
  rw [lg_entry_eq]
  have hts := atoms_spec (ws := WS y cc mL ret) B.pre
  exact body p e s m _ below meth c _ (va_A w1 s.heap.size) ⟨B.exec, B.bytes, hml, findClass_of_methodNamed B.named, hts⟩ B.returns B.notSynchronized hl ⟨hK, hP, hD, va_S.rf, fun q h => Or.inr h⟩ hZ
theorem k_ofPIU {Pr : (Nat → Prop) → State → Heap → Prop} {G : gG} {l : Launch} {y : MethodName} {cc : ByteArray} {mL : Nat} {ret : Option FieldType} {fr mc ms lo : Nat} {av : List Value} {w1 : va_W} {w2 : Nat → va_W} {rv : Int32} (hy : plainName y.cls = true) (hn : (lg_sl av).length ≤ mL)
    (body : ∀ (p : Program) (e : Env) (s : State) (m : MethodId) (args : Array Value) (below : List Frame) (meth : Method) (c : Code) (ls : Array Slot) (A : Nat → Prop), CallFix p m c cc mL s args (WS y cc mL ret) y.cls → meth.sig.returnType = ret → meth.locks = false → lv_has ls mL (lv_args 0 av) → Wd G w1 A s s.heap [] → Pr A s s.heap →
      W p l e (rmk fr mc ms lo) s m args below meth c s.heap [] 0 0 (KQPIU G below args s A w2 rv mc ms) (F0 m 0 ls [])) : MetPIU Pr G l y cc mL ret fr mc ms lo av w1 w2 rv := by
  intro sz
  refine Met.ofW (cc := cc) (maxL := mL) (ret := ret) hy rfl ?_
  intro p e s m args below meth c s₁ B hml hv
  obtain ⟨rfl, ⟨hsz, hP, hK, hD0⟩, hZ⟩ := hv
  subst hsz
  have hD := hD0.self (sz := s.heap.size)
  have hl := lv_entry av (n := mL) hn
  rw [lg_entry_eq]
  have hts := atoms_spec (ws := WS y cc mL ret) B.pre
  exact body p e s m _ below meth c _ (va_A w1 s.heap.size) ⟨B.exec, B.bytes, hml, findClass_of_methodNamed B.named, hts⟩ B.returns B.notSynchronized hl ⟨hK, hP, hD, va_S.rf, fun q h => Or.inr h⟩ hZ
theorem k_ofPR {Pr : (Nat → Prop) → State → Heap → Prop} {G : gG} {l : Launch} {y : MethodName} {cc : ByteArray} {mL : Nat} {ret : Option FieldType} {fr mc ms lo : Nat} {av : List Value} {w1 : va_W} {w2 : Nat → va_W} {ra : Nat → Nat} (hy : plainName y.cls = true) (hn : (lg_sl av).length ≤ mL)
    (body : ∀ (p : Program) (e : Env) (s : State) (m : MethodId) (args : Array Value) (below : List Frame) (meth : Method) (c : Code) (ls : Array Slot) (A : Nat → Prop), CallFix p m c cc mL s args (WS y cc mL ret) y.cls → meth.sig.returnType = ret → meth.locks = false → lv_has ls mL (lv_args 0 av) → Wd G w1 A s s.heap [] → Pr A s s.heap →
      W p l e (rmk fr mc ms lo) s m args below meth c s.heap [] 0 0 (KQPR G below args s A w2 ra mc ms) (F0 m 0 ls [])) : MetPR Pr G l y cc mL ret fr mc ms lo av w1 w2 ra := by
  intro sz
  refine Met.ofW (cc := cc) (maxL := mL) (ret := ret) hy rfl ?_
  intro p e s m args below meth c s₁ B hml hv
  obtain ⟨rfl, ⟨hsz, hP, hK, hD0⟩, hZ⟩ := hv
  subst hsz
  have hD := hD0.self (sz := s.heap.size)
  have hl := lv_entry av (n := mL) hn
  rw [lg_entry_eq]
  have hts := atoms_spec (ws := WS y cc mL ret) B.pre
  exact body p e s m _ below meth c _ (va_A w1 s.heap.size) ⟨B.exec, B.bytes, hml, findClass_of_methodNamed B.named, hts⟩ B.returns B.notSynchronized hl ⟨hK, hP, hD, va_S.rf, fun q h => Or.inr h⟩ hZ
section KIT7
variable {p : Program} {l : Launch} {e : Env} {R : Room} {s : State} {m : MethodId} {args : Array Value} {below : List Frame} {meth : Method} {c : Code} {H : Heap} {locs : List Loc} {cells slots : Nat} {Q : State → Prop}
variable {cc : ByteArray} {pc : Nat} {ls : Array Slot} {rest : List Value} {nL : Nat} {Ts : List Cond} {own : String} {G : gG} {A : Nat → Prop} {w w' : va_W} {a n : Nat}
theorem k_cut {α : Type} {P : Prop} {r : α} (h : (none : Option α) = some r) : P := by cases h
theorem k_uret {w2 : Nat → va_W} (F : CallFix p m c cc nL s args Ts own) (hr : meth.sig.returnType = none) (hlk : meth.locks = false) (u : Nat) (hw : Wd G (w2 u) A s H locs) {mc ms : Nat} (hc : cells ≤ mc) (hs : slots ≤ ms) (hdg : decode cc pc = .ok (.return_, 1)) : W p l e R s m args below meth c H locs cells slots (KQPU G below args s A w2 mc ms) (F0 m pc ls []) := by
  obtain ⟨hK, hP, hD, hS, hA⟩ := hw
  refine W.widen hc hs ?_
  exact W.vret F.1 F.2.1 hr (fun t ht hW => ⟨⟨u, rfl, trivial, ⟨by rw [ht]; exact hP, hD⟩⟩, hS.F ht⟩) hS.2.2 hdg hlk
theorem k_iuret {w2 : Nat → va_W} (F : CallFix p m c cc nL s args Ts own) (hr : meth.sig.returnType = some .int) (hlk : meth.locks = false) (u : Nat) (hw : Wd G (w2 u) A s H locs) {v : Int32} {mc ms : Nat} (hc : cells ≤ mc) (hs : slots ≤ ms) (hdg : decode cc pc = .ok (.ireturn, 1)) : W p l e R s m args below meth c H locs cells slots (KQPIU G below args s A w2 v mc ms) (F0 m pc ls [.int v]) := by
  obtain ⟨hK, hP, hD, hS, hA⟩ := hw
  refine W.widen hc hs ?_
  exact W.iret F.1 F.2.1 hr (fun t ht hW => ⟨⟨v, u, rfl, rfl, ⟨by rw [ht]; exact hP, hD⟩⟩, hS.F ht⟩) hS.2.2 hdg hlk
theorem k_rret {w2 : Nat → va_W} {ra : Nat → Nat} (F : CallFix p m c cc nL s args Ts own) {rt : FieldType} (hr : meth.sig.returnType = some rt) (hrt : (∃ n, rt = .object n) ∨ ∃ t, rt = .array t) (hlk : meth.locks = false) (u : Nat) (hw : Wd G (w2 u) A s H locs) {mc ms : Nat} (hc : cells ≤ mc) (hs : slots ≤ ms) (hdg : decode cc pc = .ok (.areturn, 1)) : W p l e R s m args below meth c H locs cells slots (KQPR G below args s A w2 ra mc ms) (F0 m pc ls [.ref (ra u)]) := by
  obtain ⟨hK, hP, hD, hS, hA⟩ := hw
  refine W.widen hc hs ?_
  exact W.aret F.1 F.2.1 hr hrt (Or.inr ⟨_, rfl⟩) (fun t ht hW => ⟨⟨u, ra u, rfl, trivial, rfl, ⟨by rw [ht]; exact hP, hD⟩⟩, hS.F ht⟩) hS.2.2 hdg hlk
theorem k_wF {wl w1 wr : va_W} (hw : Wd G (wl ++ (w1 ++ wr)) A s H locs) : ∀ q, va_A w1 H.size q → A q := fun q h => by
  obtain ⟨hK, hP, hD, hS, hA⟩ := hw
  rcases h with ⟨k, e, h⟩ | h
  · exact (k_Dl (k_Dr hD)).2 k _ h
  · exact hA q (Nat.le_trans hS.1 h)
theorem k_blindP {Pr : (Nat → Prop) → State → Heap → Prop} (hPr : PrOk Pr) {av : List Value} {w1 : va_W} {sz : Nat} : FrameBlind (va_Pc av (PcP Pr G w1 sz)) := k_blindN hPr
theorem k_preS {Pr : (Nat → Prop) → State → Heap → Prop} (hPr : PrOk Pr) {wl w1 wr : va_W} {As : List Value} (hw : Wd G (wl ++ (w1 ++ wr)) A s H locs) (hZ : Pr A s s.heap) : PreS s H (va_Pc As (PcP Pr G w1 H.size)) As := by
  have hF := k_wF hw
  obtain ⟨hK, hP, hD, hS, hA⟩ := hw
  have hP1 : va_P G.1 vwCl w1 H := k_Pl (k_Pr hP)
  have hD1 : va_D A w1 := k_Dl (k_Dr hD)
  have hZ1 : Pr A s H := hPr.2.1 A s s.heap H hS.2.1 hZ
  exact ⟨k_blindP hPr, fun U hU hW => ⟨rfl, ⟨by rw [hU], by rw [hU]; exact hP1, va_K.moved hW.alike hK, hD1.weaken (fun _ _ _ _ => trivial)⟩, by rw [hU]; exact hPr.1 _ _ _ _ _ hF hW hZ1⟩⟩
theorem k_preV {Pr : (Nat → Prop) → State → Heap → Prop} (hPr : PrOk Pr) {wl w1 wr : va_W} {As : List Value} {b ci N : Nat} {fs : List Value} {C : String} {T : u_T} (hw : Wd G (wl ++ (w1 ++ wr)) A s H locs) (hZ : Pr A s s.heap) (q0 : Nat) (he : w1[q0]? = some (b, .inr (ci, fs))) (hci : vwCl[ci]? = some (C, T, N)) : PreV s H C b (va_Pc (.ref b :: As) (PcP Pr G w1 H.size)) As := by
  obtain ⟨h1, h2⟩ := k_preS (As := .ref b :: As) hPr hw hZ
  obtain ⟨hK, hP, hD, hS, hA⟩ := hw
  exact ⟨h1, va_recv hK (k_Pl (k_Pr hP)) hci he, h2⟩
theorem k_goI {mc ms : Nat} {a : Array Value} {st0 : List Value} {wl w1 wr w2 : va_W} {rv : Int32} (hr : va_Run p l e R s m args below meth c H locs cells slots mc ms (F0 m pc ls st0) rest (va_Qi (fun (r : Int32) (_ : Unit) => r = rv) (fun _ t => BW G w2 (va_A w1 H.size) t) (va_A w1 H.size) a) (va_A w1 H.size)) (hw : Wd G (wl ++ (w1 ++ wr)) A s H locs)
    (kk : ∀ (H1 : Heap) (locs1 : List Loc), Wd G (wl ++ (w2 ++ wr)) A s H1 locs1 → W p l e R s m args below meth c H1 locs1 (cells + mc) (slots + ms) Q (F0 m (pc + 3) ls (.int rv :: rest))) : W p l e R s m args below meth c H locs cells slots Q (F0 m pc ls st0) := by
  have hF := k_wF hw
  obtain ⟨hK, hP, hD, hS, hA⟩ := hw
  refine va_calli hr hS (fun q _ h => hF q h) hF (fun r u t H1 locs1 ht hvm hpost hB hz1 hk1 hS1 => ?_)
  subst hpost
  obtain ⟨hP2, hD2⟩ := hB
  rw [ht] at hP2
  obtain ⟨h1, h2⟩ := k_frame hP hD hk1 hF hP2 hD2
  exact kk H1 locs1 ⟨hK, h1, h2, hS1, hA⟩
theorem k_goIU {mc ms : Nat} {a : Array Value} {st0 : List Value} {wl w1 wr : va_W} {w2 : Nat → va_W} {rv : Int32} (hr : va_Run p l e R s m args below meth c H locs cells slots mc ms (F0 m pc ls st0) rest (va_Qi (fun (r : Int32) (_ : Nat) => r = rv) (fun u t => BW G (w2 u) (va_A w1 H.size) t) (va_A w1 H.size) a) (va_A w1 H.size)) (hw : Wd G (wl ++ (w1 ++ wr)) A s H locs)
    (kk : ∀ (u : Nat) (H1 : Heap) (locs1 : List Loc), Wd G (wl ++ (w2 u ++ wr)) A s H1 locs1 → W p l e R s m args below meth c H1 locs1 (cells + mc) (slots + ms) Q (F0 m (pc + 3) ls (.int rv :: rest))) : W p l e R s m args below meth c H locs cells slots Q (F0 m pc ls st0) := by
  have hF := k_wF hw
  obtain ⟨hK, hP, hD, hS, hA⟩ := hw
  refine va_calli hr hS (fun q _ h => hF q h) hF (fun r u t H1 locs1 ht hvm hpost hB hz1 hk1 hS1 => ?_)
  subst hpost
  obtain ⟨hP2, hD2⟩ := hB
  rw [ht] at hP2
  obtain ⟨h1, h2⟩ := k_frame hP hD hk1 hF hP2 hD2
  exact kk u H1 locs1 ⟨hK, h1, h2, hS1, hA⟩
theorem k_goU {mc ms : Nat} {a : Array Value} {st0 : List Value} {wl w1 wr : va_W} {w2 : Nat → va_W} (hr : va_Run p l e R s m args below meth c H locs cells slots mc ms (F0 m pc ls st0) rest (va_Qv (fun (_ : Nat) => True) (fun u t => BW G (w2 u) (va_A w1 H.size) t) (va_A w1 H.size) a) (va_A w1 H.size)) (hw : Wd G (wl ++ (w1 ++ wr)) A s H locs)
    (kk : ∀ (u : Nat) (H1 : Heap) (locs1 : List Loc), Wd G (wl ++ (w2 u ++ wr)) A s H1 locs1 → W p l e R s m args below meth c H1 locs1 (cells + mc) (slots + ms) Q (F0 m (pc + 3) ls rest)) : W p l e R s m args below meth c H locs cells slots Q (F0 m pc ls st0) := by
  have hF := k_wF hw
  obtain ⟨hK, hP, hD, hS, hA⟩ := hw
  refine va_callv hr hS (fun q _ h => hF q h) hF (fun u t H1 locs1 ht hvm hpost hB hz1 hk1 hS1 => ?_)
  obtain ⟨hP2, hD2⟩ := hB
  rw [ht] at hP2
  obtain ⟨h1, h2⟩ := k_frame hP hD hk1 hF hP2 hD2
  exact kk u H1 locs1 ⟨hK, h1, h2, hS1, hA⟩
theorem k_goR {mc ms : Nat} {a : Array Value} {st0 : List Value} {wl w1 wr : va_W} {w2 : Nat → va_W} {ra : Nat → Nat} (hr : va_Run p l e R s m args below meth c H locs cells slots mc ms (F0 m pc ls st0) rest (va_Qr (fun (_ : Nat) => True) (fun u a t => a = ra u ∧ BW G (w2 u) (va_A w1 H.size) t) (va_A w1 H.size) a) (va_A w1 H.size)) (hw : Wd G (wl ++ (w1 ++ wr)) A s H locs)
    (kk : ∀ (u : Nat) (H1 : Heap) (locs1 : List Loc), Wd G (wl ++ (w2 u ++ wr)) A s H1 locs1 → W p l e R s m args below meth c H1 locs1 (cells + mc) (slots + ms) Q (F0 m (pc + 3) ls (.ref (ra u) :: rest))) : W p l e R s m args below meth c H locs cells slots Q (F0 m pc ls st0) := by
  have hF := k_wF hw
  obtain ⟨hK, hP, hD, hS, hA⟩ := hw
  refine va_callr hr hS (fun q _ h => hF q h) hF (fun u ra' t H1 locs1 ht hvm hpost hB hz1 hk1 hS1 => ?_)
  obtain ⟨rfl, hP2, hD2⟩ := hB
  rw [ht] at hP2
  obtain ⟨h1, h2⟩ := k_frame hP hD hk1 hF hP2 hD2
  exact kk u H1 locs1 ⟨hK, h1, h2, hS1, hA⟩
/-- an inherited method, on a receiver of class C -/
theorem k_cwU {C : String} {index : Nat} {y : MethodName} {bytes : ByteArray} {mL : Nat} {ret : Option FieldType} {n fr mc ms lo : Nat} (F : CallFix p m c cc nL s args Ts own) (hT : ∀ q ∈ BIG, q ∈ Ts) (hl : Cond.methodLink own index y ∈ BIG) (h1 : Cond.sameMethod y.cls y.cls y.name y.desc ∈ BIG ∧ Cond.instanceMethod y ∈ BIG ∧ Cond.initialized y.cls ∈ BIG ∧ Cond.code y bytes mL ret ∈ BIG) (hsel : (Cond.selects C y y).before args s = true) (hd : y.cls ≠ "java/lang/invoke/MethodHandle" ∧ y.cls ≠ "java/lang/invoke/VarHandle" ∧ (parseMethodDescriptor y.desc).map (fun d => d.parameters.length) = some n) (hR : fr + 1 ≤ R.frames ∧ 8 + (mL + 11) + lo ≤ R.locals) : va_CU R s args own C y.cls index y y bytes mL ret (WS y bytes mL ret) (rmk fr mc ms lo) mc ms n := by
  have ok : ∀ w ∈ BIG, w.before args s = true := fun w h => F.2.2.2.2 _ (hT _ h)
  obtain ⟨a1, a2, a3, a4⟩ := h1
  refine ⟨⟨rfl, rfl, hR.1, hR.2, pay_in F.2.2.2.2 (big_goodIn hT a4), List.mem_cons_self⟩, ok _ a4, ok _ a3, ⟨hd.1, hd.2.1⟩, fun sig h => ?_, ok _ hl, ok _ a1, va_Decl.of (ok _ a2) (ok _ a4), hsel, ok _ a2⟩
  have h2 := hd.2.2
  rw [h] at h2
  exact (Option.some.inj h2).symm
theorem k_cwSU {index : Nat} {y : MethodName} {bytes : ByteArray} {mL : Nat} {ret : Option FieldType} {n fr mc ms lo : Nat} (F : CallFix p m c cc nL s args Ts own) (hT : ∀ q ∈ BIG, q ∈ Ts) (hl : Cond.methodLink own index y ∈ BIG) (hsup : Cond.superclass own y.cls ∈ BIG) (h1 : Cond.sameMethod y.cls y.cls y.name y.desc ∈ BIG ∧ Cond.instanceMethod y ∈ BIG ∧ Cond.initialized y.cls ∈ BIG ∧ Cond.code y bytes mL ret ∈ BIG) (hd : y.name ≠ "<init>" ∧ (parseMethodDescriptor y.desc).map (fun d => d.parameters.length) = some n) (hR : fr + 1 ≤ R.frames ∧ 8 + (mL + 11) + lo ≤ R.locals) : va_CS R s args own index y bytes mL ret (WS y bytes mL ret) (rmk fr mc ms lo) mc ms n := by
  have ok : ∀ w ∈ BIG, w.before args s = true := fun w h => F.2.2.2.2 _ (hT _ h)
  obtain ⟨a1, a2, a3, a4⟩ := h1
  refine ⟨⟨rfl, rfl, hR.1, hR.2, pay_in F.2.2.2.2 (big_goodIn hT a4), List.mem_cons_self⟩, ok _ hl, ok _ a1, ok _ hsup, ok _ a2, ok _ a3, ok _ a4, hd.1, fun sig h => ?_⟩
  have h2 := hd.2
  rw [h] at h2
  exact (Option.some.inj h2).symm
/-- a private method of a superclass, by a public one of it that C selects -/
theorem k_selU {C : String} {x y : MethodName} (hx : x.cls = y.cls) (hs : (Cond.selects C x x).before args s = true) (hy : y.cls ≠ "java/lang/invoke/MethodHandle" ∧ y.cls ≠ "java/lang/invoke/VarHandle") (hpriv : (Cond.privateMethod y).before args s = true) (hinst : (Cond.instanceMethod y).before args s = true) : (Cond.selects C y y).before args s = true := by
  obtain ⟨c2, r2, m2, q1, q2, q3, q4, kP, hkP, hkPi⟩ := Cond.selects_spec hs
  obtain ⟨mk, methM, hnamed, hmethM, -, -⟩ := Cond.instanceMethod_spec hinst
  have hfound : s.methodFound? y.cls y.name y.desc = some mk := State.methodFound?_of_named hnamed hy
  have e : m2.cls = mk.cls := by
    have h1 := findClass_of_methodNamed q3
    have h2 := findClass_of_methodNamed hnamed
    rw [hx] at h1
    exact Option.some.inj (h1.symm.trans h2)
  have hsel : selectMethod {} s.vm c2 mk = .method mk := selectMethod_private hmethM (Cond.privateMethod_at hpriv mk methM hnamed hmethM)
  rw [e] at hkP
  simp only [Cond.before, Cond.holds, Cond.value, q1, hfound, hnamed, hsel, hkP]
  simp [hkPi]
end KIT7
def wB (G : gG) (ad : Nat → Nat) (qb cap : Nat) (y : SX) : va_W := [(ad 8, .inr (1, [.ref qb, .int (y.1 8 1), .int (y.1 8 2), .int (y.1 8 3)])), (qb, .inl (G.2 3, cap, .inl (y.1 9)))]
def tabO (j : Nat) : Int32 := Int32.ofNat (48 + j % 10)
def tabT (j : Nat) : Int32 := Int32.ofNat (48 + j / 10)
def SelB (U : State) : Prop := va_Nw (.selects RJ4 yJ5_ensureCapacityInternal_d00df yJ5_ensureCapacityInternal_d00df) U ∧ va_Nw (.selects RJ4 yJ5_newCapacity_0f7a4 yJ5_newCapacity_0f7a4) U
/-- what the StringBuilder's methods take as given of statics -/
def PrB (A : Nat → Prop) (U : State) (H : Heap) : Prop := va_Z "java/lang/String" "COMPACT_STRINGS" "Z" (.int 1) A U H ∧ va_Zq "jdk/internal/util/Preconditions" "SIOOBE_FORMATTER" "Ljava/util/function/BiFunction;" A U H ∧ (∃ t : Nat, va_Z "java/lang/Integer" "DigitOnes" "[B" (.ref t) A U H ∧ va_T .byte t 100 (fun j => .int (tabO j)) A U H) ∧ (∃ t : Nat, va_Z "java/lang/Integer" "DigitTens" "[B" (.ref t) A U H ∧ va_T .byte t 100 (fun j => .int (tabT j)) A U H) ∧ SelB U
theorem prB_ok : PrOk PrB := by
  refine ⟨fun A B s U H hAB hW h => ?_, fun A s H H1 hk h => ?_, fun A s U H e h => ?_⟩
  · obtain ⟨h1, h2, ⟨t1, h3, h4⟩, ⟨t2, h5, h6⟩, h7, h8⟩ := h
    exact ⟨va_Z.moved hW.alike (h1.narrow hAB), va_Zq.moved hW.alike (h2.narrow hAB), ⟨t1, va_Z.moved hW.alike (h3.narrow hAB), va_T.moved hW.alike (h4.narrow hAB)⟩, ⟨t2, va_Z.moved hW.alike (h5.narrow hAB), va_T.moved hW.alike (h6.narrow hAB)⟩, word_at hW (Or.inl rfl) h7, word_at hW (Or.inl rfl) h8⟩
  · obtain ⟨h1, h2, ⟨t1, h3, h4⟩, ⟨t2, h5, h6⟩, h7⟩ := h
    exact ⟨h1.kept hk, h2.kept hk, ⟨t1, h3.kept hk, h4.kept hk⟩, ⟨t2, h5.kept hk, h6.kept hk⟩, h7⟩
  · obtain ⟨h1, h2, ⟨t1, h3, h4⟩, ⟨t2, h5, h6⟩, h7, h8⟩ := h
    have ha : s.vm.Alike U.vm := e ▸ Vm.Alike.refl s.vm
    exact ⟨va_Z.moved ha h1, va_Zq.moved ha h2, ⟨t1, va_Z.moved ha h3, va_T.moved ha h4⟩, ⟨t2, va_Z.moved ha h5, va_T.moved ha h6⟩, va_Nw.same rfl e h7, va_Nw.same rfl e h8⟩
theorem sup_J4 : Cond.superclass RJ4 RJ5 ∈ BIG := big_in (List.mem_of_getElem? (i := 281) (by decide +kernel)) (by decide +kernel)
theorem cu_J5_length_8abf5 : Cond.sameMethod yJ5_length_8abf5.cls yJ5_length_8abf5.cls yJ5_length_8abf5.name yJ5_length_8abf5.desc ∈ BIG ∧ Cond.instanceMethod yJ5_length_8abf5 ∈ BIG ∧ Cond.initialized yJ5_length_8abf5.cls ∈ BIG ∧ Cond.code yJ5_length_8abf5 cJ5_length_8abf5 1 (some .int) ∈ BIG := ⟨big_in (List.mem_of_getElem? (i := 581) (by decide +kernel)) (by decide +kernel), big_in (List.mem_of_getElem? (i := 580) (by decide +kernel)) (by decide +kernel), big_in (List.mem_of_getElem? (i := 66) (by decide +kernel)) (by decide +kernel), big_in (List.mem_of_getElem? (i := 586) (by decide +kernel)) (by decide +kernel)⟩
theorem cu_J5_setLength_d00df : Cond.sameMethod yJ5_setLength_d00df.cls yJ5_setLength_d00df.cls yJ5_setLength_d00df.name yJ5_setLength_d00df.desc ∈ BIG ∧ Cond.instanceMethod yJ5_setLength_d00df ∈ BIG ∧ Cond.initialized yJ5_setLength_d00df.cls ∈ BIG ∧ Cond.code yJ5_setLength_d00df cJ5_setLength_d00df 2 none ∈ BIG := ⟨big_in (List.mem_of_getElem? (i := 1839) (by decide +kernel)) (by decide +kernel), big_in (List.mem_of_getElem? (i := 410) (by decide +kernel)) (by decide +kernel), big_in (List.mem_of_getElem? (i := 66) (by decide +kernel)) (by decide +kernel), big_in (List.mem_of_getElem? (i := 411) (by decide +kernel)) (by decide +kernel)⟩
theorem cu_J5_append_3fe6f : Cond.sameMethod yJ5_append_3fe6f.cls yJ5_append_3fe6f.cls yJ5_append_3fe6f.name yJ5_append_3fe6f.desc ∈ BIG ∧ Cond.instanceMethod yJ5_append_3fe6f ∈ BIG ∧ Cond.initialized yJ5_append_3fe6f.cls ∈ BIG ∧ Cond.code yJ5_append_3fe6f cJ5_append_3fe6f 2 (some (.object "java/lang/AbstractStringBuilder")) ∈ BIG := ⟨big_in (List.mem_of_getElem? (i := 1850) (by decide +kernel)) (by decide +kernel), big_in (List.mem_of_getElem? (i := 764) (by decide +kernel)) (by decide +kernel), big_in (List.mem_of_getElem? (i := 66) (by decide +kernel)) (by decide +kernel), big_in (List.mem_of_getElem? (i := 765) (by decide +kernel)) (by decide +kernel)⟩
theorem cu_J5_append_c97b9 : Cond.sameMethod yJ5_append_c97b9.cls yJ5_append_c97b9.cls yJ5_append_c97b9.name yJ5_append_c97b9.desc ∈ BIG ∧ Cond.instanceMethod yJ5_append_c97b9 ∈ BIG ∧ Cond.initialized yJ5_append_c97b9.cls ∈ BIG ∧ Cond.code yJ5_append_c97b9 cJ5_append_c97b9 4 (some (.object "java/lang/AbstractStringBuilder")) ∈ BIG := ⟨big_in (List.mem_of_getElem? (i := 1847) (by decide +kernel)) (by decide +kernel), big_in (List.mem_of_getElem? (i := 541) (by decide +kernel)) (by decide +kernel), big_in (List.mem_of_getElem? (i := 66) (by decide +kernel)) (by decide +kernel), big_in (List.mem_of_getElem? (i := 542) (by decide +kernel)) (by decide +kernel)⟩
theorem cu_J5_charAt_5068e : Cond.sameMethod yJ5_charAt_5068e.cls yJ5_charAt_5068e.cls yJ5_charAt_5068e.name yJ5_charAt_5068e.desc ∈ BIG ∧ Cond.instanceMethod yJ5_charAt_5068e ∈ BIG ∧ Cond.initialized yJ5_charAt_5068e.cls ∈ BIG ∧ Cond.code yJ5_charAt_5068e cJ5_charAt_5068e 5 (some .char) ∈ BIG := ⟨big_in (List.mem_of_getElem? (i := 1851) (by decide +kernel)) (by decide +kernel), big_in (List.mem_of_getElem? (i := 1344) (by decide +kernel)) (by decide +kernel), big_in (List.mem_of_getElem? (i := 66) (by decide +kernel)) (by decide +kernel), big_in (List.mem_of_getElem? (i := 1345) (by decide +kernel)) (by decide +kernel)⟩
theorem cu_J5_ensureCapacityInternal_d00df : Cond.sameMethod yJ5_ensureCapacityInternal_d00df.cls yJ5_ensureCapacityInternal_d00df.cls yJ5_ensureCapacityInternal_d00df.name yJ5_ensureCapacityInternal_d00df.desc ∈ BIG ∧ Cond.instanceMethod yJ5_ensureCapacityInternal_d00df ∈ BIG ∧ Cond.initialized yJ5_ensureCapacityInternal_d00df.cls ∈ BIG ∧ Cond.code yJ5_ensureCapacityInternal_d00df cJ5_ensureCapacityInternal_d00df 3 none ∈ BIG := ⟨big_in (List.mem_of_getElem? (i := 1842) (by decide +kernel)) (by decide +kernel), big_in (List.mem_of_getElem? (i := 433) (by decide +kernel)) (by decide +kernel), big_in (List.mem_of_getElem? (i := 66) (by decide +kernel)) (by decide +kernel), big_in (List.mem_of_getElem? (i := 434) (by decide +kernel)) (by decide +kernel)⟩
theorem cu_J5_newCapacity_0f7a4 : Cond.sameMethod yJ5_newCapacity_0f7a4.cls yJ5_newCapacity_0f7a4.cls yJ5_newCapacity_0f7a4.name yJ5_newCapacity_0f7a4.desc ∈ BIG ∧ Cond.instanceMethod yJ5_newCapacity_0f7a4 ∈ BIG ∧ Cond.initialized yJ5_newCapacity_0f7a4.cls ∈ BIG ∧ Cond.code yJ5_newCapacity_0f7a4 cJ5_newCapacity_0f7a4 6 (some .int) ∈ BIG := ⟨big_in (List.mem_of_getElem? (i := 1843) (by decide +kernel)) (by decide +kernel), big_in (List.mem_of_getElem? (i := 437) (by decide +kernel)) (by decide +kernel), big_in (List.mem_of_getElem? (i := 66) (by decide +kernel)) (by decide +kernel), big_in (List.mem_of_getElem? (i := 438) (by decide +kernel)) (by decide +kernel)⟩
theorem cu_J5_isLatin1_aae02 : Cond.sameMethod yJ5_isLatin1_aae02.cls yJ5_isLatin1_aae02.cls yJ5_isLatin1_aae02.name yJ5_isLatin1_aae02.desc ∈ BIG ∧ Cond.instanceMethod yJ5_isLatin1_aae02 ∈ BIG ∧ Cond.initialized yJ5_isLatin1_aae02.cls ∈ BIG ∧ Cond.code yJ5_isLatin1_aae02 cJ5_isLatin1_aae02 1 (some .boolean) ∈ BIG := ⟨big_in (List.mem_of_getElem? (i := 464) (by decide +kernel)) (by decide +kernel), big_in (List.mem_of_getElem? (i := 463) (by decide +kernel)) (by decide +kernel), big_in (List.mem_of_getElem? (i := 66) (by decide +kernel)) (by decide +kernel), big_in (List.mem_of_getElem? (i := 466) (by decide +kernel)) (by decide +kernel)⟩
theorem sel_lat : Cond.selects RJ4 yJ5_isLatin1_aae02 yJ5_isLatin1_aae02 ∈ BIG := big_in (List.mem_of_getElem? (i := 465) (by decide +kernel)) (by decide +kernel)
