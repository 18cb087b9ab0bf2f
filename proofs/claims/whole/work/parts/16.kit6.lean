/-! ===== my kit, 6: methods with a table of handlers, that catch all that comes ===== -/
def NCX (U : State) : Prop := ∀ i j : Nat, 1 ≤ i → i ≤ 4 → 1 ≤ j → j ≤ 4 → i ≠ j → va_Nc (exn i) (exn j) U
def PrW (A : Nat → Prop) (U : State) (H : Heap) : Prop := ZZ A U H ∧ NCX U
theorem prW_ok : PrOk PrW := by
  refine ⟨fun A B s U H hAB hW h => ?_, fun A s H H1 hk h => ?_, fun A s U H e h => ?_⟩
  · obtain ⟨⟨h1, h2, h3⟩, h4⟩ := h
    exact ⟨⟨vx_Zq.moved hW.alike (h1.narrow hAB), vx_Zq.moved hW.alike (h2.narrow hAB), h3.warm hW⟩, fun i j a1 a2 a3 a4 a5 => va_Nc.moved hW.alike (h4 i j a1 a2 a3 a4 a5)⟩
  · obtain ⟨⟨h1, h2, h3⟩, h4⟩ := h
    exact ⟨⟨h1.kept hk, h2.kept hk, h3⟩, h4⟩
  · obtain ⟨⟨h1, h2, h3⟩, h4⟩ := h
    have ha : s.vm.Alike U.vm := e ▸ Vm.Alike.refl s.vm
    exact ⟨⟨vx_Zq.moved ha h1, vx_Zq.moved ha h2, YY.same e h3⟩, fun i j a1 a2 a3 a4 a5 => va_Nc.moved ha (h4 i j a1 a2 a3 a4 a5)⟩
def WSH (y : MethodName) (cc : ByteArray) (n : Nat) (ret : Option FieldType) (hh : List (Nat × Nat × Nat × Nat)) : List Cond := .codeWith y cc n ret hh :: BIG
theorem wsh_in {y : MethodName} {cc : ByteArray} {n : Nat} {ret : Option FieldType} {hh : List (Nat × Nat × Nat × Nat)} : ∀ w ∈ BIG, w ∈ WSH y cc n ret hh := fun _ h => List.mem_cons_of_mem _ h
def CalSW (y : MethodName) (cc : ByteArray) (mL : Nat) (ret : Option FieldType) (hh : List (Nat × Nat × Nat × Nat)) (n : Nat) : Prop :=
  Cond.static y ∈ BIG ∧ Cond.initialized y.cls ∈ BIG ∧ Cond.codeWith y cc mL ret hh ∈ BIG ∧ y.cls ≠ "java/lang/invoke/MethodHandle" ∧ y.cls ≠ "java/lang/invoke/VarHandle" ∧ (parseMethodDescriptor y.desc).map (fun d => d.parameters.length) = some n
def MetL (Pr : (Nat → Prop) → State → Heap → Prop) (G : gG) (l : Launch) (y : MethodName) (cc : ByteArray) (mL : Nat) (ret : Option FieldType) (hh : List (Nat × Nat × Nat × Nat)) (fr mc ms lo : Nat) (av : List Value) (w1 w2 : va_W) (rv : Int32) : Prop :=
  ∀ sz : Nat, vx_Met l y (WSH y cc mL ret hh) (rmk fr mc ms lo) (va_Pc av (fun U => PcW G w1 sz U ∧ Pr (va_A w1 sz) U U.heap)) (va_Qi (fun (r : Int32) (_ : Unit) => r = rv) (fun _ t => BW G w2 (va_A w1 sz) t) (va_A w1 sz)) (vx_X (fun (_ : Unit) => False) (fun _ _ _ => True) (va_A w1 sz)) mc ms (va_A w1 sz)
def KQL (G : gG) (below : List Frame) (args : Array Value) (s : State) (A : Nat → Prop) (w2 : va_W) (rv : Int32) (mc ms : Nat) : State → Prop := vx_MQ below (va_Qi (fun (r : Int32) (_ : Unit) => r = rv) (fun _ t => BW G w2 A t) A) (vx_X (fun (_ : Unit) => False) (fun _ _ _ => True) A) args s mc ms A
theorem k_ofL {Pr : (Nat → Prop) → State → Heap → Prop} {G : gG} {l : Launch} {y : MethodName} {cc : ByteArray} {mL : Nat} {ret : Option FieldType} {hh : List (Nat × Nat × Nat × Nat)} {fr mc ms lo : Nat} {av : List Value} {w1 w2 : va_W} {rv : Int32} (hy : plainName y.cls = true) (hn : (lg_sl av).length ≤ mL)
    (body : ∀ (p : Program) (e : Env) (s : State) (m : MethodId) (args : Array Value) (below : List Frame) (meth : Method) (c : Code) (ls : Array Slot) (A : Nat → Prop), CallFix p m c cc mL s args (WSH y cc mL ret hh) y.cls → meth.sig.returnType = ret → meth.locks = false → c.exceptionTable.toList = tableOf hh → lv_has ls mL (lv_args 0 av) → Wd G w1 A s s.heap [] → Pr A s s.heap →
      W p l e (rmk fr mc ms lo) s m args below meth c s.heap [] 0 0 (KQL G below args s A w2 rv mc ms) (F0 m 0 ls [])) : MetL Pr G l y cc mL ret hh fr mc ms lo av w1 w2 rv := by
  intro sz
  refine vx_ofWH (cc := cc) (maxL := mL) (ret := ret) (hh := hh) hy rfl ?_
  intro p e s m args below meth c s₁ B hml hv
  obtain ⟨rfl, ⟨hsz, hP, hK, hD0⟩, hZ⟩ := hv
  subst hsz
  have hD := hD0.self (sz := s.heap.size)
  have hl := lv_entry av (n := mL) hn
  rw [lg_entry_eq]
  have hts := atoms_spec (ws := WSH y cc mL ret hh) B.pre
  have ht := vx_table (x := y) B (hts _ List.mem_cons_self)
  exact body p e s m _ below meth c _ (va_A w1 s.heap.size) ⟨B.exec, B.bytes, hml, findClass_of_methodNamed B.named, hts⟩ B.returns B.notSynchronized ht hl ⟨hK, hP, hD, va_S.rf, fun q h => Or.inr h⟩ hZ
section KIT6
variable {p : Program} {l : Launch} {e : Env} {R : Room} {s : State} {m : MethodId} {args : Array Value} {below : List Frame} {meth : Method} {c : Code} {H : Heap} {locs : List Loc} {cells slots : Nat} {Q : State → Prop}
variable {cc : ByteArray} {pc : Nat} {ls : Array Slot} {rest : List Value} {nL : Nat} {Ts : List Cond} {own : String} {G : gG} {A : Nat → Prop} {w w' : va_W} {a n : Nat}
theorem k_liret (F : CallFix p m c cc nL s args Ts own) (hr : meth.sig.returnType = some .int) (hlk : meth.locks = false) (hw : Wd G w A s H locs) {v : Int32} {mc ms : Nat} (hc : cells ≤ mc) (hs : slots ≤ ms) (hdg : decode cc pc = .ok (.ireturn, 1)) : W p l e R s m args below meth c H locs cells slots (KQL G below args s A w v mc ms) (F0 m pc ls [.int v]) := by
  obtain ⟨hK, hP, hD, hS, hA⟩ := hw
  refine vx_ret (W.widen hc hs ?_)
  exact W.iret F.1 F.2.1 hr (fun t ht hW => ⟨⟨v, (), rfl, rfl, ⟨by rw [ht]; exact hP, hD⟩⟩, hS.F ht⟩) hS.2.2 hdg hlk
theorem k_callSW {Pr : (Nat → Prop) → State → Heap → Prop} (hPr : PrOk Pr) (F : CallFix p m c cc nL s args Ts own) (hT : ∀ q ∈ BIG, q ∈ Ts) {y : MethodName} {bytes : ByteArray} {mL : Nat} {ret : Option FieldType} {hh : List (Nat × Nat × Nat × Nat)} {fr mc ms lo index nn : Nat} {As : List Value} {w1 w2 wl wr : va_W} {rv : Int32} {st0 : List Value} (hM : MetL Pr G l y bytes mL ret hh fr mc ms lo As w1 w2 rv) (hc : CalSW y bytes mL ret hh nn) (hl : Cond.methodLink own index y ∈ BIG) (hZ : Pr A s s.heap) (hw : Wd G (wl ++ (w1 ++ wr)) A s H locs) (hn : As.length = nn) (hls : ls.size = nL) (hst : st0 = As.reverse ++ rest) (hcat : (rest.map fun v => v.category).sum ≤ 8) (hR : fr + 1 ≤ R.frames ∧ 8 + (mL + 11) + lo ≤ R.locals) (hf : cells + mc ≤ R.cells ∧ slots + ms ≤ R.slots) (hdg : decode cc pc = .ok (.invokestatic index, 3))
    (kk : ∀ (H1 : Heap) (locs1 : List Loc), Wd G (wl ++ (w2 ++ wr)) A s H1 locs1 → W p l e R s m args below meth c H1 locs1 (cells + mc) (slots + ms) Q (F0 m (pc + 3) ls (.int rv :: rest))) : W p l e R s m args below meth c H locs cells slots Q (F0 m pc ls st0) := by
  obtain ⟨hK, hP, hD, hS, hA⟩ := hw
  have hP1 : va_P G.1 vwCl w1 H := k_Pl (k_Pr hP)
  have hD1 : va_D A w1 := k_Dl (k_Dr hD)
  have hF : ∀ q, va_A w1 H.size q → A q := fun q h => by
    rcases h with ⟨k, e, h⟩ | h
    · exact hD1.2 k _ h
    · exact hA q (Nat.le_trans hS.1 h)
  subst hst
  have hZ1 : Pr A s H := hPr.2.1 A s s.heap H hS.2.1 hZ
  have hG : GoodIn Ts (va_wsS own index y (WSH y bytes mL ret hh)) := by
    show GoodIn Ts (([.methodLink own index y, .static y, .initialized y.cls] : List Cond) ++ WSH y bytes mL ret hh)
    obtain ⟨h1, h3, h4, -⟩ := hc
    refine goodIn_app (fun w hw => ?_) (fun w hw => ?_)
    · have hb : w ∈ BIG := by
        simp only [List.mem_cons, List.not_mem_nil, or_false] at hw
        rcases hw with rfl | rfl | rfl <;> assumption
      exact ⟨hT w hb, good_of_word (big_good w hb)⟩
    · have hb : w ∈ BIG := (List.mem_cons.mp hw).elim (fun e => by rw [e]; exact h4) id
      exact ⟨hT w hb, good_of_word (big_good w hb)⟩
  refine vx_calli (vx_runSX (As := As) (rest := rest) F (hM H.size) (vx_cwSW (rm := rmk fr mc ms lo) nn F.2.2.2.2 hG rfl rfl rfl ⟨hc.2.2.2.1, hc.2.2.2.2.1, hc.2.2.2.2.2⟩ hR) ⟨k_blindN hPr, fun U hU hW => ⟨rfl, ⟨by rw [hU], by rw [hU]; exact hP1, va_K.moved hW.alike hK, hD1.weaken (fun _ _ _ _ => trivial)⟩, by rw [hU]; exact hPr.1 _ _ _ _ _ hF hW hZ1⟩⟩ rfl hn hls rfl (lv_room hcat) hdg hf) hS (fun q _ h => hF q h) hF (fun q _ h => hF q h) (fun E ce q9 u t H1 locs1 ht hvm hpx hB hz1 hk1 hS1 g1 g2 g3 => hpx.elim) (fun r u t H1 locs1 ht hvm hpost hB hz1 hk1 hS1 => ?_)
  subst hpost
  obtain ⟨hP2, hD2⟩ := hB
  rw [ht] at hP2
  obtain ⟨h1, h2⟩ := k_frame hP hD hk1 hF hP2 hD2
  exact kk H1 locs1 ⟨hK, h1, h2, hS1, hA⟩
end KIT6
