/-! ===== my kit, 1: one word list for all methods; contracts that say 'on world w1 it answers rv and leaves world w2' ===== -/
abbrev gG : Type := va_G × (Nat → ClassId)
def gty (G : gG) : List (ClassId × FieldType) := [(G.2 0, .int), (G.2 1, .long), (G.2 2, .boolean), (G.2 3, .byte)]
def KK (G : gG) (U : State) : Prop := va_K G.1 vwCl (gty G) U
def BIG : List Cond := lw_tbl.filter goodWord
theorem big_in {w : Cond} (h : w ∈ lw_tbl) (g : goodWord w = true) : w ∈ BIG := List.mem_filter.mpr ⟨h, g⟩
theorem big_tbl : ∀ w ∈ BIG, w ∈ lw_tbl := fun _ h => (List.mem_filter.mp h).1
theorem big_good : ∀ w ∈ BIG, goodWord w = true := fun _ h => (List.mem_filter.mp h).2
def WS (y : MethodName) (cc : ByteArray) (n : Nat) (ret : Option FieldType) : List Cond := .code y cc n ret :: BIG
theorem ws_in {y : MethodName} {cc : ByteArray} {n : Nat} {ret : Option FieldType} : ∀ w ∈ BIG, w ∈ WS y cc n ret := fun _ h => List.mem_cons_of_mem _ h
theorem big_goodIn {Ts : List Cond} (hT : ∀ w ∈ BIG, w ∈ Ts) {y : MethodName} {cc : ByteArray} {n : Nat} {ret : Option FieldType} (h : Cond.code y cc n ret ∈ BIG) : GoodIn Ts (WS y cc n ret) := by
  intro w hw
  have hb : w ∈ BIG := (List.mem_cons.mp hw).elim (fun e => by rw [e]; exact h) id
  exact ⟨hT w hb, good_of_word (big_good w hb)⟩
/-- what the tables say of a callee that is selected by its receiver's class -/
def CalV (y : MethodName) (cc : ByteArray) (mL : Nat) (ret : Option FieldType) (n : Nat) : Prop :=
  Cond.instanceMethod y ∈ BIG ∧ Cond.selects y.cls y y ∈ BIG ∧ Cond.initialized y.cls ∈ BIG ∧ Cond.code y cc mL ret ∈ BIG ∧ y.cls ≠ "java/lang/invoke/MethodHandle" ∧ y.cls ≠ "java/lang/invoke/VarHandle" ∧ (parseMethodDescriptor y.desc).map (fun d => d.parameters.length) = some n
def CalS (y : MethodName) (cc : ByteArray) (mL : Nat) (ret : Option FieldType) (n : Nat) : Prop :=
  Cond.static y ∈ BIG ∧ Cond.initialized y.cls ∈ BIG ∧ Cond.code y cc mL ret ∈ BIG ∧ y.cls ≠ "java/lang/invoke/MethodHandle" ∧ y.cls ≠ "java/lang/invoke/VarHandle" ∧ (parseMethodDescriptor y.desc).map (fun d => d.parameters.length) = some n
theorem k_cwV {R : Room} {s : State} {args : Array Value} {Ts : List Cond} {own : String} {index : Nat} {y : MethodName} {bytes : ByteArray} {mL : Nat} {ret : Option FieldType} {n : Nat} {rm : Room} (ht : ∀ w ∈ Ts, w.before args s = true) (hT : ∀ w ∈ BIG, w ∈ Ts) (hl : Cond.methodLink own index y ∈ BIG) (h : CalV y bytes mL ret n) (hR : rm.frames + 1 ≤ R.frames ∧ 8 + (mL + 11) + rm.locals ≤ R.locals) :
    CallW R s args own y.cls index y bytes mL ret (WS y bytes mL ret) rm rm.cells rm.slots n := by
  obtain ⟨h1, h2, h3, h4, h5, h6, h7⟩ := h
  refine cwV n ht ?_ rfl rfl rfl ⟨rfl, h5, h6, h7⟩ hR
  show GoodIn Ts (([.methodLink own index y, .instanceMethod y, .selects y.cls y y, .initialized y.cls] : List Cond) ++ WS y bytes mL ret)
  refine goodIn_app ?_ (big_goodIn hT h4)
  intro w hw
  have hb : w ∈ BIG := by
    simp only [List.mem_cons, List.not_mem_nil, or_false] at hw
    rcases hw with rfl | rfl | rfl | rfl <;> assumption
  exact ⟨hT w hb, good_of_word (big_good w hb)⟩
theorem k_cwS {R : Room} {s : State} {args : Array Value} {Ts : List Cond} {own : String} {index : Nat} {y : MethodName} {bytes : ByteArray} {mL : Nat} {ret : Option FieldType} {n : Nat} {rm : Room} (ht : ∀ w ∈ Ts, w.before args s = true) (hT : ∀ w ∈ BIG, w ∈ Ts) (hl : Cond.methodLink own index y ∈ BIG) (h : CalS y bytes mL ret n) (hR : rm.frames + 1 ≤ R.frames ∧ 8 + (mL + 11) + rm.locals ≤ R.locals) :
    CallB R s args own index y bytes mL ret (WS y bytes mL ret) rm rm.cells rm.slots n ∧ (Cond.static y).before args s = true := by
  obtain ⟨h1, h3, h4, h5, h6, h7⟩ := h
  refine va_cwS n ht ?_ rfl rfl rfl ⟨h5, h6, h7⟩ hR
  show GoodIn Ts (([.methodLink own index y, .static y, .initialized y.cls] : List Cond) ++ WS y bytes mL ret)
  refine goodIn_app ?_ (big_goodIn hT h4)
  intro w hw
  have hb : w ∈ BIG := by
    simp only [List.mem_cons, List.not_mem_nil, or_false] at hw
    rcases hw with rfl | rfl | rfl <;> assumption
  exact ⟨hT w hb, good_of_word (big_good w hb)⟩
abbrev rmk (fr mc ms lo : Nat) : Room := { frames := fr, cells := mc, slots := ms, locals := lo }
def PcW (G : gG) (w1 : va_W) (sz : Nat) (U : State) : Prop := U.heap.size = sz ∧ va_P G.1 vwCl w1 U.heap ∧ KK G U ∧ va_D (fun _ => True) w1
theorem k_blind {G : gG} {av : List Value} {w1 : va_W} {sz : Nat} : FrameBlind (va_Pc av (PcW G w1 sz)) := fun a U g mk q => by
  obtain ⟨q0, q1, qP, qK, qD⟩ := q
  exact ⟨q0, q1, qP, va_K.moved (u := U) (U := U.calling g mk a) (Vm.Alike.refl U.vm) qK, qD⟩
/-- the world w, its addresses in A; what changed since s lies in A -/
def Wd (G : gG) (w : va_W) (A : Nat → Prop) (s : State) (H : Heap) (locs : List Loc) : Prop := KK G s ∧ va_P G.1 vwCl w H ∧ va_D A w ∧ va_S A s.heap H locs ∧ ∀ q : Nat, s.heap.size ≤ q → A q
def BW (G : gG) (w2 : va_W) (A : Nat → Prop) (t : State) : Prop := va_P G.1 vwCl w2 t.heap ∧ va_D A w2
def MetI (G : gG) (l : Launch) (y : MethodName) (cc : ByteArray) (mL : Nat) (ret : Option FieldType) (fr mc ms lo : Nat) (av : List Value) (w1 w2 : va_W) (rv : Int32) : Prop :=
  ∀ sz : Nat, Met l y (WS y cc mL ret) (rmk fr mc ms lo) (va_Pc av (PcW G w1 sz)) (va_Qi (fun (r : Int32) (_ : Unit) => r = rv) (fun _ t => BW G w2 (va_A w1 sz) t) (va_A w1 sz)) mc ms (va_A w1 sz)
def MetJ (G : gG) (l : Launch) (y : MethodName) (cc : ByteArray) (mL : Nat) (ret : Option FieldType) (fr mc ms lo : Nat) (av : List Value) (w1 w2 : va_W) (rv : Int64) : Prop :=
  ∀ sz : Nat, Met l y (WS y cc mL ret) (rmk fr mc ms lo) (va_Pc av (PcW G w1 sz)) (va_Ql (fun (r : Int64) (_ : Unit) => r = rv) (fun _ t => BW G w2 (va_A w1 sz) t) (va_A w1 sz)) mc ms (va_A w1 sz)
def MetV (G : gG) (l : Launch) (y : MethodName) (cc : ByteArray) (mL : Nat) (ret : Option FieldType) (fr mc ms lo : Nat) (av : List Value) (w1 w2 : va_W) : Prop :=
  ∀ sz : Nat, Met l y (WS y cc mL ret) (rmk fr mc ms lo) (va_Pc av (PcW G w1 sz)) (va_Qv (fun (_ : Unit) => True) (fun _ t => BW G w2 (va_A w1 sz) t) (va_A w1 sz)) mc ms (va_A w1 sz)
def KQI (G : gG) (below : List Frame) (args : Array Value) (s : State) (A : Nat → Prop) (w2 : va_W) (rv : Int32) (mc ms : Nat) : State → Prop := MQ below (va_Qi (fun (r : Int32) (_ : Unit) => r = rv) (fun _ t => BW G w2 A t) A) args s mc ms A
def KQJ (G : gG) (below : List Frame) (args : Array Value) (s : State) (A : Nat → Prop) (w2 : va_W) (rv : Int64) (mc ms : Nat) : State → Prop := MQ below (va_Ql (fun (r : Int64) (_ : Unit) => r = rv) (fun _ t => BW G w2 A t) A) args s mc ms A
def KQV (G : gG) (below : List Frame) (args : Array Value) (s : State) (A : Nat → Prop) (w2 : va_W) (mc ms : Nat) : State → Prop := MQ below (va_Qv (fun (_ : Unit) => True) (fun _ t => BW G w2 A t) A) args s mc ms A
theorem k_ofI {G : gG} {l : Launch} {y : MethodName} {cc : ByteArray} {mL : Nat} {ret : Option FieldType} {fr mc ms lo : Nat} {av : List Value} {w1 w2 : va_W} {rv : Int32} (hy : plainName y.cls = true) (hn : (lg_sl av).length ≤ mL)
    (body : ∀ (p : Program) (e : Env) (s : State) (m : MethodId) (args : Array Value) (below : List Frame) (meth : Method) (c : Code) (ls : Array Slot) (A : Nat → Prop), CallFix p m c cc mL s args (WS y cc mL ret) y.cls → meth.sig.returnType = ret → meth.locks = false → lv_has ls mL (lv_args 0 av) → Wd G w1 A s s.heap [] →
      W p l e (rmk fr mc ms lo) s m args below meth c s.heap [] 0 0 (KQI G below args s A w2 rv mc ms) (F0 m 0 ls [])) : MetI G l y cc mL ret fr mc ms lo av w1 w2 rv := by
  intro sz
  refine Met.ofW (cc := cc) (maxL := mL) (ret := ret) hy rfl ?_
  intro p e s m args below meth c s₁ B hml hv
  obtain ⟨rfl, hsz, hP, hK, hD0⟩ := hv
  subst hsz
  have hD := hD0.self (sz := s.heap.size)
  have hl := lv_entry av (n := mL) hn
  rw [lg_entry_eq]
  have hts := atoms_spec (ws := WS y cc mL ret) B.pre
  exact body p e s m _ below meth c _ (va_A w1 s.heap.size) ⟨B.exec, B.bytes, hml, findClass_of_methodNamed B.named, hts⟩ B.returns B.notSynchronized hl ⟨hK, hP, hD, va_S.rf, fun q h => Or.inr h⟩
theorem k_ofJ {G : gG} {l : Launch} {y : MethodName} {cc : ByteArray} {mL : Nat} {ret : Option FieldType} {fr mc ms lo : Nat} {av : List Value} {w1 w2 : va_W} {rv : Int64} (hy : plainName y.cls = true) (hn : (lg_sl av).length ≤ mL)
    (body : ∀ (p : Program) (e : Env) (s : State) (m : MethodId) (args : Array Value) (below : List Frame) (meth : Method) (c : Code) (ls : Array Slot) (A : Nat → Prop), CallFix p m c cc mL s args (WS y cc mL ret) y.cls → meth.sig.returnType = ret → meth.locks = false → lv_has ls mL (lv_args 0 av) → Wd G w1 A s s.heap [] →
      W p l e (rmk fr mc ms lo) s m args below meth c s.heap [] 0 0 (KQJ G below args s A w2 rv mc ms) (F0 m 0 ls [])) : MetJ G l y cc mL ret fr mc ms lo av w1 w2 rv := by
  intro sz
  refine Met.ofW (cc := cc) (maxL := mL) (ret := ret) hy rfl ?_
  intro p e s m args below meth c s₁ B hml hv
  obtain ⟨rfl, hsz, hP, hK, hD0⟩ := hv
  subst hsz
  have hD := hD0.self (sz := s.heap.size)
  have hl := lv_entry av (n := mL) hn
  rw [lg_entry_eq]
  have hts := atoms_spec (ws := WS y cc mL ret) B.pre
  exact body p e s m _ below meth c _ (va_A w1 s.heap.size) ⟨B.exec, B.bytes, hml, findClass_of_methodNamed B.named, hts⟩ B.returns B.notSynchronized hl ⟨hK, hP, hD, va_S.rf, fun q h => Or.inr h⟩
theorem k_ofV {G : gG} {l : Launch} {y : MethodName} {cc : ByteArray} {mL : Nat} {ret : Option FieldType} {fr mc ms lo : Nat} {av : List Value} {w1 w2 : va_W} (hy : plainName y.cls = true) (hn : (lg_sl av).length ≤ mL)
    (body : ∀ (p : Program) (e : Env) (s : State) (m : MethodId) (args : Array Value) (below : List Frame) (meth : Method) (c : Code) (ls : Array Slot) (A : Nat → Prop), CallFix p m c cc mL s args (WS y cc mL ret) y.cls → meth.sig.returnType = ret → meth.locks = false → lv_has ls mL (lv_args 0 av) → Wd G w1 A s s.heap [] →
      W p l e (rmk fr mc ms lo) s m args below meth c s.heap [] 0 0 (KQV G below args s A w2 mc ms) (F0 m 0 ls [])) : MetV G l y cc mL ret fr mc ms lo av w1 w2 := by
  intro sz
  refine Met.ofW (cc := cc) (maxL := mL) (ret := ret) hy rfl ?_
  intro p e s m args below meth c s₁ B hml hv
  obtain ⟨rfl, hsz, hP, hK, hD0⟩ := hv
  subst hsz
  have hD := hD0.self (sz := s.heap.size)
  have hl := lv_entry av (n := mL) hn
  rw [lg_entry_eq]
  have hts := atoms_spec (ws := WS y cc mL ret) B.pre
  exact body p e s m _ below meth c _ (va_A w1 s.heap.size) ⟨B.exec, B.bytes, hml, findClass_of_methodNamed B.named, hts⟩ B.returns B.notSynchronized hl ⟨hK, hP, hD, va_S.rf, fun q h => Or.inr h⟩
/-! appended worlds -/
theorem k_Pl {D : va_G} {cl : List vw_C} {a b : va_W} {H : Heap} (h : va_P D cl (a ++ b) H) : va_P D cl a H := fun k q hk => h k q (by
  rw [List.getElem?_append_left (List.getElem?_eq_some_iff.mp hk).1]; exact hk)
theorem k_Pr {D : va_G} {cl : List vw_C} {a b : va_W} {H : Heap} (h : va_P D cl (a ++ b) H) : va_P D cl b H := fun k q hk => h (a.length + k) q (by
  rw [List.getElem?_append_right (Nat.le_add_right _ _), Nat.add_sub_cancel_left]; exact hk)
theorem k_Dl {A : Nat → Prop} {a b : va_W} (h : va_D A (a ++ b)) : va_D A a := by
  have key : ∀ (k : Nat) (q : Nat × va_E), a[k]? = some q → (a ++ b)[k]? = some q := fun k q hk => by
    rw [List.getElem?_append_left (List.getElem?_eq_some_iff.mp hk).1]; exact hk
  exact ⟨fun i j p q hi hj e => h.1 i j p q (key _ _ hi) (key _ _ hj) e, fun k q hk => h.2 k q (key _ _ hk)⟩
theorem k_Dr {A : Nat → Prop} {a b : va_W} (h : va_D A (a ++ b)) : va_D A b := by
  have key : ∀ (k : Nat) (q : Nat × va_E), b[k]? = some q → (a ++ b)[a.length + k]? = some q := fun k q hk => by
    rw [List.getElem?_append_right (Nat.le_add_right _ _), Nat.add_sub_cancel_left]; exact hk
  refine ⟨fun i j p q hi hj e => ?_, fun k q hk => h.2 _ q (key _ _ hk)⟩
  have := h.1 _ _ p q (key _ _ hi) (key _ _ hj) e
  omega
theorem k_Dx {A : Nat → Prop} {a b : va_W} (h : va_D A (a ++ b)) (i j : Nat) (p q : Nat × va_E) (hi : a[i]? = some p) (hj : b[j]? = some q) : p.1 ≠ q.1 := by
  intro e
  have hl := (List.getElem?_eq_some_iff.mp hi).1
  have h1 : (a ++ b)[i]? = some p := by rw [List.getElem?_append_left hl]; exact hi
  have h2 : (a ++ b)[a.length + j]? = some q := by rw [List.getElem?_append_right (Nat.le_add_right _ _), Nat.add_sub_cancel_left]; exact hj
  have := h.1 _ _ p q h1 h2 e
  omega
theorem k_frame {D : va_G} {cl : List vw_C} {A : Nat → Prop} {wl w1 wr w2 : va_W} {H H1 : Heap} (hP : va_P D cl (wl ++ (w1 ++ wr)) H) (hD : va_D A (wl ++ (w1 ++ wr))) (hk : ∀ q : Nat, q < H.size → ¬ va_A w1 H.size q → H1[q]? = H[q]?) (hF : ∀ q, va_A w1 H.size q → A q) (hP2 : va_P D cl w2 H1) (hD2 : va_D (va_A w1 H.size) w2) :
    va_P D cl (wl ++ (w2 ++ wr)) H1 ∧ va_D A (wl ++ (w2 ++ wr)) := by
  have hPl := k_Pl hP
  have hPr := k_Pr (k_Pr hP)
  have hDl := k_Dl hD
  have hDm := k_Dr hD
  have hDr := k_Dr hDm
  have outl : ∀ (k : Nat) (q : Nat × va_E), wl[k]? = some q → q.1 < H.size ∧ ¬ va_A w1 H.size q.1 := by
    intro k q hk1
    have hlt := (hPl k q hk1).lt
    refine ⟨hlt, fun h => ?_⟩
    rcases h with ⟨j, e, hj⟩ | h
    · have hj' : (w1 ++ wr)[j]? = some (q.1, e) := by rw [List.getElem?_append_left (List.getElem?_eq_some_iff.mp hj).1]; exact hj
      exact k_Dx hD k j q (q.1, e) hk1 hj' rfl
    · omega
  have outr : ∀ (k : Nat) (q : Nat × va_E), wr[k]? = some q → q.1 < H.size ∧ ¬ va_A w1 H.size q.1 := by
    intro k q hk1
    have hlt := (hPr k q hk1).lt
    refine ⟨hlt, fun h => ?_⟩
    rcases h with ⟨j, e, hj⟩ | h
    · exact k_Dx hDm j k (q.1, e) q hj hk1 rfl
    · omega
  have hPl1 : va_P D cl wl H1 := hPl.kept fun k q h => hk _ (outl k q h).1 (outl k q h).2
  have hPr1 : va_P D cl wr H1 := hPr.kept fun k q h => hk _ (outr k q h).1 (outr k q h).2
  refine ⟨hPl1.app (hP2.app hPr1), ?_⟩
  have hD2' : va_D A w2 := hD2.weaken fun k q _ h => hF _ h
  have hDmr : va_D A (w2 ++ wr) := hD2'.app hDr fun i j p q hi hj e => (outr j q hj).2 (e ▸ hD2.2 i p hi)
  refine hDl.app hDmr fun i j p q hi hj e => ?_
  by_cases hl : j < w2.length
  · rw [List.getElem?_append_left hl] at hj
    exact (outl i p hi).2 (e ▸ hD2.2 j q hj)
  · rw [List.getElem?_append_right (Nat.le_of_not_lt hl)] at hj
    have hi' : wl[i]? = some p := hi
    have hj' : (w1 ++ wr)[w1.length + (j - w2.length)]? = some q := by rw [List.getElem?_append_right (Nat.le_add_right _ _), Nat.add_sub_cancel_left]; exact hj
    exact k_Dx hD i _ p q hi' hj' e
