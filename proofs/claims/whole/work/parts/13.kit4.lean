/-! ===== my kit, 4: more binds; System.arraycopy of int rows ===== -/
def qbd3 {α β γ δ : Type} (x : Option (α × β × γ)) (f : α → β → γ → Option δ) : Option δ := match x with
  | none => none
  | some (a, b, c) => f a b c
theorem qbd3_e {α β γ δ : Type} {x : Option (α × β × γ)} {f : α → β → γ → Option δ} {r : δ} (h : qbd3 x f = some r) : ∃ (a : α) (b : β) (c : γ), x = some (a, b, c) ∧ f a b c = some r := by
  match x, h with
  | none, h => cases h
  | some (a, b, c), h => exact ⟨a, b, c, rfl, h⟩
def qbd4 {α β γ δ ε : Type} (x : Option (α × β × γ × δ)) (f : α → β → γ → δ → Option ε) : Option ε := match x with
  | none => none
  | some (a, b, c, d) => f a b c d
theorem qbd4_e {α β γ δ ε : Type} {x : Option (α × β × γ × δ)} {f : α → β → γ → δ → Option ε} {r : ε} (h : qbd4 x f = some r) : ∃ (a : α) (b : β) (c : γ) (d : δ), x = some (a, b, c, d) ∧ f a b c d = some r := by
  match x, h with
  | none, h => cases h
  | some (a, b, c, d), h => exact ⟨a, b, c, d, rfl, h⟩
theorem cm_copy : Cond.native arraycopyName ∈ BIG ∧ Cond.static arraycopyName ∈ BIG ∧ Cond.initialized "java/lang/System" ∈ BIG := ⟨big_in (List.mem_of_getElem? (i := 461) (by decide +kernel)) (by decide +kernel), big_in (List.mem_of_getElem? (i := 460) (by decide +kernel)) (by decide +kernel), big_in (List.mem_of_getElem? (i := 84) (by decide +kernel)) (by decide +kernel)⟩
theorem ml_X5_62 : Cond.methodLink RX5 62 arraycopyName ∈ BIG := big_in (List.mem_of_getElem? (i := 1320) (by decide +kernel)) (by decide +kernel)
theorem ml_J0_212 : Cond.methodLink RJ0 212 arraycopyName ∈ BIG := big_in (List.mem_of_getElem? (i := 534) (by decide +kernel)) (by decide +kernel)
theorem ml_J7_150 : Cond.methodLink RJ7 150 arraycopyName ∈ BIG := big_in (List.mem_of_getElem? (i := 459) (by decide +kernel)) (by decide +kernel)
section KIT4
variable {p : Program} {l : Launch} {e : Env} {R : Room} {s : State} {m : MethodId} {args : Array Value} {below : List Frame} {meth : Method} {c : Code} {H : Heap} {locs : List Loc} {cells slots : Nat} {Q : State → Prop}
variable {cc : ByteArray} {pc : Nat} {ls : Array Slot} {rest : List Value} {nL : Nat} {Ts : List Cond} {own : String} {G : gG} {A : Nat → Prop} {w w' : va_W} {a n : Nat}
theorem k_copyi {ad : Nat → Nat} {x : SX} {rX rY nX nY : Nat} {W0 : gG → (Nat → Nat) → SX → va_W} (F : CallFix p m c cc nL s args Ts own) (hT : ∀ q ∈ BIG, q ∈ Ts) (hw : Wd G (W0 G ad x) A s H locs) {index : Nat} (hl : Cond.methodLink own index arraycopyName ∈ BIG) (h1 : Cond.native arraycopyName ∈ BIG ∧ Cond.static arraycopyName ∈ BIG ∧ Cond.initialized "java/lang/System" ∈ BIG) (hls : ls.size = nL) (q0 q1 : Nat) (ha0 : (W0 G ad x)[q0]? = some (ad rX, .inl (G.2 0, nX, .inl (x.1 rX)))) (ha1 : (W0 G ad x)[q1]? = some (ad rY, .inl (G.2 0, nY, .inl (x.1 rY)))) {sp dp n : Int32} (g1 : ¬ sp < 0) (g2 : ¬ dp < 0) (g3 : ¬ n < 0) (g4 : sp.toNatClampNeg + n.toNatClampNeg ≤ nX) (g5 : dp.toNatClampNeg + n.toNatClampNeg ≤ nY) (hR : 1 ≤ R.frames ∧ (rest.map fun v => v.category).sum + (nativeFrameWords "java/lang/System" "arraycopy" 5 + 11) ≤ R.locals)
    (hw' : (W0 G ad x).set q1 (ad rY, .inl (G.2 0, nY, .inl (va_cpy (x.1 rX) (x.1 rY) sp.toNatClampNeg dp.toNatClampNeg n.toNatClampNeg))) = W0 G ad (sr x rY (va_cpy (x.1 rX) (x.1 rY) sp.toNatClampNeg dp.toNatClampNeg n.toNatClampNeg))) (hdg : decode cc pc = .ok (.invokestatic index, 3))
    (kk : ∀ x1 : SX, x1 = sr x rY (va_cpy (x.1 rX) (x.1 rY) sp.toNatClampNeg dp.toNatClampNeg n.toNatClampNeg) → ∀ (H1 : Heap) (locs1 : List Loc), Wd G (W0 G ad x1) A s H1 locs1 → W p l e R s m args below meth c H1 locs1 cells slots Q (F0 m (pc + 3) ls rest)) : W p l e R s m args below meth c H locs cells slots Q (F0 m pc ls (.int n :: .int dp :: .ref (ad rY) :: .int sp :: .ref (ad rX) :: rest)) := by
  obtain ⟨hK, hP, hD, hS, hA⟩ := hw
  refine va_copyi F.1 F.2.1 (by rw [F.2.2.1, hls]) F.2.2.2.1 (F.2.2.2.2 _ (hT _ hl)) (F.2.2.2.2 _ (hT _ h1.1)) (F.2.2.2.2 _ (hT _ h1.2.1)) (F.2.2.2.2 _ (hT _ h1.2.2)) hK hP hD hS q0 q1 0 0 ha0 ha1 rfl rfl rfl g1 g2 g3 g4 g5 (fun i _ => rfl) hR.1 hR.2 hdg (fun H1 locs1 h1 h2 h3 => ?_)
  exact kk _ rfl H1 locs1 ⟨hK, hw' ▸ h1, hw' ▸ h2, h3, hA⟩
end KIT4
