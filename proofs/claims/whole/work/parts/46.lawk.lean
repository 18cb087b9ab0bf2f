/-! ===== the law's body: rows over its world ===== -/
theorem k_wperm {G : gG} {w w' : va_W} {A : Nat → Prop} {s : State} {H : Heap} {locs : List Loc} (hp : List.Perm w w') (hw : Wd G w A s H locs) : Wd G w' A s H locs := by
  obtain ⟨hK, hP, hD, hS, hA⟩ := hw
  have key : ∀ (k : Nat) (q : Nat × va_E), w'[k]? = some q → ∃ i : Nat, w[i]? = some q := fun k q hk => List.mem_iff_getElem?.mp (hp.mem_iff.mpr (List.mem_iff_getElem?.mpr ⟨k, hk⟩))
  refine ⟨hK, ?_, ⟨?_, ?_⟩, hS, hA⟩
  · intro k q hk
    obtain ⟨i, hi⟩ := key k q hk
    exact hP i q hi
  · have h1 : List.Pairwise (fun p q : Nat × va_E => p.1 ≠ q.1) w := List.pairwise_iff_getElem.mpr fun i j hi hj hij e => by
      have := hD.1 i j _ _ (List.getElem?_eq_getElem hi) (List.getElem?_eq_getElem hj) e
      omega
    have h2 : List.Pairwise (fun p q : Nat × va_E => p.1 ≠ q.1) w' := hp.pairwise h1 (fun h e => h e.symm)
    have h3 := List.pairwise_iff_getElem.mp h2
    intro i j p q hi hj e
    obtain ⟨hi1, hi2⟩ := List.getElem?_eq_some_iff.mp hi
    obtain ⟨hj1, hj2⟩ := List.getElem?_eq_some_iff.mp hj
    rcases Nat.lt_trichotomy i j with h | h | h
    · exact absurd (by rw [hi2, hj2]; exact e) (h3 i j hi1 hj1 h)
    · exact h
    · exact absurd (by rw [hi2, hj2]; exact e.symm) (h3 j i hj1 hi1 h)
  · intro k q hk
    obtain ⟨i, hi⟩ := key k q hk
    exact hD.2 i q hi
abbrev E1 (G : gG) (qo : Nat) (o : Nat → Int64) : va_W := [(qo, .inl (G.2 1, 1, .inr (.inl o)))]
/-- the law's world: the class, its text, the model, the answer's cell -/
def wL (G : gG) (ad : Nat → Nat) (qb cap : Nat) (x y : SX) (bd : Nat → Nat) (xm : SX) (qo : Nat) (o : Nat → Int64) : va_W := wX G ad x ++ (wB G ad qb cap y ++ (wM G bd xm ++ E1 G qo o))
def LC (p : Program) (l : Launch) (s : State) (m : MethodId) (c : Code) (b L : Nat) (xs : Nat → Int32) (A : Nat → Prop) : Prop := CallFix p m c cL_law 7 s #[Value.ref b] lw_tbl RL ∧ va_X b L xs s s.heap ∧ b < s.heap.size ∧ ¬ A b ∧ L ≤ 2560 ∧ l.stackTraces = false ∧ PrWB A s s.heap
section LAW
variable {p : Program} {l : Launch} {e : Env} {s : State} {m : MethodId} {below : List Frame} {meth : Method} {c : Code} {H : Heap} {locs : List Loc} {cells slots : Nat} {Q : State → Prop}
variable {pc : Nat} {ls : Array Slot} {rest : List Value} {G : gG} {A : Nat → Prop} {w : va_W} {b L : Nat} {xs : Nat → Int32} {ad bd : Nat → Nat} {qb cap qo : Nat} {x x' y xm xm' : SX} {o o' : Nat → Int64}
theorem k_sc (C : LC p l s m c b L xs A) (hw : Wd G w A s H locs) {v : Int32} {j : Nat} (hv : v = nI j) (hj : j < L) (hdg : decode cL_law pc = .ok (.iaload, 1)) (kk : W p l e room_1 s m #[Value.ref b] below meth c H locs cells slots Q (F0 m (pc + 1) ls (.int (xs j) :: rest))) : W p l e room_1 s m #[Value.ref b] below meth c H locs cells slots Q (F0 m pc ls (.int v :: .ref b :: rest)) := by
  subst hv
  have hL := C.2.2.2.2.1
  refine va_sld C.1.1 C.1.2.1 C.2.1 C.2.2.1 C.2.2.2.1 hw.2.2.2.1 (pk_in j L hj) hdg ?_
  rw [nI_clamp (by omega)]
  exact kk
theorem k_pL1 : List.Perm (wL G ad qb cap x y bd xm qo o) ((wX G ad x ++ E1 G qo o) ++ (wB G ad qb cap y ++ wM G bd xm)) := by
  unfold wL
  rw [List.append_assoc]
  refine List.Perm.append_left _ ?_
  rw [← List.append_assoc]
  exact List.perm_append_comm
theorem k_pL2 : List.Perm (wL G ad qb cap x y bd xm qo o) ((wX G ad x ++ (wB G ad qb cap y ++ E1 G qo o)) ++ wM G bd xm) := by
  unfold wL
  rw [List.append_assoc, List.append_assoc]
  exact List.Perm.append_left _ (List.Perm.append_left _ List.perm_append_comm)
/-- a wrapper of a method of the class -/
theorem k_lw (C : LC p l s m c b L xs A) {y0 : MethodName} {bytes : ByteArray} {mL : Nat} {hh : List (Nat × Nat × Nat × Nat)} {fr mc ms lo index nn : Nat} {As : List Value} {rv : Int32} {st0 : List Value} (hM : MetL PrW G l y0 bytes mL (some .int) hh fr mc ms lo As (wX G ad x ++ E1 G qo o) (wX G ad x' ++ E1 G qo o') rv) (hc : CalSW y0 bytes mL (some .int) hh nn) (hl : Cond.methodLink RL index y0 ∈ BIG) (hw : Wd G (wL G ad qb cap x y bd xm qo o) A s H locs) (hn : As.length = nn) (hls : ls.size = 7) (hst : st0 = As.reverse ++ rest) (hcat : (rest.map fun v => v.category).sum ≤ 8) (hR : fr + 1 ≤ room_1.frames ∧ 8 + (mL + 11) + lo ≤ room_1.locals) (hf : cells + mc ≤ room_1.cells ∧ slots + ms ≤ room_1.slots) (hdg : decode cL_law pc = .ok (.invokestatic index, 3))
    (kk : ∀ (H1 : Heap) (locs1 : List Loc), Wd G (wL G ad qb cap x' y bd xm qo o') A s H1 locs1 → W p l e room_1 s m #[Value.ref b] below meth c H1 locs1 (cells + mc) (slots + ms) Q (F0 m (pc + 3) ls (.int rv :: rest))) : W p l e room_1 s m #[Value.ref b] below meth c H locs cells slots Q (F0 m pc ls st0) :=
  k_callSW (wl := []) (w1 := wX G ad x ++ E1 G qo o) (wr := wB G ad qb cap y ++ wM G bd xm) prW_ok C.1 big_tbl hM hc hl C.2.2.2.2.2.2.1 (k_wperm k_pL1 hw) hn hls hst hcat hR hf hdg fun H1 locs1 h => kk H1 locs1 (k_wperm k_pL1.symm h)
theorem k_lwB (C : LC p l s m c b L xs A) {y0 : MethodName} {bytes : ByteArray} {mL : Nat} {hh : List (Nat × Nat × Nat × Nat)} {fr mc ms lo index nn : Nat} {As : List Value} {rv : Int32} {st0 : List Value} (hM : MetL PrWB G l y0 bytes mL (some .int) hh fr mc ms lo As (wX G ad x ++ (wB G ad qb cap y ++ E1 G qo o)) (wX G ad x ++ (wB G ad qb cap y ++ E1 G qo o')) rv) (hc : CalSW y0 bytes mL (some .int) hh nn) (hl : Cond.methodLink RL index y0 ∈ BIG) (hw : Wd G (wL G ad qb cap x y bd xm qo o) A s H locs) (hn : As.length = nn) (hls : ls.size = 7) (hst : st0 = As.reverse ++ rest) (hcat : (rest.map fun v => v.category).sum ≤ 8) (hR : fr + 1 ≤ room_1.frames ∧ 8 + (mL + 11) + lo ≤ room_1.locals) (hf : cells + mc ≤ room_1.cells ∧ slots + ms ≤ room_1.slots) (hdg : decode cL_law pc = .ok (.invokestatic index, 3))
    (kk : ∀ (H1 : Heap) (locs1 : List Loc), Wd G (wL G ad qb cap x y bd xm qo o') A s H1 locs1 → W p l e room_1 s m #[Value.ref b] below meth c H1 locs1 (cells + mc) (slots + ms) Q (F0 m (pc + 3) ls (.int rv :: rest))) : W p l e room_1 s m #[Value.ref b] below meth c H locs cells slots Q (F0 m pc ls st0) :=
  k_callSW (wl := []) (w1 := wX G ad x ++ (wB G ad qb cap y ++ E1 G qo o)) (wr := wM G bd xm) prWB_ok C.1 big_tbl hM hc hl C.2.2.2.2.2.2 (k_wperm k_pL2 hw) hn hls hst hcat hR hf hdg fun H1 locs1 h => kk H1 locs1 (k_wperm k_pL2.symm h)
/-- a method of the model -/
theorem k_lm (C : LC p l s m c b L xs A) {y0 : MethodName} {bytes : ByteArray} {mL : Nat} {ret : Option FieldType} {fr mc ms lo index nn : Nat} {As : List Value} {fs : List Value} {T : u_T} {N ci : Nat} {rv : Int32} {st0 : List Value} (hM : MetI G l y0 bytes mL ret fr mc ms lo (.ref (bd 0) :: As) (wM G bd xm) (wM G bd xm') rv) (hc : CalV y0 bytes mL ret nn) (hl : Cond.methodLink RL index y0 ∈ BIG) (hw : Wd G (wL G ad qb cap x y bd xm qo o) A s H locs) (he : (wM G bd xm)[0]? = some (bd 0, .inr (ci, fs))) (hci : vwCl[ci]? = some (y0.cls, T, N)) (hn : As.length = nn) (hls : ls.size = 7) (hst : st0 = As.reverse ++ .ref (bd 0) :: rest) (hcat : (rest.map fun v => v.category).sum ≤ 8) (hR : fr + 1 ≤ room_1.frames ∧ 8 + (mL + 11) + lo ≤ room_1.locals) (hf : cells + mc ≤ room_1.cells ∧ slots + ms ≤ room_1.slots) (hdg : decode cL_law pc = .ok (.invokevirtual index, 3))
    (kk : ∀ (H1 : Heap) (locs1 : List Loc), Wd G (wL G ad qb cap x y bd xm' qo o) A s H1 locs1 → W p l e room_1 s m #[Value.ref b] below meth c H1 locs1 (cells + mc) (slots + ms) Q (F0 m (pc + 3) ls (.int rv :: rest))) : W p l e room_1 s m #[Value.ref b] below meth c H locs cells slots Q (F0 m pc ls st0) :=
  k_callVi (wl := wX G ad x ++ wB G ad qb cap y) (w1 := wM G bd xm) (wr := E1 G qo o) C.1 big_tbl hM hc hl (by rw [List.append_assoc]; exact hw) 0 he hci hn hls hst hcat hR hf hdg fun H1 locs1 h => kk H1 locs1 (by rw [List.append_assoc] at h; exact h)
/-- a method of the class that doesn't throw -/
theorem k_lx (C : LC p l s m c b L xs A) {y0 : MethodName} {bytes : ByteArray} {mL : Nat} {ret : Option FieldType} {fr mc ms lo index nn : Nat} {As : List Value} {fs : List Value} {T : u_T} {N ci : Nat} {rv : Int32} {st0 : List Value} (hM : MetI G l y0 bytes mL ret fr mc ms lo (.ref (ad 0) :: As) (wX G ad x) (wX G ad x') rv) (hc : CalV y0 bytes mL ret nn) (hl : Cond.methodLink RL index y0 ∈ BIG) (hw : Wd G (wL G ad qb cap x y bd xm qo o) A s H locs) (he : (wX G ad x)[0]? = some (ad 0, .inr (ci, fs))) (hci : vwCl[ci]? = some (y0.cls, T, N)) (hn : As.length = nn) (hls : ls.size = 7) (hst : st0 = As.reverse ++ .ref (ad 0) :: rest) (hcat : (rest.map fun v => v.category).sum ≤ 8) (hR : fr + 1 ≤ room_1.frames ∧ 8 + (mL + 11) + lo ≤ room_1.locals) (hf : cells + mc ≤ room_1.cells ∧ slots + ms ≤ room_1.slots) (hdg : decode cL_law pc = .ok (.invokevirtual index, 3))
    (kk : ∀ (H1 : Heap) (locs1 : List Loc), Wd G (wL G ad qb cap x' y bd xm qo o) A s H1 locs1 → W p l e room_1 s m #[Value.ref b] below meth c H1 locs1 (cells + mc) (slots + ms) Q (F0 m (pc + 3) ls (.int rv :: rest))) : W p l e room_1 s m #[Value.ref b] below meth c H locs cells slots Q (F0 m pc ls st0) :=
  k_callVi (wl := []) (w1 := wX G ad x) (wr := wB G ad qb cap y ++ (wM G bd xm ++ E1 G qo o)) C.1 big_tbl hM hc hl hw 0 he hci hn hls hst hcat hR hf hdg fun H1 locs1 h => kk H1 locs1 h
/-- writeHistory -/
theorem k_lh (C : LC p l s m c b L xs A) {y0 : MethodName} {bytes : ByteArray} {mL : Nat} {ret : Option FieldType} {fr mc ms lo index nn capF : Nat} {yF : SX} {As : List Value} {fs : List Value} {T : u_T} {N ci : Nat} {rv : Int32} {st0 : List Value} (hM : MetPIU PrB G l y0 bytes mL ret fr mc ms lo (.ref (ad 0) :: As) (wX G ad x ++ (wB G ad qb cap y ++ [])) (fun u => wX G ad x ++ (wB G ad u capF yF ++ [])) rv) (hc : CalV y0 bytes mL ret nn) (hl : Cond.methodLink RL index y0 ∈ BIG) (hw : Wd G (wL G ad qb cap x y bd xm qo o) A s H locs) (he : (wX G ad x ++ (wB G ad qb cap y ++ []))[0]? = some (ad 0, .inr (ci, fs))) (hci : vwCl[ci]? = some (y0.cls, T, N)) (hn : As.length = nn) (hls : ls.size = 7) (hst : st0 = As.reverse ++ .ref (ad 0) :: rest) (hcat : (rest.map fun v => v.category).sum ≤ 8) (hR : fr + 1 ≤ room_1.frames ∧ 8 + (mL + 11) + lo ≤ room_1.locals) (hf : cells + mc ≤ room_1.cells ∧ slots + ms ≤ room_1.slots) (hdg : decode cL_law pc = .ok (.invokevirtual index, 3))
    (kk : ∀ (u : Nat) (H1 : Heap) (locs1 : List Loc), Wd G (wL G ad u capF x yF bd xm qo o) A s H1 locs1 → W p l e room_1 s m #[Value.ref b] below meth c H1 locs1 (cells + mc) (slots + ms) Q (F0 m (pc + 3) ls (.int rv :: rest))) : W p l e room_1 s m #[Value.ref b] below meth c H locs cells slots Q (F0 m pc ls st0) :=
  k_pvIU (wl := []) (w1 := wX G ad x ++ (wB G ad qb cap y ++ [])) (wr := wM G bd xm ++ E1 G qo o) prB_ok C.1 big_tbl hM hc hl C.2.2.2.2.2.2.2 hw 0 he hci hn hls hst hcat hR hf hdg fun u H1 locs1 h => kk u H1 locs1 h
end LAW
