/-! ===== the start: what the Statement gives ===== -/
theorem uJ0 : ∀ w ∈ u_ws RJ0 TJ0 4, w ∈ BIG := big_u [687, 689, 691, 693] (by decide +kernel) (by decide +kernel)
theorem uJx00060 : ∀ w ∈ u_ws RJx00060 TJx00060 6, w ∈ BIG := big_u [725, 726, 727, 728, 729, 740] (by decide +kernel) (by decide +kernel)
theorem uJx7c733 : ∀ w ∈ u_ws RJx7c733 TJx7c733 6, w ∈ BIG := big_u [700, 701, 702, 703, 704, 705] (by decide +kernel) (by decide +kernel)
theorem k_arr {args : Array Value} {s : State} {ty : FieldType} (h : (Cond.arrayClass ty).before args s = true) (hn : ∀ cA : ClassId, s.vm.findClass ("[" ++ ty.toString) = some cA → va_RA s cA ty) : ∃ cA : ClassId, ArrOfT s cA ty ∧ va_RA s cA ty := by
  obtain ⟨cA, kA, comp, h1, h2, h3⟩ := Cond.arrayClass_spec h
  exact ⟨cA, fun n z => ⟨fun k h => (by cases h), kA, h2, comp, h3⟩, hn cA h1⟩
theorem start_K {args : Array Value} {s : State} (hts : ∀ w ∈ lw_tbl, w.before args s = true) : ∃ G : gG, KK G s := by
  obtain ⟨c0, i0, h0⟩ := u_known (C := RJ0) (T := TJ0) (N := 4) (n := 4) hts (fun w h => big_tbl w (uJ0 w h)) (hts (.instantiable RJ0 4) (List.mem_of_getElem? (i := 566) (by decide +kernel)))
  obtain ⟨c1, i1, h1⟩ := u_known (C := RJ4) (T := TJ4) (N := 4) (n := 4) hts (fun w h => big_tbl w (uJ4 w h)) (hts (.instantiable RJ4 4) (List.mem_of_getElem? (i := 251) (by decide +kernel)))
  obtain ⟨c2, i2, h2⟩ := u_known (C := RJx00060) (T := TJx00060) (N := 6) (n := 6) hts (fun w h => big_tbl w (uJx00060 w h)) (hts (.instantiable RJx00060 6) (List.mem_of_getElem? (i := 720) (by decide +kernel)))
  obtain ⟨c3, i3, h3⟩ := u_known (C := RJx7c733) (T := TJx7c733) (N := 6) (n := 6) hts (fun w h => big_tbl w (uJx7c733 w h)) (hts (.instantiable RJx7c733 6) (List.mem_of_getElem? (i := 413) (by decide +kernel)))
  obtain ⟨c4, i4, h4⟩ := u_known (C := RX0) (T := TX0) (N := 4) (n := 4) hts (fun w h => big_tbl w (uX0 w h)) (hts (.instantiable RX0 4) (List.mem_of_getElem? (i := 198) (by decide +kernel)))
  obtain ⟨c5, i5, h5⟩ := u_known (C := RX2) (T := TX2) (N := 1) (n := 1) hts (fun w h => big_tbl w (uX2 w h)) (hts (.instantiable RX2 1) (List.mem_of_getElem? (i := 240) (by decide +kernel)))
  obtain ⟨c6, i6, h6⟩ := u_known (C := RX3) (T := TX3) (N := 4) (n := 4) hts (fun w h => big_tbl w (uX3 w h)) (hts (.instantiable RX3 4) (List.mem_of_getElem? (i := 220) (by decide +kernel)))
  obtain ⟨c7, i7, h7⟩ := u_known (C := RX4) (T := TX4) (N := 6) (n := 6) hts (fun w h => big_tbl w (uX4 w h)) (hts (.instantiable RX4 6) (List.mem_of_getElem? (i := 168) (by decide +kernel)))
  obtain ⟨c8, i8, h8⟩ := u_known (C := RX5) (T := TX5) (N := 16) (n := 16) hts (fun w h => big_tbl w (uX5 w h)) (hts (.instantiable RX5 16) (List.mem_of_getElem? (i := 99) (by decide +kernel)))
  obtain ⟨c9, i9, h9⟩ := u_known (C := RX6) (T := TX6) (N := 11) (n := 11) hts (fun w h => big_tbl w (uX6 w h)) (hts (.instantiable RX6 11) (List.mem_of_getElem? (i := 91) (by decide +kernel)))
  obtain ⟨c10, i10, h10⟩ := u_known (C := RX7) (T := TX7) (N := 42) (n := 42) hts (fun w h => big_tbl w (uX7 w h)) (hts (.instantiable RX7 42) (List.mem_of_getElem? (i := 1350) (by decide +kernel)))
  obtain ⟨a0, g0, r0⟩ := k_arr (ty := .int) (hts _ (big_tbl _ ac_int)) (fun _ h => h)
  obtain ⟨a1, g1, r1⟩ := k_arr (ty := .long) (hts _ (big_tbl _ ac_long)) (fun _ h => h)
  obtain ⟨a2, g2, r2⟩ := k_arr (ty := .boolean) (hts _ (big_tbl _ ac_boolean)) (fun _ h => h)
  obtain ⟨a3, g3, r3⟩ := k_arr (ty := .byte) (hts _ (big_tbl _ ac_byte)) (fun _ h => h)
  refine ⟨((fun k => if k = 0 then c0 else if k = 1 then c1 else if k = 2 then c2 else if k = 3 then c3 else if k = 4 then c4 else if k = 5 then c5 else if k = 6 then c6 else if k = 7 then c7 else if k = 8 then c8 else if k = 9 then c9 else c10, fun k => if k = 0 then i0 else if k = 1 then i1 else if k = 2 then i2 else if k = 3 then i3 else if k = 4 then i4 else if k = 5 then i5 else if k = 6 then i6 else if k = 7 then i7 else if k = 8 then i8 else if k = 9 then i9 else i10), fun k => if k = 0 then a0 else if k = 1 then a1 else if k = 2 then a2 else a3), fun k q hq => ?_, fun k q hq => ?_⟩
  · match k, hq with
    | 0, hq => cases hq; exact h0
    | 1, hq => cases hq; exact h1
    | 2, hq => cases hq; exact h2
    | 3, hq => cases hq; exact h3
    | 4, hq => cases hq; exact h4
    | 5, hq => cases hq; exact h5
    | 6, hq => cases hq; exact h6
    | 7, hq => cases hq; exact h7
    | 8, hq => cases hq; exact h8
    | 9, hq => cases hq; exact h9
    | 10, hq => cases hq; exact h10
    | k + 11, hq => exact absurd (List.getElem?_eq_some_iff.mp hq).1 (by show ¬ (k + 11 < 11); omega)
  · match k, hq with
    | 0, hq => cases hq; exact ⟨g0, r0⟩
    | 1, hq => cases hq; exact ⟨g1, r1⟩
    | 2, hq => cases hq; exact ⟨g2, r2⟩
    | 3, hq => cases hq; exact ⟨g3, r3⟩
    | k + 4, hq => exact absurd (List.getElem?_eq_some_iff.mp hq).1 (by show ¬ (k + 4 < 4); omega)
theorem start_Y {args : Array Value} {s : State} (hts : ∀ w ∈ lw_tbl, w.before args s = true) : YY s := by
  have h : ∀ w ∈ XW, w ∈ lw_tbl := by
    intro w hw
    simp only [XW, List.mem_cons, List.not_mem_nil, or_false] at hw
    rcases hw with rfl | rfl | rfl | rfl | rfl | rfl | rfl
    · exact List.mem_of_getElem? (i := 600) (by decide +kernel)
    · exact List.mem_of_getElem? (i := 602) (by decide +kernel)
    · exact List.mem_of_getElem? (i := 604) (by decide +kernel)
    · exact List.mem_of_getElem? (i := 599) (by decide +kernel)
    · exact List.mem_of_getElem? (i := 940) (by decide +kernel)
    · exact List.mem_of_getElem? (i := 1024) (by decide +kernel)
    · exact List.mem_of_getElem? (i := 1131) (by decide +kernel)
  exact fun w hw => va_Nw.of (xw_on w hw) (hts w (h w hw))
theorem start_N {args : Array Value} {s : State} (hts : ∀ w ∈ lw_tbl, w.before args s = true) : PrN s := ⟨va_Nw.of rfl (hts _ (List.mem_of_getElem? (i := 100) (by decide +kernel))), va_Nw.of rfl (hts _ (List.mem_of_getElem? (i := 169) (by decide +kernel))), va_Nw.of rfl (hts _ (List.mem_of_getElem? (i := 199) (by decide +kernel))), va_Nw.of rfl (hts _ (List.mem_of_getElem? (i := 221) (by decide +kernel))), va_Nw.of rfl (hts _ (List.mem_of_getElem? (i := 241) (by decide +kernel)))⟩
abbrev gv1 : Cond := Jvm.Cond.and given_1 narrow_1
theorem start_C12 : Cond.not (.castable (exn 1) (exn 2)) ∈ flatC gv1 := List.mem_of_getElem? (i := 239) (by decide +kernel)
theorem start_C13 : Cond.not (.castable (exn 1) (exn 3)) ∈ flatC gv1 := List.mem_of_getElem? (i := 253) (by decide +kernel)
theorem start_C14 : Cond.not (.castable (exn 1) (exn 4)) ∈ flatC gv1 := List.mem_of_getElem? (i := 265) (by decide +kernel)
theorem start_C21 : Cond.not (.castable (exn 2) (exn 1)) ∈ flatC gv1 := List.mem_of_getElem? (i := 225) (by decide +kernel)
theorem start_C23 : Cond.not (.castable (exn 2) (exn 3)) ∈ flatC gv1 := List.mem_of_getElem? (i := 254) (by decide +kernel)
theorem start_C24 : Cond.not (.castable (exn 2) (exn 4)) ∈ flatC gv1 := List.mem_of_getElem? (i := 266) (by decide +kernel)
theorem start_C31 : Cond.not (.castable (exn 3) (exn 1)) ∈ flatC gv1 := List.mem_of_getElem? (i := 226) (by decide +kernel)
theorem start_C32 : Cond.not (.castable (exn 3) (exn 2)) ∈ flatC gv1 := List.mem_of_getElem? (i := 240) (by decide +kernel)
theorem start_C34 : Cond.not (.castable (exn 3) (exn 4)) ∈ flatC gv1 := List.mem_of_getElem? (i := 267) (by decide +kernel)
theorem start_C41 : Cond.not (.castable (exn 4) (exn 1)) ∈ flatC gv1 := List.mem_of_getElem? (i := 227) (by decide +kernel)
theorem start_C42 : Cond.not (.castable (exn 4) (exn 2)) ∈ flatC gv1 := List.mem_of_getElem? (i := 241) (by decide +kernel)
theorem start_C43 : Cond.not (.castable (exn 4) (exn 3)) ∈ flatC gv1 := List.mem_of_getElem? (i := 255) (by decide +kernel)
theorem start_C (i j : Nat) (h1 : 1 ≤ i) (h2 : i ≤ 4) (h3 : 1 ≤ j) (h4 : j ≤ 4) (h5 : i ≠ j) : Cond.not (.castable (exn i) (exn j)) ∈ flatC gv1 :=
  match i, j, h1, h2, h3, h4, h5 with
  | 1, 2, _, _, _, _, _ => start_C12
  | 1, 3, _, _, _, _, _ => start_C13
  | 1, 4, _, _, _, _, _ => start_C14
  | 2, 1, _, _, _, _, _ => start_C21
  | 2, 3, _, _, _, _, _ => start_C23
  | 2, 4, _, _, _, _, _ => start_C24
  | 3, 1, _, _, _, _, _ => start_C31
  | 3, 2, _, _, _, _, _ => start_C32
  | 3, 4, _, _, _, _, _ => start_C34
  | 4, 1, _, _, _, _, _ => start_C41
  | 4, 2, _, _, _, _, _ => start_C42
  | 4, 3, _, _, _, _, _ => start_C43
  | 1, 1, _, _, _, _, h | 2, 2, _, _, _, _, h | 3, 3, _, _, _, _, h | 4, 4, _, _, _, _, h => absurd rfl h
theorem start_X {args : Array Value} {s : State} (hgv : gv1.before args s = true) : NCX s := fun i j h1 h2 h3 h4 h5 => va_Nc.of (flat_of_before _ hgv _ (start_C i j h1 h2 h3 h4 h5))
def tO : Term := .static "java/lang/Integer" "DigitOnes" "[B"
def tT : Term := .static "java/lang/Integer" "DigitTens" "[B"
theorem start_D1 : ∀ j, j < 100 → (flatC gv1)[12 + j]? = some (Cond.eq (.elem tO (.int (Int32.ofNat j))) (.int (tabO j))) := by decide +kernel
theorem start_D2 : ∀ j, j < 100 → (flatC gv1)[115 + j]? = some (Cond.eq (.elem tT (.int (Int32.ofNat j))) (.int (tabT j))) := by decide +kernel
theorem start_D3 : Cond.arrayOf tO .byte ∈ flatC gv1 ∧ Cond.arrayOf tT .byte ∈ flatC gv1 ∧ Cond.eq (.length tO) (.int 100) ∈ flatC gv1 ∧ Cond.eq (.length tT) (.int 100) ∈ flatC gv1 := ⟨List.mem_of_getElem? (i := 10) (by decide +kernel), List.mem_of_getElem? (i := 113) (by decide +kernel), List.mem_of_getElem? (i := 11) (by decide +kernel), List.mem_of_getElem? (i := 114) (by decide +kernel)⟩
theorem start_D4 : Cond.eq (.static "java/lang/String" "COMPACT_STRINGS" "Z") (.int 1) ∈ flatC gv1 ∧ Cond.isRef (.static "jdk/internal/util/Preconditions" "SIOOBE_FORMATTER" "Ljava/util/function/BiFunction;") ∈ flatC gv1 ∧ Cond.isRef (.static Bundle.tN "UNASSIGNED_STACK" Bundle.steD) ∈ flatC gv1 ∧ Cond.isRef (.static Bundle.tN "SUPPRESSED_SENTINEL" Bundle.listD) ∈ flatC gv1 := ⟨List.mem_of_getElem? (i := 4) (by decide +kernel), List.mem_of_getElem? (i := 5) (by decide +kernel), List.mem_of_getElem? (i := 215) (by decide +kernel), List.mem_of_getElem? (i := 216) (by decide +kernel)⟩
theorem start_S {args : Array Value} {s : State} (hts : ∀ w ∈ lw_tbl, w.before args s = true) : SelB s := by
  have hs : (Cond.selects RJ4 yJ5_isLatin1_aae02 yJ5_isLatin1_aae02).before args s = true := hts _ (big_tbl _ sel_lat)
  exact ⟨va_Nw.of rfl (k_selU (x := yJ5_isLatin1_aae02) rfl hs (by decide) (hts _ (List.mem_of_getElem? (i := 432) (by decide +kernel))) (hts _ (List.mem_of_getElem? (i := 433) (by decide +kernel)))), va_Nw.of rfl (k_selU (x := yJ5_isLatin1_aae02) rfl hs (by decide) (hts _ (List.mem_of_getElem? (i := 436) (by decide +kernel))) (hts _ (List.mem_of_getElem? (i := 437) (by decide +kernel))))⟩
theorem start_B {args : Array Value} {s : State} {A : Nat → Prop} (hts : ∀ w ∈ lw_tbl, w.before args s = true) (hgv : gv1.before args s = true) (hA : ∀ a : Nat, a < s.heap.size → ¬ A a) : PrB A s s.heap := by
  have g := flat_of_before _ hgv
  obtain ⟨d1, d2, d3, d4⟩ := start_D3
  obtain ⟨e1, e2, -, -⟩ := start_D4
  obtain ⟨t1, h1, h2⟩ := va_Tof (tm := tO) (ty := .byte) (N := 100) (f := fun j => .int (tabO j)) (A := A) (by decide) (g _ d1) (va_eqt (g _ d3)) (fun j hj => va_eqt (g _ (List.mem_of_getElem? (start_D1 j hj)))) hA
  obtain ⟨t2, h3, h4⟩ := va_Tof (tm := tT) (ty := .byte) (N := 100) (f := fun j => .int (tabT j)) (A := A) (by decide) (g _ d2) (va_eqt (g _ d4)) (fun j hj => va_eqt (g _ (List.mem_of_getElem? (start_D2 j hj)))) hA
  exact ⟨va_Zof (hts _ (List.mem_of_getElem? (i := 260) (by decide +kernel))) (hts _ (List.mem_of_getElem? (i := 68) (by decide +kernel))) (va_eqt (g _ e1)) hA, va_Zqof (hts _ (List.mem_of_getElem? (i := 480) (by decide +kernel))) (hts _ (List.mem_of_getElem? (i := 87) (by decide +kernel))) (g _ e2) hA, ⟨t1, va_Zof (hts _ (List.mem_of_getElem? (i := 550) (by decide +kernel))) (hts _ (List.mem_of_getElem? (i := 83) (by decide +kernel))) h1 hA, h2⟩, ⟨t2, va_Zof (hts _ (List.mem_of_getElem? (i := 552) (by decide +kernel))) (hts _ (List.mem_of_getElem? (i := 83) (by decide +kernel))) h3 hA, h4⟩, start_S hts⟩
theorem start_Z {args : Array Value} {s : State} {A : Nat → Prop} (hts : ∀ w ∈ lw_tbl, w.before args s = true) (hgv : gv1.before args s = true) (hA : ∀ a : Nat, a < s.heap.size → ¬ A a) : ZZ A s s.heap :=
  ⟨vx_Zqof (hts _ (List.mem_of_getElem? (i := 624) (by decide +kernel))) (hts _ (List.mem_of_getElem? (i := 72) (by decide +kernel))) (flat_of_before _ hgv _ start_D4.2.2.1) hA, vx_Zqof (hts _ (List.mem_of_getElem? (i := 626) (by decide +kernel))) (hts _ (List.mem_of_getElem? (i := 72) (by decide +kernel))) (flat_of_before _ hgv _ start_D4.2.2.2) hA, start_Y hts⟩
