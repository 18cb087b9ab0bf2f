/-! ===== outputAt ===== -/
theorem prOk_and {P1 P2 : (Nat → Prop) → State → Heap → Prop} (h1 : PrOk P1) (h2 : PrOk P2) : PrOk (fun A U H => P1 A U H ∧ P2 A U H) :=
  ⟨fun A B s U H hAB hW h => ⟨h1.1 A B s U H hAB hW h.1, h2.1 A B s U H hAB hW h.2⟩, fun A s H H1 hk h => ⟨h1.2.1 A s H H1 hk h.1, h2.2.1 A s H H1 hk h.2⟩, fun A s U H e h => ⟨h1.2.2 A s U H e h.1, h2.2.2 A s U H e h.2⟩⟩
def PrWB (A : Nat → Prop) (U : State) (H : Heap) : Prop := PrW A U H ∧ PrB A U H
theorem prWB_ok : PrOk PrWB := prOk_and prW_ok prB_ok
def MetXP (Pr : (Nat → Prop) → State → Heap → Prop) (G : gG) (l : Launch) (y : MethodName) (cc : ByteArray) (mL : Nat) (ret : Option FieldType) (fr mc ms lo : Nat) (av : List Value) (w1 w2 : va_W) (k : Nat) (rv : Int32) : Prop :=
  ∀ sz : Nat, vx_Met l y (WS y cc mL ret) (rmk fr mc ms lo) (va_Pc av (PcP Pr G w1 sz)) (va_Qi (fun (r : Int32) (_ : Unit) => k = 0 ∧ r = rv) (fun _ t => BW G w2 (va_A w1 sz) t) (va_A w1 sz)) (vx_X (fun (_ : Unit) => True) (fun E _ t => (k ≠ 0 ∧ E = exn k) ∧ BW G w2 (va_A w1 sz) t) (va_A w1 sz)) mc ms (va_A w1 sz)
theorem k_ofXP {Pr : (Nat → Prop) → State → Heap → Prop} {G : gG} {l : Launch} {y : MethodName} {cc : ByteArray} {mL : Nat} {ret : Option FieldType} {fr mc ms lo : Nat} {av : List Value} {w1 w2 : va_W} {k : Nat} {rv : Int32} (hy : plainName y.cls = true) (hn : (lg_sl av).length ≤ mL)
    (body : ∀ (p : Program) (e : Env) (s : State) (m : MethodId) (args : Array Value) (below : List Frame) (meth : Method) (c : Code) (ls : Array Slot) (A : Nat → Prop), CallFix p m c cc mL s args (WS y cc mL ret) y.cls → meth.sig.returnType = ret → meth.locks = false → (∀ x ∈ c.exceptionTable.toList, False) → lv_has ls mL (lv_args 0 av) → Wd G w1 A s s.heap [] → Pr A s s.heap →
      W p l e (rmk fr mc ms lo) s m args below meth c s.heap [] 0 0 (KQXI G below args s A w2 k rv mc ms) (F0 m 0 ls [])) : MetXP Pr G l y cc mL ret fr mc ms lo av w1 w2 k rv := by
  intro sz
  refine vx_ofW (cc := cc) (maxL := mL) (ret := ret) hy rfl ?_
  intro p e s m args below meth c s₁ B hml hout hv
  obtain ⟨rfl, ⟨hsz, hP, hK, hD0⟩, hZ⟩ := hv
  subst hsz
  have hD := hD0.self (sz := s.heap.size)
  have hl := lv_entry av (n := mL) hn
  rw [lg_entry_eq]
  have hts := atoms_spec (ws := WS y cc mL ret) B.pre
  exact body p e s m _ below meth c _ (va_A w1 s.heap.size) ⟨B.exec, B.bytes, hml, findClass_of_methodNamed B.named, hts⟩ B.returns B.notSynchronized hout hl ⟨hK, hP, hD, va_S.rf, fun q h => Or.inr h⟩ hZ
section
variable {p : Program} {l : Launch} {e : Env} {R : Room} {s : State} {m : MethodId} {args : Array Value} {below : List Frame} {meth : Method} {c : Code} {H : Heap} {locs : List Loc} {cells slots : Nat} {Q : State → Prop}
variable {cc : ByteArray} {pc : Nat} {ls : Array Slot} {rest : List Value} {nL : Nat} {Ts : List Cond} {own : String} {G : gG} {A : Nat → Prop} {w w' : va_W} {a n : Nat}
theorem k_xpV {Pr : (Nat → Prop) → State → Heap → Prop} (hPr : PrOk Pr) (F : CallFix p m c cc nL s args Ts own) (hT : ∀ q ∈ BIG, q ∈ Ts) {y : MethodName} {bytes : ByteArray} {mL : Nat} {ret : Option FieldType} {fr mc ms lo : Nat} {As : List Value} {index nn : Nat} {b : Nat} {ci : Nat} {fs : List Value} {T : u_T} {N : Nat} {w1 w2 wl wr : va_W} {k : Nat} {rv : Int32} {st0 : List Value} (hM : MetXP Pr G l y bytes mL ret fr mc ms lo (.ref b :: As) w1 w2 k rv) (hc : CalV y bytes mL ret nn) (hl : Cond.methodLink own index y ∈ BIG) (hZ : Pr A s s.heap) (hw : Wd G (wl ++ (w1 ++ wr)) A s H locs) (q0 : Nat) (he : w1[q0]? = some (b, .inr (ci, fs))) (hci : vwCl[ci]? = some (y.cls, T, N)) (hn : As.length = nn) (hls : ls.size = nL) (hst : st0 = As.reverse ++ .ref b :: rest) (hcat : (rest.map fun v => v.category).sum ≤ 8) (hR : fr + 1 ≤ R.frames ∧ 8 + (mL + 11) + lo ≤ R.locals) (hf : cells + mc ≤ R.cells ∧ slots + ms ≤ R.slots) (hdg : decode cc pc = .ok (.invokevirtual index, 3))
    (kx : k ≠ 0 → ∀ (E : String) (ce : Cell) (q9 : Nat) (H1 : Heap) (locs1 : List Loc), E = exn k → Wd G (wl ++ (w2 ++ wr)) A s H1 locs1 → H1[q9]? = some ce → ce.vm = .none → s.vm.findClass E = some ce.cls → vx_W p l e R s m args below meth c H1 locs1 (cells + mc) (slots + ms) Q (F0 m pc ls rest) q9)
    (kk : k = 0 → ∀ (H1 : Heap) (locs1 : List Loc), Wd G (wl ++ (w2 ++ wr)) A s H1 locs1 → W p l e R s m args below meth c H1 locs1 (cells + mc) (slots + ms) Q (F0 m (pc + 3) ls (.int rv :: rest))) : W p l e R s m args below meth c H locs cells slots Q (F0 m pc ls st0) := by
  have hpre := k_preV (As := As) hPr hw hZ q0 he hci
  obtain ⟨hK, hP, hD, hS, hA⟩ := hw
  have hP1 : va_P G.1 vwCl w1 H := k_Pl (k_Pr hP)
  have hD1 : va_D A w1 := k_Dl (k_Dr hD)
  have hF : ∀ q, va_A w1 H.size q → A q := fun q h => by
    rcases h with ⟨k, e, h⟩ | h
    · exact hD1.2 k _ h
    · exact hA q (Nat.le_trans hS.1 h)
  subst hst
  refine vx_calli (vx_runV (As := As) (rest := rest) F (hM H.size) (k_cwV (rm := rmk fr mc ms lo) F.2.2.2.2 hT hl hc hR) hpre rfl hn hls rfl (lv_room hcat) hdg hf) hS (fun q _ h => hF q h) hF (fun q _ h => hF q h) (fun E ce q9 u t H1 locs1 ht hvm _ hB hz1 hk1 hS1 g1 g2 g3 => ?_) (fun r u t H1 locs1 ht hvm hpost hB hz1 hk1 hS1 => ?_)
  · obtain ⟨⟨hk0, hE⟩, hP2, hD2⟩ := hB
    rw [ht] at hP2
    obtain ⟨h1, h2⟩ := k_frame hP hD hk1 hF hP2 hD2
    exact kx hk0 E ce q9 H1 locs1 hE ⟨hK, h1, h2, hS1, hA⟩ g1 g2 g3
  · obtain ⟨hk0, rfl⟩ := hpost
    obtain ⟨hP2, hD2⟩ := hB
    rw [ht] at hP2
    obtain ⟨h1, h2⟩ := k_frame hP hD hk1 hF hP2 hD2
    exact kk hk0 H1 locs1 ⟨hK, h1, h2, hS1, hA⟩
end
set_option maxHeartbeats 4000000 in
set_option maxRecDepth 100000 in
theorem h_outAt {cap k : Nat} {x y : SX} {t : Nat → Nat} {a1 : Int32} {k0 : Nat} {rv : Int32} (h : OkT cap y t k) (hk : ((0 ≤ a1 ∧ a1 < nI k) ∧ k0 = 0 ∧ rv = nI (t a1.toNatClampNeg)) ∨ (¬ (0 ≤ a1 ∧ a1 < nI k) ∧ k0 = 3 ∧ rv = 0)) {G : gG} {l : Launch} (hlt : l.stackTraces = false) {ad : Nat → Nat} {qb : Nat} : MetXP PrWB G l yX6_outputAt cX6_outputAt 2 (some .char) 6 1 6 125 [.ref (ad 0), .int a1] (wX G ad x ++ (wB G ad qb cap y ++ [])) (wX G ad x ++ (wB G ad qb cap y ++ [])) k0 rv := by
  have hkc : k ≤ cap := h.2.2.1
  have hcap : cap ≤ 2 ^ 17 := h.2.2.2.1
  have hi : (0 ≤ a1 ∧ a1 < nI k) → a1.toNatClampNeg < k := fun q => by
    obtain ⟨j, hj, rfl⟩ := nI_of (Int32.not_lt.mpr q.1)
    rw [nI_clamp hj]
    exact (nI_ltI hj (by omega)).mp q.2
  refine k_ofXP (by decide) (Nat.le_of_ble_eq_true rfl) ?_
  intro p e s m args below meth c ls A F hr hlk hout hl hw hZ
  have hx := F.1
  have hb := F.2.1
  have hl : lv_has ls 2 [(0, .ref (ad 0)), (1, .int a1)] := hl
  refine lv_iload_n hx hb dX6_outputAt_0 rfl (lv_at hl 1 rfl) ?_
  refine lv_if_lt (tgt := 15) hx hb dX6_outputAt_1 rfl (fun c1 => ?_) (fun c1 => ?_)
  · rcases hk with ⟨q, _⟩ | ⟨_, rfl, rfl⟩
    · exact absurd c1 (Int32.not_lt.mpr q.1)
    · exact k_throwI F hlt hlk hout ws_in hZ.1.1 hw hl.1 (by decide) (by decide) thc_3 thi_3 tha_3 ⟨(Nat.le_of_ble_eq_true rfl), (Nat.le_of_ble_eq_true rfl), (Nat.le_of_ble_eq_true rfl), (Nat.le_of_ble_eq_true rfl)⟩ (Nat.le_of_ble_eq_true rfl) (Nat.le_of_ble_eq_true rfl) dX6_outputAt_15 dX6_outputAt_18 dX6_outputAt_19 dX6_outputAt_22
  · refine lv_iload_n hx hb dX6_outputAt_4 rfl (lv_at hl 1 rfl) ?_
    refine lv_aload_n hx hb dX6_outputAt_5 rfl (lv_at hl 0 rfl) ?_
    refine k_blk F ws_in hw fl_X6_53 dX6_outputAt_6 ?_
    refine k_pvI (wl := wX G ad x) (w1 := wB G ad qb cap y) (wr := []) (rest := [.int a1]) (As := []) prB_ok F ws_in t_len4 cv_J4_length_8abf5 ml_X6_278 hZ.2 hw 0 rfl rfl rfl hl.1 rfl (Nat.le_of_ble_eq_true rfl) ⟨(Nat.le_of_ble_eq_true rfl), (Nat.le_of_ble_eq_true rfl)⟩ ⟨(Nat.le_of_ble_eq_true rfl), (Nat.le_of_ble_eq_true rfl)⟩ dX6_outputAt_9 (fun H locs hw => ?_)
    have hw : Wd G (wX G ad x ++ (wB G ad qb cap y ++ [])) A s H locs := hw
    refine lv_icmp_lt (tgt := 23) hx hb dX6_outputAt_12 rfl (fun c2 => ?_) (fun c2 => ?_)
    · rcases hk with ⟨q, rfl, rfl⟩ | ⟨q, _⟩
      · refine lv_aload_n hx hb dX6_outputAt_23 rfl (lv_at hl 0 rfl) ?_
        refine k_blk F ws_in hw fl_X6_53 dX6_outputAt_24 ?_
        refine lv_iload_n hx hb dX6_outputAt_27 rfl (lv_at hl 1 rfl) ?_
        have hi2 : a1.toNatClampNeg < k := hi q
        have hlat := h.2.2.2.2.2 _ hi2
        have hby := sb_byte _ hlat.1
        refine k_pvI (wl := wX G ad x) (w1 := wB G ad qb cap y) (wr := []) (rest := []) (As := [.int a1]) prB_ok F ws_in (t_chr4 h.1 q.1 ?_ ?_) cv_J4_charAt_5068e ml_X6_281 hZ.2 hw 0 rfl rfl rfl hl.1 rfl (Nat.le_of_ble_eq_true rfl) ⟨(Nat.le_of_ble_eq_true rfl), (Nat.le_of_ble_eq_true rfl)⟩ ⟨(Nat.le_of_ble_eq_true rfl), (Nat.le_of_ble_eq_true rfl)⟩ dX6_outputAt_28 (fun H locs hw => ?_)
        · rw [h.1, sb_shr0]
          split
          · rw [h.2.1] at c2; exact Int32.lt_of_lt_of_le c2 (nI_le (by omega) (by omega))
          · exact c2
        · simp only [qin, Bool.and_eq_true, decide_eq_true_eq]
          exact ⟨q.1, by omega⟩
        rw [hlat.2, hby.1, hby.2.1]
        exact k_xiret F hr hlk hw (pk_charN (by omega)).1 (Nat.le_of_ble_eq_true rfl) (Nat.le_of_ble_eq_true rfl) dX6_outputAt_31
      · exact absurd ⟨Int32.not_lt.mp c1, by rw [h.2.1] at c2; exact c2⟩ q
    · rcases hk with ⟨q, _⟩ | ⟨_, rfl, rfl⟩
      · exact absurd q.2 (by rw [h.2.1] at c2; exact c2)
      · exact k_throwI F hlt hlk hout ws_in hZ.1.1 hw hl.1 (by decide) (by decide) thc_3 thi_3 tha_3 ⟨(Nat.le_of_ble_eq_true rfl), (Nat.le_of_ble_eq_true rfl), (Nat.le_of_ble_eq_true rfl), (Nat.le_of_ble_eq_true rfl)⟩ (Nat.le_of_ble_eq_true rfl) (Nat.le_of_ble_eq_true rfl) dX6_outputAt_15 dX6_outputAt_18 dX6_outputAt_19 dX6_outputAt_22
set_option maxHeartbeats 4000000 in
set_option maxRecDepth 100000 in
theorem h_L_outAt {cap k : Nat} {x y : SX} {t : Nat → Nat} {a1 : Int32} {k0 : Nat} {rv c0 : Int32} (h : OkT cap y t k) (hk : ((0 ≤ a1 ∧ a1 < nI k) ∧ k0 = 0 ∧ rv = nI (t a1.toNatClampNeg)) ∨ (¬ (0 ≤ a1 ∧ a1 < nI k) ∧ k0 = 3 ∧ rv = 0)) (hc : (k0 = 0 ∧ c0 = 0) ∨ (k0 = 3 ∧ c0 = 1)) {G : gG} {l : Launch} (hlt : l.stackTraces = false) {ad : Nat → Nat} {qb qo : Nat} {o : Nat → Int64} : MetL PrWB G l yL_outputAt cL_outputAt 4 (some .int) hh_L_outputAt 7 1 6 150 [.ref (ad 0), .int a1, .ref qo] (wX G ad x ++ (wB G ad qb cap y ++ [(qo, .inl (G.2 1, 1, .inr (.inl o)))])) (wX G ad x ++ (wB G ad qb cap y ++ [(qo, .inl (G.2 1, 1, .inr (.inl (if k0 = 0 then vp_updL o 0 rv.toInt64 else o))))])) c0 := by
  refine k_ofL (by decide) (Nat.le_of_ble_eq_true rfl) ?_
  intro p e s m args below meth c ls A F hr hlk htab hl hw hZ
  have hx := F.1
  have hb := F.2.1
  have hl : lv_has ls 4 [(0, .ref (ad 0)), (1, .int a1), (2, .ref qo)] := hl
  have htab : c.exceptionTable.toList = [⟨0, 9, 12, 44⟩] := htab
  refine lv_aload_n hx hb dL_outputAt_0 rfl (lv_at hl 2 rfl) ?_
  refine lv_iconst (v := 0) hx hb dL_outputAt_1 (by decide) ?_
  refine lv_aload_n hx hb dL_outputAt_2 rfl (lv_at hl 0 rfl) ?_
  refine lv_iload_n hx hb dL_outputAt_3 rfl (lv_at hl 1 rfl) ?_
  refine k_xpV (wl := []) (w1 := wX G ad x ++ (wB G ad qb cap y ++ [])) (wr := [(qo, .inl (G.2 1, 1, .inr (.inl o)))]) (rest := [.int 0, .ref qo]) (As := [.int a1]) prWB_ok F wsh_in (h_outAt h hk hlt) cv_X6_outputAt ml_L_141 hZ hw 0 rfl rfl rfl hl.1 rfl (Nat.le_of_ble_eq_true rfl) ⟨(Nat.le_of_ble_eq_true rfl), (Nat.le_of_ble_eq_true rfl)⟩ ⟨(Nat.le_of_ble_eq_true rfl), (Nat.le_of_ble_eq_true rfl)⟩ dL_outputAt_4 (fun hk9 E ce q9 H locs hE hw g1 g2 g3 => ?_) (fun hk9 H locs hw => ?_)
  · rcases hc with ⟨rfl, rfl⟩ | ⟨rfl, rfl⟩
    · exact absurd rfl hk9
    · subst hE
      have hw : Wd G (wX G ad x ++ (wB G ad qb cap y ++ [(qo, .inl (G.2 1, 1, .inr (.inl o)))])) A s H locs := hw
      refine vx_catch (own := RL) (name := exn 3) F.2.2.2.1 [] ⟨0, 9, 12, 44⟩ [] htab (fun z hz => by cases hz) (by decide) (by decide) (F.2.2.2.2 _ (wsh_in _ lkx_3)) (hZ.1.1.2.2.use (by decide)) g1 g2 g3 ?_
      refine lv_astore_n (lv' := [(3, .ref q9), (0, .ref (ad 0)), (1, .int a1), (2, .ref qo)]) hx hb dL_outputAt_12 rfl hl (Nat.le_of_ble_eq_true rfl) rfl (fun ls hl => ?_)
      refine lv_iconst (v := 1) hx hb dL_outputAt_13 (by decide) ?_
      exact k_liret F hr hlk hw (Nat.le_of_ble_eq_true rfl) (Nat.le_of_ble_eq_true rfl) dL_outputAt_14
  · have hc0 : c0 = 0 := by
      rcases hc with ⟨h1, h2⟩ | ⟨h1, h2⟩
      · exact h2
      · rw [hk9] at h1; cases h1
    subst hc0; subst hk9
    have hw : Wd G (wX G ad x ++ (wB G ad qb cap y ++ [(qo, .inl (G.2 1, 1, .inr (.inl o)))])) A s H locs := hw
    refine lv_i2l hx hb dL_outputAt_7 rfl ?_
    refine k_lst (w' := wX G ad x ++ (wB G ad qb cap y ++ [(qo, .inl (G.2 1, 1, .inr (.inl (vp_updL o 0 rv.toInt64))))])) F hw 36 rfl (by decide) rfl dL_outputAt_8 (fun H locs hw => ?_)
    refine lv_goto (tgt := 15) hx hb dL_outputAt_9 rfl ?_
    refine lv_iconst (v := 0) hx hb dL_outputAt_15 (by decide) ?_
    exact k_liret F hr hlk hw (Nat.le_of_ble_eq_true rfl) (Nat.le_of_ble_eq_true rfl) dL_outputAt_16
