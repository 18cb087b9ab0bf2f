theorem S1_le (N : Nat) : S1 8 N ≤ N := Nat.sub_le _ _
theorem S2_lt (N : Nat) : S2 8 N < 2 ^ 63 := by
  have b1 : S1 8 N &&& mkB 51 8 ≤ mkB 51 8 := Nat.and_le_right
  have b2 : S1 8 N / 4 &&& mkB 51 8 ≤ mkB 51 8 := Nat.and_le_right
  have k2 := mk_m.2.1
  unfold S2
  omega
theorem S3_lt (N : Nat) : S3 8 N < 2 ^ 60 := by
  have b1 : S3 8 N ≤ mkB 15 8 := Nat.and_le_right
  have k3 := mk_m.2.2
  omega
theorem S3_w1 {S : Nat} (h : S < 2 ^ 60) : S < 2 ^ 64 ∧ S + S / 2 ^ 8 < 2 ^ 64 ∧ S + S / 2 ^ 8 + (S + S / 2 ^ 8) / 2 ^ 16 < 2 ^ 64 := by
  have g1 : S / 2 ^ 8 ≤ S := Nat.div_le_self _ _
  have g2 : (S + S / 2 ^ 8) / 2 ^ 16 ≤ S + S / 2 ^ 8 := Nat.div_le_self _ _
  generalize (S + S / 2 ^ 8) / 2 ^ 16 = u at *
  generalize S / 2 ^ 8 = v at *
  omega
theorem bc1 {N : Nat} (hN : N < 2 ^ 64) : lN N - (((lN N).toUInt64 >>> ((1 : Int32).toInt64.toUInt64 &&& Int64.toUInt64 63)).toInt64 &&& (6148914691236517205 : Int64)) = lN (S1 8 N) := by
  have a1 : N / 2 &&& 6148914691236517205 ≤ N / 2 := Nat.and_le_left
  rw [show (1 : Int32) = nI 1 from rfl, wb_shr hN (by decide), Nat.pow_one, show (6148914691236517205 : Int64) = lN 6148914691236517205 from rfl, wb_and (by omega) (by decide), lN_sub (by omega)]
  unfold S1
  rw [mk_m.1]
theorem bc2 {V : Nat} (h1 : V < 2 ^ 64) : (lN V &&& (3689348814741910323 : Int64)) + (((lN V).toUInt64 >>> ((2 : Int32).toInt64.toUInt64 &&& Int64.toUInt64 63)).toInt64 &&& (3689348814741910323 : Int64)) = lN ((V &&& 3689348814741910323) + (V / 4 &&& 3689348814741910323)) := by
  rw [show (2 : Int32) = nI 2 from rfl, wb_shr h1 (by decide), show (3689348814741910323 : Int64) = lN 3689348814741910323 from rfl, wb_and h1 (by decide), wb_and (by omega) (by decide), lN_add]
theorem bc3 {V : Nat} (h1 : V < 2 ^ 63) : (lN V + ((lN V).toUInt64 >>> ((4 : Int32).toInt64.toUInt64 &&& Int64.toUInt64 63)).toInt64) &&& (1085102592571150095 : Int64) = lN ((V + V / 16) &&& 1085102592571150095) := by
  rw [show (4 : Int32) = nI 4 from rfl, wb_shr (by omega) (by decide), show (1085102592571150095 : Int64) = lN 1085102592571150095 from rfl, lN_add, wb_and (by omega) (by decide)]
theorem l_bitCount (n : Nat) {N : Nat} (hN : N < 2 ^ 64) : f_J13_bitCount_95d88 n (lN N) = some (nI (fb_ct (fun i => N.testBit i) 64)) := by
  have h1 : S1 8 N < 2 ^ 64 := Nat.lt_of_le_of_lt (S1_le N) hN
  have e2 : (S1 8 N &&& 3689348814741910323) + (S1 8 N / 4 &&& 3689348814741910323) = S2 8 N := by unfold S2; rw [mk_m.2.1]
  have e3 : (S2 8 N + S2 8 N / 16) &&& 1085102592571150095 = S3 8 N := by unfold S3; rw [mk_m.2.2]
  have hh := hor (pcB_le N) (pcB_le (N / 256)) (pcB_le (N / 256 / 256)) (pcB_le (N / 256 / 256 / 256)) (pcB_le (N / 256 / 256 / 256 / 256)) (pcB_le (N / 256 / 256 / 256 / 256 / 256)) (pcB_le (N / 256 / 256 / 256 / 256 / 256 / 256)) (pcB_le (N / 256 / 256 / 256 / 256 / 256 / 256 / 256)) (S3_8 N)
  obtain ⟨w1, w2, w3⟩ := S3_w1 (S3_lt N)
  unfold f_J13_bitCount_95d88
  rw [bc1 hN, q_nm, bc2 h1, e2, q_nm, bc3 (S2_lt N), e3, q_nm, ct_64]
  have hf : ∀ v : Nat, v &&& 127 = v % 128 := fun v => Nat.and_two_pow_sub_one_eq_mod v 7
  rw [show (8 : Int32) = nI 8 from rfl, wb_shr w1 (by decide), lN_add, q_nm, show (16 : Int32) = nI 16 from rfl, wb_shr w2 (by decide), lN_add, q_nm, show (32 : Int32) = nI 32 from rfl, wb_shr w3 (by decide), lN_add, q_nm, lN_i]
  rw [show (127 : Int32) = nI 127 from rfl, nx_and, hf, hh]
