/-! ===== Long.bitCount counts the bits ===== -/
theorem and_256 {a b c e : Nat} (hb : b < 256) (he : e < 256) : (256 * a + b) &&& (256 * c + e) = 256 * (a &&& c) + (b &&& e) := by
  have h1 : ((256 * a + b) &&& (256 * c + e)) / 2 ^ 8 = (256 * a + b) / 2 ^ 8 &&& (256 * c + e) / 2 ^ 8 := Nat.and_div_two_pow
  have h2 : ((256 * a + b) &&& (256 * c + e)) % 2 ^ 8 = (256 * a + b) % 2 ^ 8 &&& (256 * c + e) % 2 ^ 8 := Nat.and_mod_two_pow
  rw [show (256 * a + b) / 2 ^ 8 = a by omega, show (256 * c + e) / 2 ^ 8 = c by omega] at h1
  rw [show (256 * a + b) % 2 ^ 8 = b by omega, show (256 * c + e) % 2 ^ 8 = e by omega] at h2
  omega
def mkB (c : Nat) : Nat → Nat
  | 0 => 0
  | k + 1 => 256 * mkB c k + c
def S1 (k N : Nat) : Nat := N - (N / 2 &&& mkB 85 k)
def S2 (k N : Nat) : Nat := (S1 k N &&& mkB 51 k) + (S1 k N / 4 &&& mkB 51 k)
def S3 (k N : Nat) : Nat := (S2 k N + S2 k N / 16) &&& mkB 15 k
def s1B (b : Nat) : Nat := b - (b / 2 &&& 85)
def s2B (b : Nat) : Nat := (s1B b &&& 51) + (s1B b / 4 &&& 51)
theorem s1_a : ∀ b, b < 256 → (b / 2 &&& 85 = (b / 2 + 128) &&& 85) ∧ b / 2 &&& 85 ≤ b := by decide +kernel
theorem s2_a : ∀ c, c < 256 → ∀ q, q < 4 → (c / 4 &&& 51 = (c / 4 + 64 * q) &&& 51) := by decide +kernel
theorem s2_b : ∀ b, b < 256 → s2B b % 16 ≤ 4 ∧ s2B b ≤ 68 ∧ (s2B b + s2B b / 16) % 16 = fb_ct (fun i => b.testBit i) 8 := by decide +kernel
theorem S1_s {k M b : Nat} (hb : b < 256) : S1 (k + 1) (256 * M + b) = 256 * S1 k M + s1B b := by
  have h := s1_a b hb
  unfold S1 s1B
  rw [mkB]
  have e : (256 * M + b) / 2 = 256 * (M / 2) + (128 * (M % 2) + b / 2) := by omega
  have hm : M / 2 &&& mkB 85 k ≤ M / 2 := Nat.and_le_left
  rw [e, and_256 (by omega) (by decide)]
  rcases (show M % 2 = 0 ∨ M % 2 = 1 by omega) with q | q
  · rw [q, show 128 * 0 + b / 2 = b / 2 by omega]
    omega
  · rw [q, show 128 * 1 + b / 2 = b / 2 + 128 by omega, ← h.1]
    omega
theorem s1B_lt {b : Nat} (hb : b < 256) : s1B b < 256 := by unfold s1B; omega
theorem S2_s {k M b : Nat} (hb : b < 256) : S2 (k + 1) (256 * M + b) = 256 * S2 k M + s2B b := by
  have hc := s1B_lt hb
  unfold S2
  rw [S1_s hb, mkB, and_256 hc (by decide), show (256 * S1 k M + s1B b) / 4 = 256 * (S1 k M / 4) + (s1B b / 4 + 64 * (S1 k M % 4)) by omega, and_256 (by omega) (by decide), ← s2_a (s1B b) hc (S1 k M % 4) (by omega)]
  unfold s2B
  omega
theorem S2_m (k N : Nat) : S2 k N % 16 ≤ 4 := by
  cases k with
  | zero => unfold S2; rw [mkB, Nat.and_zero, Nat.and_zero]; decide
  | succ k =>
    rw [show N = 256 * (N / 256) + N % 256 by omega, S2_s (by omega)]
    have := (s2_b (N % 256) (by omega)).1
    omega
theorem S3_s (k N : Nat) : S3 (k + 1) N = 256 * S3 k (N / 256) + fb_ct (fun i => (N % 256).testBit i) 8 := by
  have hb : N % 256 < 256 := by omega
  obtain ⟨h1, h2, h3⟩ := s2_b (N % 256) hb
  have hV := S2_m k (N / 256)
  have e : S2 (k + 1) N = 256 * S2 k (N / 256) + s2B (N % 256) := by
    have := S2_s (k := k) (M := N / 256) hb
    rw [show 256 * (N / 256) + N % 256 = N by omega] at this
    exact this
  unfold S3
  rw [e, mkB, show 256 * S2 k (N / 256) + s2B (N % 256) + (256 * S2 k (N / 256) + s2B (N % 256)) / 16 = 256 * (S2 k (N / 256) + S2 k (N / 256) / 16) + (s2B (N % 256) + s2B (N % 256) / 16 + 16 * (S2 k (N / 256) % 16)) by omega, and_256 (by omega) (by decide)]
  have e2 : (s2B (N % 256) + s2B (N % 256) / 16 + 16 * (S2 k (N / 256) % 16)) &&& 15 = (s2B (N % 256) + s2B (N % 256) / 16 + 16 * (S2 k (N / 256) % 16)) % 16 := Nat.and_two_pow_sub_one_eq_mod _ 4
  rw [e2]
  omega
def pcB (N : Nat) : Nat := fb_ct (fun i => (N % 256).testBit i) 8
theorem pcB_le (N : Nat) : pcB N ≤ 8 := fb_ct_le _ _
theorem ct_s (N k : Nat) : fb_ct (fun i => N.testBit i) (8 + 8 * k) = pcB N + fb_ct (fun i => (N / 256).testBit i) (8 * k) := by
  rw [fb_ct_split]
  have e1 : fb_ct (fun i => N.testBit i) 8 = pcB N := fb_ct_cong fun i hi => by
    show N.testBit i = (N % 2 ^ 8).testBit i
    rw [Nat.testBit_mod_two_pow, decide_eq_true hi, Bool.true_and]
  have e2 : (fun i => N.testBit (8 + i)) = fun i => (N / 256).testBit i := by
    funext i
    show _ = (N / 2 ^ 8).testBit i
    rw [Nat.testBit_div_two_pow]
    congr 1
    omega
  rw [e1, e2]
theorem ct_64 (N : Nat) : fb_ct (fun i => N.testBit i) 64 = pcB N + (pcB (N / 256) + (pcB (N / 256 / 256) + (pcB (N / 256 / 256 / 256) + (pcB (N / 256 / 256 / 256 / 256) + (pcB (N / 256 / 256 / 256 / 256 / 256) + (pcB (N / 256 / 256 / 256 / 256 / 256 / 256) + pcB (N / 256 / 256 / 256 / 256 / 256 / 256 / 256))))))) := by
  rw [ct_s N 7, ct_s _ 6, ct_s _ 5, ct_s _ 4, ct_s _ 3, ct_s _ 2, ct_s _ 1, ct_s _ 0]
  rfl
theorem S3_8 (N : Nat) : S3 8 N = 256 * (256 * (256 * (256 * (256 * (256 * (256 * pcB (N / 256 / 256 / 256 / 256 / 256 / 256 / 256) + pcB (N / 256 / 256 / 256 / 256 / 256 / 256)) + pcB (N / 256 / 256 / 256 / 256 / 256)) + pcB (N / 256 / 256 / 256 / 256)) + pcB (N / 256 / 256 / 256)) + pcB (N / 256 / 256)) + pcB (N / 256)) + pcB N := by
  rw [S3_s 7, S3_s 6, S3_s 5, S3_s 4, S3_s 3, S3_s 2, S3_s 1, S3_s 0, show S3 0 (N / 256 / 256 / 256 / 256 / 256 / 256 / 256 / 256) = 0 by unfold S3; rw [mkB, Nat.and_zero], Nat.mul_zero, Nat.zero_add]
  rfl
theorem mk_m : mkB 85 8 = 6148914691236517205 ∧ mkB 51 8 = 3689348814741910323 ∧ mkB 15 8 = 1085102592571150095 := by decide +kernel
theorem L8 {R q : Nat} (h : q < 256) : (256 * R + q) / 2 ^ 8 = R := by omega
theorem L16 {T s1 s0 : Nat} (h0 : s0 < 256) (h1 : s1 < 256) : (65536 * T + 256 * s1 + s0) / 2 ^ 16 = T := by omega
theorem L32 {U u3 u2 u1 u0 : Nat} (h0 : u0 < 256) (h1 : u1 < 256) (h2 : u2 < 256) (h3 : u3 < 256) : (4294967296 * U + 16777216 * u3 + 65536 * u2 + 256 * u1 + u0) / 2 ^ 32 = U := by omega
theorem L128 {W x : Nat} (h : x < 128) : (256 * W + x) % 128 = x := by omega
theorem hor {q0 q1 q2 q3 q4 q5 q6 q7 S : Nat} (p0 : q0 ≤ 8) (p1 : q1 ≤ 8) (p2 : q2 ≤ 8) (p3 : q3 ≤ 8) (p4 : q4 ≤ 8) (p5 : q5 ≤ 8) (p6 : q6 ≤ 8) (p7 : q7 ≤ 8) (hS : S = 256 * (256 * (256 * (256 * (256 * (256 * (256 * q7 + q6) + q5) + q4) + q3) + q2) + q1) + q0) : (S + S / 2 ^ 8 + (S + S / 2 ^ 8) / 2 ^ 16 + (S + S / 2 ^ 8 + (S + S / 2 ^ 8) / 2 ^ 16) / 2 ^ 32) % 128 = q0 + (q1 + (q2 + (q3 + (q4 + (q5 + (q6 + q7)))))) := by
  have b1 : q0 < 256 := by omega
  have b2 : q0 + q1 < 256 := by omega
  have b3 : q1 + q2 < 256 := by omega
  have b4 : q0 + q1 + (q2 + q3) < 256 := by omega
  have b5 : q1 + q2 + (q3 + q4) < 256 := by omega
  have b6 : q2 + q3 + (q4 + q5) < 256 := by omega
  have b7 : q3 + q4 + (q5 + q6) < 256 := by omega
  have b8 : q0 + (q1 + (q2 + (q3 + (q4 + (q5 + (q6 + q7)))))) < 128 := by omega
  clear p0 p1 p2 p3 p4 p5 p6 p7
  obtain ⟨R6, e6⟩ : ∃ R6, R6 = 256 * q7 + q6 := ⟨_, rfl⟩
  rw [← e6] at hS
  obtain ⟨R5, e5⟩ : ∃ R5, R5 = 256 * R6 + q5 := ⟨_, rfl⟩
  rw [← e5] at hS
  obtain ⟨R4, e4⟩ : ∃ R4, R4 = 256 * R5 + q4 := ⟨_, rfl⟩
  rw [← e4] at hS
  obtain ⟨R3, e3⟩ : ∃ R3, R3 = 256 * R4 + q3 := ⟨_, rfl⟩
  rw [← e3] at hS
  obtain ⟨R2, e2⟩ : ∃ R2, R2 = 256 * R3 + q2 := ⟨_, rfl⟩
  rw [← e2] at hS
  obtain ⟨R1, e1⟩ : ∃ R1, R1 = 256 * R2 + q1 := ⟨_, rfl⟩
  rw [← e1] at hS
  have d3 : S / 2 ^ 8 = R1 := by rw [hS]; exact L8 b1
  have v4 : S + R1 = 65536 * (R2 + R3) + 256 * (q1 + q2) + (q0 + q1) := by clear b1 b2 b3 b4 b5 b6 b7 b8 d3 e3 e4 e5 e6; omega
  have d4 : (S + R1) / 2 ^ 16 = R2 + R3 := by rw [v4]; exact L16 b2 b3
  have v5 : S + R1 + (R2 + R3) = 4294967296 * (R4 + R5 + (R6 + q7)) + 16777216 * (q3 + q4 + (q5 + q6)) + 65536 * (q2 + q3 + (q4 + q5)) + 256 * (q1 + q2 + (q3 + q4)) + (q0 + q1 + (q2 + q3)) := by clear b1 b2 b3 b4 b5 b6 b7 b8 d3 d4 v4; omega
  have d5 : (S + R1 + (R2 + R3)) / 2 ^ 32 = R4 + R5 + (R6 + q7) := by rw [v5]; exact L32 b4 b5 b6 b7
  have v6 : S + R1 + (R2 + R3) + (R4 + R5 + (R6 + q7)) = 256 * (R1 + R2 + (R3 + R4) + (R5 + R6 + q7)) + (q0 + (q1 + (q2 + (q3 + (q4 + (q5 + (q6 + q7))))))) := by clear b1 b2 b3 b4 b5 b6 b7 b8 d3 d4 v4 d5 v5; omega
  rw [d3, d4, d5, v6]
  exact L128 b8
