/-! ===== ints as whole numbers ===== -/
def iI (z : Int) : Int32 := Int32.ofInt z
theorem i_add (a b : Int) : iI a + iI b = iI (a + b) := (Int32.ofInt_add a b).symm
theorem i_sub (a b : Int) : iI a - iI b = iI (a - b) := (Int32.ofInt_sub a b).symm
theorem i_mul (a b : Int) : iI a * iI b = iI (a * b) := (Int32.ofInt_mul a b).symm
theorem i_neg (a : Int) : -iI a = iI (-a) := (Int32.ofInt_neg a).symm
theorem i_N (n : Nat) : iI (n : Int) = nI n := Int32.ofInt_eq_ofNat
theorem i_lit (n : Nat) : (OfNat.ofNat n : Int32) = iI (OfNat.ofNat n : Int) := (i_N n).symm
theorem i_T {a : Int} (h1 : -2147483648 ≤ a) (h2 : a < 2147483648) : (iI a).toInt = a := fb_ofI h1 h2
theorem i_lt {a b : Int} (h1 : -2147483648 ≤ a) (h2 : a < 2147483648) (h3 : -2147483648 ≤ b) (h4 : b < 2147483648) : (iI a < iI b) = (a < b) := by
  rw [Int32.lt_iff_toInt_lt, i_T h1 h2, i_T h3 h4]
theorem i_le {a b : Int} (h1 : -2147483648 ≤ a) (h2 : a < 2147483648) (h3 : -2147483648 ≤ b) (h4 : b < 2147483648) : (iI a ≤ iI b) = (a ≤ b) := by
  rw [Int32.le_iff_toInt_le, i_T h1 h2, i_T h3 h4]
theorem i_eq {a b : Int} (h1 : -2147483648 ≤ a) (h2 : a < 2147483648) (h3 : -2147483648 ≤ b) (h4 : b < 2147483648) : (iI a = iI b) = (a = b) := by
  rw [← Int32.toInt_inj, i_T h1 h2, i_T h3 h4]
theorem i_nat {a : Int} (h : 0 ≤ a) : iI a = nI a.toNat := by
  obtain ⟨n, rfl⟩ := Int.eq_ofNat_of_zero_le h
  exact i_N n
theorem i_div {a b : Int} (h1 : 0 ≤ a) (h2 : a < 2147483648) (h3 : 0 < b) (h4 : b < 2147483648) : iI a / iI b = iI (a / b) := by
  obtain ⟨n, rfl⟩ := Int.eq_ofNat_of_zero_le h1
  obtain ⟨k, rfl⟩ := Int.eq_ofNat_of_zero_le (Int.le_of_lt h3)
  rw [i_N, i_N, pk_div (by omega) (by omega) (by omega)]
  exact (i_N (n / k)).symm
theorem i_rem {a b : Int} (h1 : 0 ≤ a) (h2 : a < 2147483648) (h3 : 0 < b) (h4 : b < 2147483648) : iI a - iI a / iI b * iI b = iI (a % b) := by
  rw [i_div h1 h2 h3 h4, i_mul, i_sub]
  congr 1
  have := Int.emod_add_mul_ediv a b
  rw [Int.mul_comm]
  omega
theorem i_cl {a : Int} (h1 : 0 ≤ a) (h2 : a < 2147483648) : (iI a).toNatClampNeg = a.toNat := by
  rw [i_nat h1, nI_clamp (by omega)]
theorem i_gd {α : Type} {a : Int} {n : Nat} {x : Option α} (h1 : 0 ≤ a) (h2 : a < n) (h3 : n < 2147483648) : qgd (qin (iI a) n) x = x := by
  rw [i_nat h1]
  exact qgd_t (qin_nI (by omega) (by omega))
theorem q_some {α β : Type} (a : α) (f : α → Option β) : qbd (some a) f = f a := rfl
theorem q_some2 {α β γ : Type} (a : α) (b : β) (f : α → β → Option γ) : qbd2 (some (a, b)) f = f a b := rfl
theorem q_nm {α β : Type} (v : α) (f : α → β) : qnm v f = f v := rfl
theorem q_ite {α β : Type} (c : Prop) [Decidable c] (x y : α) (f : α → Option β) : qbd (if c then some x else some y) f = f (if c then x else y) := by
  split <;> rfl
theorem q_ites {α : Type} (c : Prop) [Decidable c] (x y : α) : (if c then some x else some y) = some (if c then x else y) := by
  split <;> rfl
theorem i_ite (c : Prop) [Decidable c] (x y : Int) : (if c then iI x else iI y) = iI (if c then x else y) := by
  split <;> rfl
theorem q_z0 : qz (0 : Int32) = true := rfl
theorem q_z1 : qz (1 : Int32) = true := rfl
theorem q_gdt {α : Type} (x : Option α) : qgd true x = x := rfl
theorem q_x0 {β : Type} (d : β) (f : Option (Nat × β)) : qxb (some 0) d f = f := rfl
theorem q_xs {β : Type} (k : Nat) (d : β) (f : Option (Nat × β)) : qxb (some (k + 1)) d f = some (k + 1, d) := rfl
/-! the calendar -/
def dmZ (y m : Int) : Int := if m = 2 then (if y % 4 = 0 then 29 else 28) else if m = 4 then 30 else if m = 6 then 30 else if m = 9 then 30 else if m = 11 then 30 else 31
def dyZ (y : Int) : Int := if y % 4 = 0 then 366 else 365
def ysZ (y : Int) : Int := 365 * (y - 2000) + (y - 2000 + 3) / 4
def dbZ (y m : Int) : Int := if 2 < m then (367 * m - 362) / 12 - (if y % 4 = 0 then 1 else 2) else (367 * m - 362) / 12
def numZ (y m d : Int) : Int := ysZ y + dbZ y m + d - 1
theorem ysZ_s (y : Int) : ysZ (y + 1) = ysZ y + dyZ y := by unfold ysZ dyZ; split <;> omega
theorem dm_in (y m : Int) : 28 ≤ dmZ y m ∧ dmZ y m ≤ 31 := by
  unfold dmZ
  repeat' split
  all_goals omega
theorem m_12 {m : Int} (h1 : 1 ≤ m) (h2 : m ≤ 12) : m = 1 ∨ m = 2 ∨ m = 3 ∨ m = 4 ∨ m = 5 ∨ m = 6 ∨ m = 7 ∨ m = 8 ∨ m = 9 ∨ m = 10 ∨ m = 11 ∨ m = 12 := by omega
theorem dbZ_s (y : Int) {m : Int} (h1 : 1 ≤ m) (h2 : m ≤ 12) : dbZ y (m + 1) = dbZ y m + dmZ y m := by
  unfold dbZ dmZ
  rcases m_12 h1 h2 with h | h | h | h | h | h | h | h | h | h | h | h <;> subst h <;> (by_cases hy : y % 4 = 0 <;> simp [hy])
theorem dbZ_1 (y : Int) : dbZ y 1 = 0 := by unfold dbZ; rw [if_neg (by omega)]; omega
theorem dbZ_13 (y : Int) : dbZ y 13 = dyZ y := by unfold dbZ dyZ; rw [if_pos (by omega)]; split <;> omega
theorem c_daysIn (n : Nat) {y m : Int} (h1 : 0 ≤ y) (h2 : y < 1000000) (h3 : 0 ≤ m) (h4 : m < 1000) : f_X1_daysIn n (iI y) (iI m) = some (iI (dmZ y m)) := by
  unfold f_X1_daysIn dmZ
  simp (disch := omega) only [i_lit, i_rem, i_eq, q_ite, q_ites, i_ite, q_some]
