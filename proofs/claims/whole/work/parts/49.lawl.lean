/-! ===== what is owed of each call: the two sides answer alike and stay alike ===== -/
def SP_dayNumber (Rel : SX → (Nat → Nat) → Nat → SX → Prop) : Prop := ∀ (x : SX) (t : Nat → Nat) (k : Nat) (xm : SX) (a1 : Int32) (a2 : Int32) (a3 : Int32), Rel x t k xm → ∃ (n : Nat) (k0 : Nat) (rv c0 : Int32) (n2 : Nat) (bv : Int32) (xm' : SX), f_X6_dayNumber n x a1 a2 a3 = some (k0, rv) ∧ ((k0 = 0 ∧ c0 = 0) ∨ (k0 = 1 ∧ c0 = 1)) ∧ f_X7_dayNumber n2 xm a1 a2 a3 = some (bv, xm') ∧ xm'.1 0 0 = c0 ∧ (c0 = 0 → rv = bv) ∧ Rel x t k xm'
def SP_dayNumberByMonths (Rel : SX → (Nat → Nat) → Nat → SX → Prop) : Prop := ∀ (x : SX) (t : Nat → Nat) (k : Nat) (xm : SX) (a1 : Int32) (a2 : Int32) (a3 : Int32), Rel x t k xm → ∃ (n : Nat) (k0 : Nat) (rv c0 : Int32) (n2 : Nat) (bv : Int32) (xm' : SX), f_X6_dayNumberByMonths n x a1 a2 a3 = some (k0, rv) ∧ ((k0 = 0 ∧ c0 = 0) ∨ (k0 = 1 ∧ c0 = 1)) ∧ f_X7_dayNumberByMonths n2 xm a1 a2 a3 = some (bv, xm') ∧ xm'.1 0 0 = c0 ∧ (c0 = 0 → rv = bv) ∧ Rel x t k xm'
def SP_yearOf (Rel : SX → (Nat → Nat) → Nat → SX → Prop) : Prop := ∀ (x : SX) (t : Nat → Nat) (k : Nat) (xm : SX) (a1 : Int32), Rel x t k xm → ∃ (n : Nat) (k0 : Nat) (rv c0 : Int32) (n2 : Nat) (bv : Int32) (xm' : SX), f_X6_yearOf n x a1 = some (k0, rv) ∧ ((k0 = 0 ∧ c0 = 0) ∨ (k0 = 1 ∧ c0 = 1)) ∧ f_X7_yearOf n2 xm a1 = some (bv, xm') ∧ xm'.1 0 0 = c0 ∧ (c0 = 0 → rv = bv) ∧ Rel x t k xm'
def SP_monthOf (Rel : SX → (Nat → Nat) → Nat → SX → Prop) : Prop := ∀ (x : SX) (t : Nat → Nat) (k : Nat) (xm : SX) (a1 : Int32), Rel x t k xm → ∃ (n : Nat) (k0 : Nat) (rv c0 : Int32) (n2 : Nat) (bv : Int32) (xm' : SX), f_X6_monthOf n x a1 = some (k0, rv) ∧ ((k0 = 0 ∧ c0 = 0) ∨ (k0 = 1 ∧ c0 = 1)) ∧ f_X7_monthOf n2 xm a1 = some (bv, xm') ∧ xm'.1 0 0 = c0 ∧ (c0 = 0 → rv = bv) ∧ Rel x t k xm'
def SP_dayOfMonth (Rel : SX → (Nat → Nat) → Nat → SX → Prop) : Prop := ∀ (x : SX) (t : Nat → Nat) (k : Nat) (xm : SX) (a1 : Int32), Rel x t k xm → ∃ (n : Nat) (k0 : Nat) (rv c0 : Int32) (n2 : Nat) (bv : Int32) (xm' : SX), f_X6_dayOfMonth n x a1 = some (k0, rv) ∧ ((k0 = 0 ∧ c0 = 0) ∨ (k0 = 1 ∧ c0 = 1)) ∧ f_X7_dayOfMonth n2 xm a1 = some (bv, xm') ∧ xm'.1 0 0 = c0 ∧ (c0 = 0 → rv = bv) ∧ Rel x t k xm'
def SP_monthsAfter (Rel : SX → (Nat → Nat) → Nat → SX → Prop) : Prop := ∀ (x : SX) (t : Nat → Nat) (k : Nat) (xm : SX) (a1 : Int32) (a2 : Int32), Rel x t k xm → ∃ (n : Nat) (k0 : Nat) (rv c0 : Int32) (n2 : Nat) (bv : Int32) (xm' : SX), f_X6_monthsAfter n x a1 a2 = some (k0, rv) ∧ ((k0 = 0 ∧ c0 = 0) ∨ (k0 = 1 ∧ c0 = 1)) ∧ f_X7_monthsAfter n2 xm a1 a2 = some (bv, xm') ∧ xm'.1 0 0 = c0 ∧ (c0 = 0 → rv = bv) ∧ Rel x t k xm'
def SP_today (Rel : SX → (Nat → Nat) → Nat → SX → Prop) : Prop := ∀ (x : SX) (t : Nat → Nat) (k : Nat) (xm : SX), Rel x t k xm → ∃ (n : Nat) (rv : Int32) (n2 : Nat) (bv : Int32) (xm' : SX), f_X6_today n x = some rv ∧ f_X7_today n2 xm = some (bv, xm') ∧ rv = bv ∧ Rel x t k xm'
def SP_advance (Rel : SX → (Nat → Nat) → Nat → SX → Prop) : Prop := ∀ (x : SX) (t : Nat → Nat) (k : Nat) (xm : SX) (a1 : Int32), Rel x t k xm → ∃ (n : Nat) (xr : SX) (k0 : Nat) (rv c0 : Int32) (n2 : Nat) (bv : Int32) (xm' : SX), f_X6_advance n x a1 = some (k0, rv, xr) ∧ ((k0 = 0 ∧ c0 = 0) ∨ (k0 = 1 ∧ c0 = 1) ∨ (k0 = 2 ∧ c0 = 2)) ∧ f_X7_advance n2 xm a1 = some (bv, xm') ∧ xm'.1 0 0 = c0 ∧ (c0 = 0 → rv = bv) ∧ Rel xr t k xm'
def SP_impose (Rel : SX → (Nat → Nat) → Nat → SX → Prop) : Prop := ∀ (x : SX) (t : Nat → Nat) (k : Nat) (xm : SX) (a1 : Int32) (a2 : Int32) (a3 : Int32), Rel x t k xm → ∃ (n : Nat) (xr : SX) (k0 : Nat) (rv c0 : Int32) (n2 : Nat) (bv : Int32) (xm' : SX), f_X6_impose n x a1 a2 a3 = some (k0, rv, xr) ∧ ((k0 = 0 ∧ c0 = 0) ∨ (k0 = 1 ∧ c0 = 1) ∨ (k0 = 2 ∧ c0 = 2)) ∧ f_X7_impose n2 xm a1 a2 a3 = some (bv, xm') ∧ xm'.1 0 0 = c0 ∧ (c0 = 0 → rv = bv) ∧ Rel xr t k xm'
def SP_imposeConsecutive (Rel : SX → (Nat → Nat) → Nat → SX → Prop) : Prop := ∀ (x : SX) (t : Nat → Nat) (k : Nat) (xm : SX) (a1 : Int32) (a2 : Int32) (a3 : Int32) (a4 : Int32), Rel x t k xm → ∃ (n : Nat) (xr : SX) (k0 : Nat) (rv c0 : Int32) (n2 : Nat) (bv : Int32) (xm' : SX), f_X6_imposeConsecutive n x a1 a2 a3 a4 = some (k0, rv, xr) ∧ ((k0 = 0 ∧ c0 = 0) ∨ (k0 = 3 ∧ c0 = 1) ∨ (k0 = 1 ∧ c0 = 2) ∨ (k0 = 2 ∧ c0 = 3)) ∧ f_X7_imposeConsecutive n2 xm a1 a2 a3 a4 = some (bv, xm') ∧ xm'.1 0 0 = c0 ∧ (c0 = 0 → rv = bv) ∧ Rel xr t k xm'
def SP_addRemand (Rel : SX → (Nat → Nat) → Nat → SX → Prop) : Prop := ∀ (x : SX) (t : Nat → Nat) (k : Nat) (xm : SX) (a1 : Int32) (a2 : Int32) (a3 : Int32), Rel x t k xm → ∃ (n : Nat) (xr : SX) (k0 : Nat) (rv c0 : Int32) (n2 : Nat) (bv : Int32) (xm' : SX), f_X6_addRemand n x a1 a2 a3 = some (k0, rv, xr) ∧ ((k0 = 0 ∧ c0 = 0) ∨ (k0 = 3 ∧ c0 = 1) ∨ (k0 = 1 ∧ c0 = 2) ∨ (k0 = 2 ∧ c0 = 3)) ∧ f_X7_addRemand n2 xm a1 a2 a3 = some (bv, xm') ∧ xm'.1 0 0 = c0 ∧ (c0 = 0 → rv = bv) ∧ Rel xr t k xm'
def SP_quash (Rel : SX → (Nat → Nat) → Nat → SX → Prop) : Prop := ∀ (x : SX) (t : Nat → Nat) (k : Nat) (xm : SX) (a1 : Int32), Rel x t k xm → ∃ (n : Nat) (xr : SX) (k0 : Nat) (rv c0 : Int32) (n2 : Nat) (bv : Int32) (xm' : SX), f_X6_quash n x a1 = some (k0, rv, xr) ∧ ((k0 = 0 ∧ c0 = 0) ∨ (k0 = 3 ∧ c0 = 1) ∨ (k0 = 2 ∧ c0 = 2)) ∧ f_X7_quash n2 xm a1 = some (bv, xm') ∧ xm'.1 0 0 = c0 ∧ (c0 = 0 → rv = bv) ∧ Rel xr t k xm'
def SP_award (Rel : SX → (Nat → Nat) → Nat → SX → Prop) : Prop := ∀ (x : SX) (t : Nat → Nat) (k : Nat) (xm : SX) (a1 : Int32), Rel x t k xm → ∃ (n : Nat) (xr : SX) (k0 : Nat) (rv c0 : Int32) (n2 : Nat) (bv : Int32) (xm' : SX), f_X6_award n x a1 = some (k0, rv, xr) ∧ ((k0 = 0 ∧ c0 = 0) ∨ (k0 = 1 ∧ c0 = 1) ∨ (k0 = 2 ∧ c0 = 2)) ∧ f_X7_award n2 xm a1 = some (bv, xm') ∧ xm'.1 0 0 = c0 ∧ (c0 = 0 → rv = bv) ∧ Rel xr t k xm'
def SP_giveBack (Rel : SX → (Nat → Nat) → Nat → SX → Prop) : Prop := ∀ (x : SX) (t : Nat → Nat) (k : Nat) (xm : SX) (a1 : Int32) (a2 : Int32), Rel x t k xm → ∃ (n : Nat) (xr : SX) (k0 : Nat) (rv c0 : Int32) (n2 : Nat) (bv : Int32) (xm' : SX), f_X6_giveBack n x a1 a2 = some (k0, rv, xr) ∧ ((k0 = 0 ∧ c0 = 0) ∨ (k0 = 3 ∧ c0 = 1) ∨ (k0 = 1 ∧ c0 = 2)) ∧ f_X7_giveBack n2 xm a1 a2 = some (bv, xm') ∧ xm'.1 0 0 = c0 ∧ (c0 = 0 → rv = bv) ∧ Rel xr t k xm'
def SP_recall (Rel : SX → (Nat → Nat) → Nat → SX → Prop) : Prop := ∀ (x : SX) (t : Nat → Nat) (k : Nat) (xm : SX) (a1 : Int32), Rel x t k xm → ∃ (n : Nat) (xr : SX) (k0 : Nat) (rv c0 : Int32) (n2 : Nat) (bv : Int32) (xm' : SX), f_X6_recall n x a1 = some (k0, rv, xr) ∧ ((k0 = 0 ∧ c0 = 0) ∨ (k0 = 1 ∧ c0 = 1) ∨ (k0 = 2 ∧ c0 = 2)) ∧ f_X7_recall n2 xm a1 = some (bv, xm') ∧ xm'.1 0 0 = c0 ∧ (c0 = 0 → rv = bv) ∧ Rel xr t k xm'
def SP_termCount (Rel : SX → (Nat → Nat) → Nat → SX → Prop) : Prop := ∀ (x : SX) (t : Nat → Nat) (k : Nat) (xm : SX), Rel x t k xm → ∃ (n : Nat) (rv : Int32) (n2 : Nat) (bv : Int32) (xm' : SX), f_X6_termCount n x = some rv ∧ f_X7_termCount n2 xm = some (bv, xm') ∧ rv = bv ∧ Rel x t k xm'
def SP_kindOf (Rel : SX → (Nat → Nat) → Nat → SX → Prop) : Prop := ∀ (x : SX) (t : Nat → Nat) (k : Nat) (xm : SX) (a1 : Int32), Rel x t k xm → ∃ (n : Nat) (k0 : Nat) (rv c0 : Int32) (n2 : Nat) (bv : Int32) (xm' : SX), f_X6_kindOf n x a1 = some (k0, rv) ∧ ((k0 = 0 ∧ c0 = 0) ∨ (k0 = 3 ∧ c0 = 1)) ∧ f_X7_kindOf n2 xm a1 = some (bv, xm') ∧ xm'.1 0 0 = c0 ∧ (c0 = 0 → rv = bv) ∧ Rel x t k xm'
def SP_isQuashed (Rel : SX → (Nat → Nat) → Nat → SX → Prop) : Prop := ∀ (x : SX) (t : Nat → Nat) (k : Nat) (xm : SX) (a1 : Int32), Rel x t k xm → ∃ (n : Nat) (k0 : Nat) (rv c0 : Int32) (n2 : Nat) (bv : Int32) (xm' : SX), f_X6_isQuashed n x a1 = some (k0, rv) ∧ (rv = 0 ∨ rv = 1) ∧ ((k0 = 0 ∧ c0 = 0) ∨ (k0 = 3 ∧ c0 = 1)) ∧ f_X7_isQuashed n2 xm a1 = some (bv, xm') ∧ xm'.1 0 0 = c0 ∧ (c0 = 0 → rv = bv) ∧ Rel x t k xm'
def SP_parentOf (Rel : SX → (Nat → Nat) → Nat → SX → Prop) : Prop := ∀ (x : SX) (t : Nat → Nat) (k : Nat) (xm : SX) (a1 : Int32), Rel x t k xm → ∃ (n : Nat) (k0 : Nat) (rv c0 : Int32) (n2 : Nat) (bv : Int32) (xm' : SX), f_X6_parentOf n x a1 = some (k0, rv) ∧ ((k0 = 0 ∧ c0 = 0) ∨ (k0 = 3 ∧ c0 = 1) ∨ (k0 = 2 ∧ c0 = 2) ∨ (k0 = 4 ∧ c0 = 3)) ∧ f_X7_parentOf n2 xm a1 = some (bv, xm') ∧ xm'.1 0 0 = c0 ∧ (c0 = 0 → rv = bv) ∧ Rel x t k xm'
def SP_chainLength (Rel : SX → (Nat → Nat) → Nat → SX → Prop) : Prop := ∀ (x : SX) (t : Nat → Nat) (k : Nat) (xm : SX) (a1 : Int32), Rel x t k xm → ∃ (n : Nat) (k0 : Nat) (rv c0 : Int32) (n2 : Nat) (bv : Int32) (xm' : SX), f_X6_chainLength n x a1 = some (k0, rv) ∧ ((k0 = 0 ∧ c0 = 0) ∨ (k0 = 3 ∧ c0 = 1) ∨ (k0 = 2 ∧ c0 = 2)) ∧ f_X7_chainLength n2 xm a1 = some (bv, xm') ∧ xm'.1 0 0 = c0 ∧ (c0 = 0 → rv = bv) ∧ Rel x t k xm'
def SP_descendants (Rel : SX → (Nat → Nat) → Nat → SX → Prop) : Prop := ∀ (x : SX) (t : Nat → Nat) (k : Nat) (xm : SX) (a1 : Int32), Rel x t k xm → ∃ (n : Nat) (k0 : Nat) (rv c0 : Int32) (n2 : Nat) (bv : Int32) (xm' : SX), f_X6_descendants n x a1 = some (k0, rv) ∧ ((k0 = 0 ∧ c0 = 0) ∨ (k0 = 3 ∧ c0 = 1) ∨ (k0 = 2 ∧ c0 = 2)) ∧ f_X7_descendants n2 xm a1 = some (bv, xm') ∧ xm'.1 0 0 = c0 ∧ (c0 = 0 → rv = bv) ∧ Rel x t k xm'
def SP_start (Rel : SX → (Nat → Nat) → Nat → SX → Prop) : Prop := ∀ (x : SX) (t : Nat → Nat) (k : Nat) (xm : SX) (a1 : Int32), Rel x t k xm → ∃ (n : Nat) (k0 : Nat) (rv c0 : Int32) (n2 : Nat) (bv : Int32) (xm' : SX), f_X6_start n x a1 = some (k0, rv) ∧ ((k0 = 0 ∧ c0 = 0) ∨ (k0 = 3 ∧ c0 = 1) ∨ (k0 = 2 ∧ c0 = 2)) ∧ f_X7_start n2 xm a1 = some (bv, xm') ∧ xm'.1 0 0 = c0 ∧ (c0 = 0 → rv = bv) ∧ Rel x t k xm'
def SP_length (Rel : SX → (Nat → Nat) → Nat → SX → Prop) : Prop := ∀ (x : SX) (t : Nat → Nat) (k : Nat) (xm : SX) (a1 : Int32), Rel x t k xm → ∃ (n : Nat) (k0 : Nat) (rv c0 : Int32) (n2 : Nat) (bv : Int32) (xm' : SX), f_X6_length n x a1 = some (k0, rv) ∧ ((k0 = 0 ∧ c0 = 0) ∨ (k0 = 3 ∧ c0 = 1) ∨ (k0 = 2 ∧ c0 = 2)) ∧ f_X7_length n2 xm a1 = some (bv, xm') ∧ xm'.1 0 0 = c0 ∧ (c0 = 0 → rv = bv) ∧ Rel x t k xm'
def SP_totalLength (Rel : SX → (Nat → Nat) → Nat → SX → Prop) : Prop := ∀ (x : SX) (t : Nat → Nat) (k : Nat) (xm : SX) (a1 : Int32), Rel x t k xm → ∃ (n : Nat) (k0 : Nat) (rv c0 : Int32) (n2 : Nat) (bv : Int32) (xm' : SX), f_X6_totalLength n x a1 = some (k0, rv) ∧ ((k0 = 0 ∧ c0 = 0) ∨ (k0 = 3 ∧ c0 = 1) ∨ (k0 = 2 ∧ c0 = 2)) ∧ f_X7_totalLength n2 xm a1 = some (bv, xm') ∧ xm'.1 0 0 = c0 ∧ (c0 = 0 → rv = bv) ∧ Rel x t k xm'
def SP_custodialPart (Rel : SX → (Nat → Nat) → Nat → SX → Prop) : Prop := ∀ (x : SX) (t : Nat → Nat) (k : Nat) (xm : SX) (a1 : Int32), Rel x t k xm → ∃ (n : Nat) (k0 : Nat) (rv c0 : Int32) (n2 : Nat) (bv : Int32) (xm' : SX), f_X6_custodialPart n x a1 = some (k0, rv) ∧ ((k0 = 0 ∧ c0 = 0) ∨ (k0 = 3 ∧ c0 = 1) ∨ (k0 = 2 ∧ c0 = 2)) ∧ f_X7_custodialPart n2 xm a1 = some (bv, xm') ∧ xm'.1 0 0 = c0 ∧ (c0 = 0 → rv = bv) ∧ Rel x t k xm'
def SP_credit (Rel : SX → (Nat → Nat) → Nat → SX → Prop) : Prop := ∀ (x : SX) (t : Nat → Nat) (k : Nat) (xm : SX) (a1 : Int32), Rel x t k xm → ∃ (n : Nat) (k0 : Nat) (rv c0 : Int32) (n2 : Nat) (bv : Int32) (xm' : SX), f_X6_credit n x a1 = some (k0, rv) ∧ ((k0 = 0 ∧ c0 = 0) ∨ (k0 = 3 ∧ c0 = 1) ∨ (k0 = 2 ∧ c0 = 2)) ∧ f_X7_credit n2 xm a1 = some (bv, xm') ∧ xm'.1 0 0 = c0 ∧ (c0 = 0 → rv = bv) ∧ Rel x t k xm'
def SP_creditByMerging (Rel : SX → (Nat → Nat) → Nat → SX → Prop) : Prop := ∀ (x : SX) (t : Nat → Nat) (k : Nat) (xm : SX) (a1 : Int32), Rel x t k xm → ∃ (n : Nat) (xr : SX) (k0 : Nat) (rv c0 : Int32) (n2 : Nat) (bv : Int32) (xm' : SX), f_X6_creditByMerging n x a1 = some (k0, rv, xr) ∧ ((k0 = 0 ∧ c0 = 0) ∨ (k0 = 3 ∧ c0 = 1) ∨ (k0 = 2 ∧ c0 = 2)) ∧ f_X7_creditByMerging n2 xm a1 = some (bv, xm') ∧ xm'.1 0 0 = c0 ∧ (c0 = 0 → rv = bv) ∧ Rel xr t k xm'
def SP_addedDays (Rel : SX → (Nat → Nat) → Nat → SX → Prop) : Prop := ∀ (x : SX) (t : Nat → Nat) (k : Nat) (xm : SX) (a1 : Int32), Rel x t k xm → ∃ (n : Nat) (k0 : Nat) (rv c0 : Int32) (n2 : Nat) (bv : Int32) (xm' : SX), f_X6_addedDays n x a1 = some (k0, rv) ∧ ((k0 = 0 ∧ c0 = 0) ∨ (k0 = 3 ∧ c0 = 1) ∨ (k0 = 2 ∧ c0 = 2)) ∧ f_X7_addedDays n2 xm a1 = some (bv, xm') ∧ xm'.1 0 0 = c0 ∧ (c0 = 0 → rv = bv) ∧ Rel x t k xm'
def SP_releaseDay (Rel : SX → (Nat → Nat) → Nat → SX → Prop) : Prop := ∀ (x : SX) (t : Nat → Nat) (k : Nat) (xm : SX) (a1 : Int32), Rel x t k xm → ∃ (n : Nat) (k0 : Nat) (rv c0 : Int32) (n2 : Nat) (bv : Int32) (xm' : SX), f_X6_releaseDay n x a1 = some (k0, rv) ∧ ((k0 = 0 ∧ c0 = 0) ∨ (k0 = 3 ∧ c0 = 1) ∨ (k0 = 2 ∧ c0 = 2)) ∧ f_X7_releaseDay n2 xm a1 = some (bv, xm') ∧ xm'.1 0 0 = c0 ∧ (c0 = 0 → rv = bv) ∧ Rel x t k xm'
def SP_releaseDayByServing (Rel : SX → (Nat → Nat) → Nat → SX → Prop) : Prop := ∀ (x : SX) (t : Nat → Nat) (k : Nat) (xm : SX) (a1 : Int32), Rel x t k xm → ∃ (n : Nat) (k0 : Nat) (rv c0 : Int32) (n2 : Nat) (bv : Int32) (xm' : SX), f_X6_releaseDayByServing n x a1 = some (k0, rv) ∧ ((k0 = 0 ∧ c0 = 0) ∨ (k0 = 3 ∧ c0 = 1) ∨ (k0 = 2 ∧ c0 = 2)) ∧ f_X7_releaseDayByServing n2 xm a1 = some (bv, xm') ∧ xm'.1 0 0 = c0 ∧ (c0 = 0 → rv = bv) ∧ Rel x t k xm'
def SP_endDay (Rel : SX → (Nat → Nat) → Nat → SX → Prop) : Prop := ∀ (x : SX) (t : Nat → Nat) (k : Nat) (xm : SX) (a1 : Int32), Rel x t k xm → ∃ (n : Nat) (k0 : Nat) (rv c0 : Int32) (n2 : Nat) (bv : Int32) (xm' : SX), f_X6_endDay n x a1 = some (k0, rv) ∧ ((k0 = 0 ∧ c0 = 0) ∨ (k0 = 3 ∧ c0 = 1) ∨ (k0 = 2 ∧ c0 = 2)) ∧ f_X7_endDay n2 xm a1 = some (bv, xm') ∧ xm'.1 0 0 = c0 ∧ (c0 = 0 → rv = bv) ∧ Rel x t k xm'
def SP_status (Rel : SX → (Nat → Nat) → Nat → SX → Prop) : Prop := ∀ (x : SX) (t : Nat → Nat) (k : Nat) (xm : SX), Rel x t k xm → ∃ (n : Nat) (rv : Int32) (n2 : Nat) (bv : Int32) (xm' : SX), f_X6_status n x = some rv ∧ f_X7_status n2 xm = some (bv, xm') ∧ rv = bv ∧ Rel x t k xm'
def SP_lastRelease (Rel : SX → (Nat → Nat) → Nat → SX → Prop) : Prop := ∀ (x : SX) (t : Nat → Nat) (k : Nat) (xm : SX), Rel x t k xm → ∃ (n : Nat) (k0 : Nat) (rv c0 : Int32) (n2 : Nat) (bv : Int32) (xm' : SX), f_X6_lastRelease n x = some (k0, rv) ∧ ((k0 = 0 ∧ c0 = 0) ∨ (k0 = 4 ∧ c0 = 1)) ∧ f_X7_lastRelease n2 xm = some (bv, xm') ∧ xm'.1 0 0 = c0 ∧ (c0 = 0 → rv = bv) ∧ Rel x t k xm'
def SP_lastEnd (Rel : SX → (Nat → Nat) → Nat → SX → Prop) : Prop := ∀ (x : SX) (t : Nat → Nat) (k : Nat) (xm : SX), Rel x t k xm → ∃ (n : Nat) (k0 : Nat) (rv c0 : Int32) (n2 : Nat) (bv : Int32) (xm' : SX), f_X6_lastEnd n x = some (k0, rv) ∧ ((k0 = 0 ∧ c0 = 0) ∨ (k0 = 4 ∧ c0 = 1)) ∧ f_X7_lastEnd n2 xm = some (bv, xm') ∧ xm'.1 0 0 = c0 ∧ (c0 = 0 → rv = bv) ∧ Rel x t k xm'
def SP_decidingTerm (Rel : SX → (Nat → Nat) → Nat → SX → Prop) : Prop := ∀ (x : SX) (t : Nat → Nat) (k : Nat) (xm : SX), Rel x t k xm → ∃ (n : Nat) (k0 : Nat) (rv c0 : Int32) (n2 : Nat) (bv : Int32) (xm' : SX), f_X6_decidingTerm n x = some (k0, rv) ∧ ((k0 = 0 ∧ c0 = 0) ∨ (k0 = 4 ∧ c0 = 1)) ∧ f_X7_decidingTerm n2 xm = some (bv, xm') ∧ xm'.1 0 0 = c0 ∧ (c0 = 0 → rv = bv) ∧ Rel x t k xm'
def SP_termByRelease (Rel : SX → (Nat → Nat) → Nat → SX → Prop) : Prop := ∀ (x : SX) (t : Nat → Nat) (k : Nat) (xm : SX) (a1 : Int32), Rel x t k xm → ∃ (n : Nat) (k0 : Nat) (rv c0 : Int32) (n2 : Nat) (bv : Int32) (xm' : SX), f_X6_termByRelease n x a1 = some (k0, rv) ∧ ((k0 = 0 ∧ c0 = 0) ∨ (k0 = 3 ∧ c0 = 1)) ∧ f_X7_termByRelease n2 xm a1 = some (bv, xm') ∧ xm'.1 0 0 = c0 ∧ (c0 = 0 → rv = bv) ∧ Rel x t k xm'
def SP_daysInCustodyLeft (Rel : SX → (Nat → Nat) → Nat → SX → Prop) : Prop := ∀ (x : SX) (t : Nat → Nat) (k : Nat) (xm : SX), Rel x t k xm → ∃ (n : Nat) (rv : Int32) (n2 : Nat) (bv : Int32) (xm' : SX), f_X6_daysInCustodyLeft n x = some rv ∧ f_X7_daysInCustodyLeft n2 xm = some (bv, xm') ∧ rv = bv ∧ Rel x t k xm'
def SP_recallCount (Rel : SX → (Nat → Nat) → Nat → SX → Prop) : Prop := ∀ (x : SX) (t : Nat → Nat) (k : Nat) (xm : SX), Rel x t k xm → ∃ (n : Nat) (rv : Int32) (n2 : Nat) (bv : Int32) (xm' : SX), f_X6_recallCount n x = some rv ∧ f_X7_recallCount n2 xm = some (bv, xm') ∧ rv = bv ∧ Rel x t k xm'
def SP_recallEnd (Rel : SX → (Nat → Nat) → Nat → SX → Prop) : Prop := ∀ (x : SX) (t : Nat → Nat) (k : Nat) (xm : SX), Rel x t k xm → ∃ (n : Nat) (k0 : Nat) (rv c0 : Int32) (n2 : Nat) (bv : Int32) (xm' : SX), f_X6_recallEnd n x = some (k0, rv) ∧ ((k0 = 0 ∧ c0 = 0) ∨ (k0 = 4 ∧ c0 = 1)) ∧ f_X7_recallEnd n2 xm = some (bv, xm') ∧ xm'.1 0 0 = c0 ∧ (c0 = 0 → rv = bv) ∧ Rel x t k xm'
def SP_awardDays (Rel : SX → (Nat → Nat) → Nat → SX → Prop) : Prop := ∀ (x : SX) (t : Nat → Nat) (k : Nat) (xm : SX) (a1 : Int32), Rel x t k xm → ∃ (n : Nat) (k0 : Nat) (rv c0 : Int32) (n2 : Nat) (bv : Int32) (xm' : SX), f_X6_awardDays n x a1 = some (k0, rv) ∧ ((k0 = 0 ∧ c0 = 0) ∨ (k0 = 3 ∧ c0 = 1)) ∧ f_X7_awardDays n2 xm a1 = some (bv, xm') ∧ xm'.1 0 0 = c0 ∧ (c0 = 0 → rv = bv) ∧ Rel x t k xm'
def SP_concerns (Rel : SX → (Nat → Nat) → Nat → SX → Prop) : Prop := ∀ (x : SX) (t : Nat → Nat) (k : Nat) (xm : SX) (a1 : Int32) (a2 : Int32), Rel x t k xm → ∃ (n : Nat) (k0 : Nat) (rv c0 : Int32) (n2 : Nat) (bv : Int32) (xm' : SX), f_X6_concerns n x a1 a2 = some (k0, rv) ∧ (rv = 0 ∨ rv = 1) ∧ ((k0 = 0 ∧ c0 = 0) ∨ (k0 = 3 ∧ c0 = 1)) ∧ f_X7_concerns n2 xm a1 a2 = some (bv, xm') ∧ xm'.1 0 0 = c0 ∧ (c0 = 0 → rv = bv) ∧ Rel x t k xm'
def SP_lastReleaseWithAward (Rel : SX → (Nat → Nat) → Nat → SX → Prop) : Prop := ∀ (x : SX) (t : Nat → Nat) (k : Nat) (xm : SX) (a1 : Int32), Rel x t k xm → ∃ (n : Nat) (k0 : Nat) (rv c0 : Int32) (n2 : Nat) (bv : Int32) (xm' : SX), f_X6_lastReleaseWithAward n x a1 = some (k0, rv) ∧ ((k0 = 0 ∧ c0 = 0) ∨ (k0 = 1 ∧ c0 = 1) ∨ (k0 = 2 ∧ c0 = 2)) ∧ f_X7_lastReleaseWithAward n2 xm a1 = some (bv, xm') ∧ xm'.1 0 0 = c0 ∧ (c0 = 0 → rv = bv) ∧ Rel x t k xm'
def SP_lastReleaseWithout (Rel : SX → (Nat → Nat) → Nat → SX → Prop) : Prop := ∀ (x : SX) (t : Nat → Nat) (k : Nat) (xm : SX) (a1 : Int32), Rel x t k xm → ∃ (n : Nat) (xr : SX) (k0 : Nat) (rv c0 : Int32) (n2 : Nat) (bv : Int32) (xm' : SX), f_X6_lastReleaseWithout n x a1 = some (k0, rv, xr) ∧ ((k0 = 0 ∧ c0 = 0) ∨ (k0 = 3 ∧ c0 = 1) ∨ (k0 = 2 ∧ c0 = 2) ∨ (k0 = 4 ∧ c0 = 3)) ∧ f_X7_lastReleaseWithout n2 xm a1 = some (bv, xm') ∧ xm'.1 0 0 = c0 ∧ (c0 = 0 → rv = bv) ∧ Rel xr t k xm'
def SP_servedDays (Rel : SX → (Nat → Nat) → Nat → SX → Prop) : Prop := ∀ (x : SX) (t : Nat → Nat) (k : Nat) (xm : SX), Rel x t k xm → ∃ (n : Nat) (rv : Int32) (n2 : Nat) (bv : Int32) (xm' : SX), f_X6_servedDays n x = some rv ∧ f_X7_servedDays n2 xm = some (bv, xm') ∧ rv = bv ∧ Rel x t k xm'
def SP_licenceDays (Rel : SX → (Nat → Nat) → Nat → SX → Prop) : Prop := ∀ (x : SX) (t : Nat → Nat) (k : Nat) (xm : SX), Rel x t k xm → ∃ (n : Nat) (rv : Int32) (n2 : Nat) (bv : Int32) (xm' : SX), f_X6_licenceDays n x = some rv ∧ f_X7_licenceDays n2 xm = some (bv, xm') ∧ rv = bv ∧ Rel x t k xm'
def SP_statusOn (Rel : SX → (Nat → Nat) → Nat → SX → Prop) : Prop := ∀ (x : SX) (t : Nat → Nat) (k : Nat) (xm : SX) (a1 : Int32), Rel x t k xm → ∃ (n : Nat) (k0 : Nat) (rv c0 : Int32) (n2 : Nat) (bv : Int32) (xm' : SX), f_X6_statusOn n x a1 = some (k0, rv) ∧ ((k0 = 0 ∧ c0 = 0) ∨ (k0 = 1 ∧ c0 = 1)) ∧ f_X7_statusOn n2 xm a1 = some (bv, xm') ∧ xm'.1 0 0 = c0 ∧ (c0 = 0 → rv = bv) ∧ Rel x t k xm'
def SP_writeHistory (Rel : SX → (Nat → Nat) → Nat → SX → Prop) : Prop := ∀ (x : SX) (t : Nat → Nat) (k : Nat) (xm : SX), Rel x t k xm → ∃ (n D : Nat) (ps : Nat → Int32) (n2 : Nat) (bv : Int32) (xm' : SX), x.1 0 8 = nI D ∧ D ≤ 14609 ∧ (∀ j, j < D → f_X6_pastStatus n x (nI j) = some (ps j)) ∧ f_X7_writeHistory n2 xm = some (bv, xm') ∧ nI (hsK ps D) = bv ∧ Rel x (hsT ps D) (hsK ps D) xm'
def SP_outputAt (Rel : SX → (Nat → Nat) → Nat → SX → Prop) : Prop := ∀ (x : SX) (t : Nat → Nat) (k : Nat) (xm : SX) (a1 : Int32), Rel x t k xm → ∃ (n2 : Nat) (bv : Int32) (xm' : SX) (k0 : Nat) (rv c0 : Int32), (((0 ≤ a1 ∧ a1 < nI k) ∧ k0 = 0 ∧ rv = nI (t a1.toNatClampNeg)) ∨ (¬ (0 ≤ a1 ∧ a1 < nI k) ∧ k0 = 3 ∧ rv = 0)) ∧ ((k0 = 0 ∧ c0 = 0) ∨ (k0 = 3 ∧ c0 = 1)) ∧ f_X7_outputAt n2 xm a1 = some (bv, xm') ∧ xm'.1 0 0 = c0 ∧ (c0 = 0 → rv = bv) ∧ Rel x t k xm'
def SP_isConsistent (Rel : SX → (Nat → Nat) → Nat → SX → Prop) : Prop := ∀ (x : SX) (t : Nat → Nat) (k : Nat) (xm : SX), Rel x t k xm → ∃ (n : Nat) (xr : SX) (rv : Int32) (n2 : Nat) (bv : Int32) (xm' : SX), f_X6_isConsistent n x = some (rv, xr) ∧ f_X7_isConsistent n2 xm = some (bv, xm') ∧ rv = bv ∧ Rel xr t k xm'
def SPall (Rel : SX → (Nat → Nat) → Nat → SX → Prop) : Prop := SP_dayNumber Rel ∧ (SP_dayNumberByMonths Rel ∧ (SP_yearOf Rel ∧ (SP_monthOf Rel ∧ (SP_dayOfMonth Rel ∧ (SP_monthsAfter Rel ∧ (SP_today Rel ∧ (SP_advance Rel ∧ (SP_impose Rel ∧ (SP_imposeConsecutive Rel ∧ (SP_addRemand Rel ∧ (SP_quash Rel ∧ (SP_award Rel ∧ (SP_giveBack Rel ∧ (SP_recall Rel ∧ (SP_termCount Rel ∧ (SP_kindOf Rel ∧ (SP_isQuashed Rel ∧ (SP_parentOf Rel ∧ (SP_chainLength Rel ∧ (SP_descendants Rel ∧ (SP_start Rel ∧ (SP_length Rel ∧ (SP_totalLength Rel ∧ (SP_custodialPart Rel ∧ (SP_credit Rel ∧ (SP_creditByMerging Rel ∧ (SP_addedDays Rel ∧ (SP_releaseDay Rel ∧ (SP_releaseDayByServing Rel ∧ (SP_endDay Rel ∧ (SP_status Rel ∧ (SP_lastRelease Rel ∧ (SP_lastEnd Rel ∧ (SP_decidingTerm Rel ∧ (SP_termByRelease Rel ∧ (SP_daysInCustodyLeft Rel ∧ (SP_recallCount Rel ∧ (SP_recallEnd Rel ∧ (SP_awardDays Rel ∧ (SP_concerns Rel ∧ (SP_lastReleaseWithAward Rel ∧ (SP_lastReleaseWithout Rel ∧ (SP_servedDays Rel ∧ (SP_licenceDays Rel ∧ (SP_statusOn Rel ∧ (SP_writeHistory Rel ∧ (SP_outputAt Rel ∧ (SP_isConsistent Rel))))))))))))))))))))))))))))))))))))))))))))))))
/-! ===== the law's loop ===== -/
theorem k_end {p : Program} {l : Launch} {e : Env} {s : State} {m : MethodId} {below : List Frame} {meth : Method} {c : Code} {b : Nat} {G : gG} {w : va_W} {H : Heap} {locs : List Loc} {ls : Array Slot} {cells slots : Nat} (hx : p.tables.exec = Jvm.exec) (hb : c.code = code) (hr : meth.sig.returnType = ret) (hlocks : meth.locks = false) (hw : Wd G w (fun q : Nat => s.heap.size ≤ q) s H locs) (hc : cells ≤ 601024) (hs : slots ≤ 7293034) : W p l e room_1 s m #[Value.ref b] below meth c H locs cells slots (lw_Z below #[Value.ref b] s) (F0 m 2745 ls []) := by
  refine lv_iconst (v := 1) (cc := cL_law) hx hb dL_law_2745 (by decide) ?_
  refine va_forget (fun q hq => hw.2.2.2.1.2.2 q hq) ?_
  refine W.widen (k := 601024) (n := 7293034) hc hs ?_
  exact lw_ret hx hb hr hlocks dL_law_2746
def LOK (Rel : SX → (Nat → Nat) → Nat → SX → Prop) (p : Program) (l : Launch) (e : Env) (s : State) (m : MethodId) (below : List Frame) (meth : Method) (c : Code) (G : gG) (A : Nat → Prop) (b : Nat) (ad bd : Nat → Nat) (qo : Nat) (Q : State → Prop) (i : Nat) : Prop := ∀ (x y xm : SX) (t : Nat → Nat) (k cap qb : Nat) (o : Nat → Int64) (cells slots : Nat) (H : Heap) (locs : List Loc) (ls : Array Slot), Rel x t k xm → OkT cap y t k → cells ≤ 200 + i + cap → slots ≤ 40000 + 6 * i + 2 * cap → Wd G (wL G ad qb cap x y bd xm qo o) A s H locs → lv_has ls 7 [(0, .ref b), (1, .ref (ad 0)), (2, .ref (bd 0)), (3, .ref qo), (4, .int (nI i))] → W p l e room_1 s m #[Value.ref b] below meth c H locs cells slots Q (F0 m 23 ls [])
set_option maxHeartbeats 4000000 in
set_option maxRecDepth 100000 in
theorem law_step {Rel : SX → (Nat → Nat) → Nat → SX → Prop} (hS : SPall Rel) {p : Program} {l : Launch} {e : Env} {s : State} {m : MethodId} {below : List Frame} {meth : Method} {c : Code} {G : gG} {A : Nat → Prop} {b L : Nat} {xs : Nat → Int32} {ad bd : Nat → Nat} {qo : Nat} {Q : State → Prop} (C : LC p l s m c b L xs A) {i : Nat} (hi : i + 5 ≤ L) (ih : LOK Rel p l e s m below meth c G A b ad bd qo Q (i + 5)) {x y xm : SX} {t : Nat → Nat} {k cap qb : Nat} {o : Nat → Int64} {cells slots : Nat} {H : Heap} {locs : List Loc} {ls : Array Slot} (hRel : Rel x t k xm) (hOk : OkT cap y t k) (hcs : cells ≤ 200 + i + cap) (hss : slots ≤ 40000 + 6 * i + 2 * cap) (hw : Wd G (wL G ad qb cap x y bd xm qo o) A s H locs) (hl : lv_has ls 7 [(0, .ref b), (1, .ref (ad 0)), (2, .ref (bd 0)), (3, .ref qo), (4, .int (nI i))]) : W p l e room_1 s m #[Value.ref b] below meth c H locs cells slots Q (F0 m 32 ls []) := by
  have hx := C.1.1
  have hb := C.1.2.1
  have hL := C.2.2.2.2.1
  have hcap := hOk.2.2.2.1
  have nxt : ∀ (x y xm : SX) (t : Nat → Nat) (k cap qb : Nat) (o : Nat → Int64) (cells slots : Nat) (H : Heap) (locs : List Loc) (ls : Array Slot), Rel x t k xm → OkT cap y t k → cells ≤ 200 + (i + 5) + cap → slots ≤ 40000 + 6 * (i + 5) + 2 * cap → Wd G (wL G ad qb cap x y bd xm qo o) A s H locs → lv_has ls 7 [(0, .ref b), (1, .ref (ad 0)), (2, .ref (bd 0)), (3, .ref qo), (4, .int (nI i))] → W p l e room_1 s m #[Value.ref b] below meth c H locs cells slots Q (F0 m 2739 ls []) := by
    intro x y xm t k cap qb o cells slots H locs ls h1 h2 h3 h4 hw hl
    refine lv_iinc (v := nI (i + 5)) (lv' := [(4, .int (nI (i + 5))), (0, .ref b), (1, .ref (ad 0)), (2, .ref (bd 0)), (3, .ref qo)]) hx hb dL_law_2739 hl (k := 4) rfl (nI_add i 5) (Nat.le_of_ble_eq_true rfl) rfl (fun ls hl => ?_)
    refine lv_goto (tgt := 23) hx hb dL_law_2742 rfl ?_
    exact ih x y xm t k cap qb o cells slots H locs ls h1 h2 h3 h4 hw (lv_sub hl [1, 2, 3, 4, 0] rfl)
  obtain ⟨s0, s1, s2, s3, s4, s5, s6, s7, s8, s9, s10, s11, s12, s13, s14, s15, s16, s17, s18, s19, s20, s21, s22, s23, s24, s25, s26, s27, s28, s29, s30, s31, s32, s33, s34, s35, s36, s37, s38, s39, s40, s41, s42, s43, s44, s45, s46, s47, s48⟩ := hS
  refine lv_aload_n hx hb dL_law_32 rfl (lv_at hl 0 rfl) ?_
  refine lv_iload hx hb dL_law_33 (lv_at hl 4 rfl) ?_
  refine k_sc C hw (j := i) rfl (by omega) dL_law_35 ?_
  refine lv_bipush (v := 63) hx hb dL_law_36 (by decide) ?_
  refine lv_iand hx hb dL_law_38 ?_
  obtain ⟨j, hj, ej⟩ := pk_andE (xs i) (m := 63) 6 (by decide)
  rw [ej]
  match j, hj with
  | 0, _ =>
    refine lv_tableIn (tgt := 248) (off := 209) hx hb dL_law_39 (by decide) (by decide) (by decide) rfl ?_
    obtain ⟨n, k0, rv, c0, n2, bv, xm', h1, h2, h3, h4, h5, hR⟩ := s0 x t k xm (xs (i + 1)) (xs (i + 2)) (xs (i + 3)) hRel
    exact c_dayNumber C (by omega) h1 h2 h3 h4 h5 hw hl (by omega) (by omega) fun o' H1 locs1 ls1 hw1 hl1 => nxt _ _ _ _ _ _ _ _ _ _ _ _ _ hR hOk (by omega) (by omega) hw1 hl1
  | 1, _ =>
    refine lv_tableIn (tgt := 328) (off := 289) hx hb dL_law_39 (by decide) (by decide) (by decide) rfl ?_
    obtain ⟨n, k0, rv, c0, n2, bv, xm', h1, h2, h3, h4, h5, hR⟩ := s1 x t k xm (xs (i + 1)) (xs (i + 2)) (xs (i + 3)) hRel
    exact c_dayNumberByMonths C (by omega) h1 h2 h3 h4 h5 hw hl (by omega) (by omega) fun o' H1 locs1 ls1 hw1 hl1 => nxt _ _ _ _ _ _ _ _ _ _ _ _ _ hR hOk (by omega) (by omega) hw1 hl1
  | 2, _ =>
    refine lv_tableIn (tgt := 408) (off := 369) hx hb dL_law_39 (by decide) (by decide) (by decide) rfl ?_
    obtain ⟨n, k0, rv, c0, n2, bv, xm', h1, h2, h3, h4, h5, hR⟩ := s2 x t k xm (xs (i + 1)) hRel
    exact c_yearOf C (by omega) h1 h2 h3 h4 h5 hw hl (by omega) (by omega) fun o' H1 locs1 ls1 hw1 hl1 => nxt _ _ _ _ _ _ _ _ _ _ _ _ _ hR hOk (by omega) (by omega) hw1 hl1
  | 3, _ =>
    refine lv_tableIn (tgt := 464) (off := 425) hx hb dL_law_39 (by decide) (by decide) (by decide) rfl ?_
    obtain ⟨n, k0, rv, c0, n2, bv, xm', h1, h2, h3, h4, h5, hR⟩ := s3 x t k xm (xs (i + 1)) hRel
    exact c_monthOf C (by omega) h1 h2 h3 h4 h5 hw hl (by omega) (by omega) fun o' H1 locs1 ls1 hw1 hl1 => nxt _ _ _ _ _ _ _ _ _ _ _ _ _ hR hOk (by omega) (by omega) hw1 hl1
  | 4, _ =>
    refine lv_tableIn (tgt := 520) (off := 481) hx hb dL_law_39 (by decide) (by decide) (by decide) rfl ?_
    obtain ⟨n, k0, rv, c0, n2, bv, xm', h1, h2, h3, h4, h5, hR⟩ := s4 x t k xm (xs (i + 1)) hRel
    exact c_dayOfMonth C (by omega) h1 h2 h3 h4 h5 hw hl (by omega) (by omega) fun o' H1 locs1 ls1 hw1 hl1 => nxt _ _ _ _ _ _ _ _ _ _ _ _ _ hR hOk (by omega) (by omega) hw1 hl1
  | 5, _ =>
    refine lv_tableIn (tgt := 576) (off := 537) hx hb dL_law_39 (by decide) (by decide) (by decide) rfl ?_
    obtain ⟨n, k0, rv, c0, n2, bv, xm', h1, h2, h3, h4, h5, hR⟩ := s5 x t k xm (xs (i + 1)) (xs (i + 2)) hRel
    exact c_monthsAfter C (by omega) h1 h2 h3 h4 h5 hw hl (by omega) (by omega) fun o' H1 locs1 ls1 hw1 hl1 => nxt _ _ _ _ _ _ _ _ _ _ _ _ _ hR hOk (by omega) (by omega) hw1 hl1
  | 6, _ =>
    refine lv_tableIn (tgt := 644) (off := 605) hx hb dL_law_39 (by decide) (by decide) (by decide) rfl ?_
    obtain ⟨n, rv, n2, bv, xm', h1, h3, h5, hR⟩ := s6 x t k xm hRel
    exact c_today C (by omega) h1 h3 h5 hw hl (by omega) (by omega) fun H1 locs1 ls1 hw1 hl1 => nxt _ _ _ _ _ _ _ _ _ _ _ _ _ hR hOk (by omega) (by omega) hw1 hl1
  | 7, _ =>
    refine lv_tableIn (tgt := 657) (off := 618) hx hb dL_law_39 (by decide) (by decide) (by decide) rfl ?_
    obtain ⟨n, xr, k0, rv, c0, n2, bv, xm', h1, h2, h3, h4, h5, hR⟩ := s7 x t k xm (xs (i + 1)) hRel
    exact c_advance C (by omega) h1 h2 h3 h4 h5 hw hl (by omega) (by omega) fun o' H1 locs1 ls1 hw1 hl1 => nxt _ _ _ _ _ _ _ _ _ _ _ _ _ hR hOk (by omega) (by omega) hw1 hl1
  | 8, _ =>
    refine lv_tableIn (tgt := 713) (off := 674) hx hb dL_law_39 (by decide) (by decide) (by decide) rfl ?_
    obtain ⟨n, xr, k0, rv, c0, n2, bv, xm', h1, h2, h3, h4, h5, hR⟩ := s8 x t k xm (xs (i + 1)) (xs (i + 2)) (xs (i + 3)) hRel
    exact c_impose C (by omega) h1 h2 h3 h4 h5 hw hl (by omega) (by omega) fun o' H1 locs1 ls1 hw1 hl1 => nxt _ _ _ _ _ _ _ _ _ _ _ _ _ hR hOk (by omega) (by omega) hw1 hl1
  | 9, _ =>
    refine lv_tableIn (tgt := 793) (off := 754) hx hb dL_law_39 (by decide) (by decide) (by decide) rfl ?_
    obtain ⟨n, xr, k0, rv, c0, n2, bv, xm', h1, h2, h3, h4, h5, hR⟩ := s9 x t k xm (xs (i + 1)) (xs (i + 2)) (xs (i + 3)) (xs (i + 4)) hRel
    exact c_imposeConsecutive C (by omega) h1 h2 h3 h4 h5 hw hl (by omega) (by omega) fun o' H1 locs1 ls1 hw1 hl1 => nxt _ _ _ _ _ _ _ _ _ _ _ _ _ hR hOk (by omega) (by omega) hw1 hl1
  | 10, _ =>
    refine lv_tableIn (tgt := 885) (off := 846) hx hb dL_law_39 (by decide) (by decide) (by decide) rfl ?_
    obtain ⟨n, xr, k0, rv, c0, n2, bv, xm', h1, h2, h3, h4, h5, hR⟩ := s10 x t k xm (xs (i + 1)) (xs (i + 2)) (xs (i + 3)) hRel
    exact c_addRemand C (by omega) h1 h2 h3 h4 h5 hw hl (by omega) (by omega) fun o' H1 locs1 ls1 hw1 hl1 => nxt _ _ _ _ _ _ _ _ _ _ _ _ _ hR hOk (by omega) (by omega) hw1 hl1
  | 11, _ =>
    refine lv_tableIn (tgt := 965) (off := 926) hx hb dL_law_39 (by decide) (by decide) (by decide) rfl ?_
    obtain ⟨n, xr, k0, rv, c0, n2, bv, xm', h1, h2, h3, h4, h5, hR⟩ := s11 x t k xm (xs (i + 1)) hRel
    exact c_quash C (by omega) h1 h2 h3 h4 h5 hw hl (by omega) (by omega) fun o' H1 locs1 ls1 hw1 hl1 => nxt _ _ _ _ _ _ _ _ _ _ _ _ _ hR hOk (by omega) (by omega) hw1 hl1
  | 12, _ =>
    refine lv_tableIn (tgt := 1021) (off := 982) hx hb dL_law_39 (by decide) (by decide) (by decide) rfl ?_
    obtain ⟨n, xr, k0, rv, c0, n2, bv, xm', h1, h2, h3, h4, h5, hR⟩ := s12 x t k xm (xs (i + 1)) hRel
    exact c_award C (by omega) h1 h2 h3 h4 h5 hw hl (by omega) (by omega) fun o' H1 locs1 ls1 hw1 hl1 => nxt _ _ _ _ _ _ _ _ _ _ _ _ _ hR hOk (by omega) (by omega) hw1 hl1
  | 13, _ =>
    refine lv_tableIn (tgt := 1077) (off := 1038) hx hb dL_law_39 (by decide) (by decide) (by decide) rfl ?_
    obtain ⟨n, xr, k0, rv, c0, n2, bv, xm', h1, h2, h3, h4, h5, hR⟩ := s13 x t k xm (xs (i + 1)) (xs (i + 2)) hRel
    exact c_giveBack C (by omega) h1 h2 h3 h4 h5 hw hl (by omega) (by omega) fun o' H1 locs1 ls1 hw1 hl1 => nxt _ _ _ _ _ _ _ _ _ _ _ _ _ hR hOk (by omega) (by omega) hw1 hl1
  | 14, _ =>
    refine lv_tableIn (tgt := 1145) (off := 1106) hx hb dL_law_39 (by decide) (by decide) (by decide) rfl ?_
    obtain ⟨n, xr, k0, rv, c0, n2, bv, xm', h1, h2, h3, h4, h5, hR⟩ := s14 x t k xm (xs (i + 1)) hRel
    exact c_recall C (by omega) h1 h2 h3 h4 h5 hw hl (by omega) (by omega) fun o' H1 locs1 ls1 hw1 hl1 => nxt _ _ _ _ _ _ _ _ _ _ _ _ _ hR hOk (by omega) (by omega) hw1 hl1
  | 15, _ =>
    refine lv_tableIn (tgt := 1201) (off := 1162) hx hb dL_law_39 (by decide) (by decide) (by decide) rfl ?_
    obtain ⟨n, rv, n2, bv, xm', h1, h3, h5, hR⟩ := s15 x t k xm hRel
    exact c_termCount C (by omega) h1 h3 h5 hw hl (by omega) (by omega) fun H1 locs1 ls1 hw1 hl1 => nxt _ _ _ _ _ _ _ _ _ _ _ _ _ hR hOk (by omega) (by omega) hw1 hl1
  | 16, _ =>
    refine lv_tableIn (tgt := 1214) (off := 1175) hx hb dL_law_39 (by decide) (by decide) (by decide) rfl ?_
    obtain ⟨n, k0, rv, c0, n2, bv, xm', h1, h2, h3, h4, h5, hR⟩ := s16 x t k xm (xs (i + 1)) hRel
    exact c_kindOf C (by omega) h1 h2 h3 h4 h5 hw hl (by omega) (by omega) fun o' H1 locs1 ls1 hw1 hl1 => nxt _ _ _ _ _ _ _ _ _ _ _ _ _ hR hOk (by omega) (by omega) hw1 hl1
  | 17, _ =>
    refine lv_tableIn (tgt := 1270) (off := 1231) hx hb dL_law_39 (by decide) (by decide) (by decide) rfl ?_
    obtain ⟨n, k0, rv, c0, n2, bv, xm', h1, hz, h2, h3, h4, h5, hR⟩ := s17 x t k xm (xs (i + 1)) hRel
    exact c_isQuashed C (by omega) h1 hz h2 h3 h4 h5 hw hl (by omega) (by omega) fun o' H1 locs1 ls1 hw1 hl1 => nxt _ _ _ _ _ _ _ _ _ _ _ _ _ hR hOk (by omega) (by omega) hw1 hl1
  | 18, _ =>
    refine lv_tableIn (tgt := 1333) (off := 1294) hx hb dL_law_39 (by decide) (by decide) (by decide) rfl ?_
    obtain ⟨n, k0, rv, c0, n2, bv, xm', h1, h2, h3, h4, h5, hR⟩ := s18 x t k xm (xs (i + 1)) hRel
    exact c_parentOf C (by omega) h1 h2 h3 h4 h5 hw hl (by omega) (by omega) fun o' H1 locs1 ls1 hw1 hl1 => nxt _ _ _ _ _ _ _ _ _ _ _ _ _ hR hOk (by omega) (by omega) hw1 hl1
  | 19, _ =>
    refine lv_tableIn (tgt := 1389) (off := 1350) hx hb dL_law_39 (by decide) (by decide) (by decide) rfl ?_
    obtain ⟨n, k0, rv, c0, n2, bv, xm', h1, h2, h3, h4, h5, hR⟩ := s19 x t k xm (xs (i + 1)) hRel
    exact c_chainLength C (by omega) h1 h2 h3 h4 h5 hw hl (by omega) (by omega) fun o' H1 locs1 ls1 hw1 hl1 => nxt _ _ _ _ _ _ _ _ _ _ _ _ _ hR hOk (by omega) (by omega) hw1 hl1
  | 20, _ =>
    refine lv_tableIn (tgt := 1445) (off := 1406) hx hb dL_law_39 (by decide) (by decide) (by decide) rfl ?_
    obtain ⟨n, k0, rv, c0, n2, bv, xm', h1, h2, h3, h4, h5, hR⟩ := s20 x t k xm (xs (i + 1)) hRel
    exact c_descendants C (by omega) h1 h2 h3 h4 h5 hw hl (by omega) (by omega) fun o' H1 locs1 ls1 hw1 hl1 => nxt _ _ _ _ _ _ _ _ _ _ _ _ _ hR hOk (by omega) (by omega) hw1 hl1
  | 21, _ =>
    refine lv_tableIn (tgt := 1501) (off := 1462) hx hb dL_law_39 (by decide) (by decide) (by decide) rfl ?_
    obtain ⟨n, k0, rv, c0, n2, bv, xm', h1, h2, h3, h4, h5, hR⟩ := s21 x t k xm (xs (i + 1)) hRel
    exact c_start C (by omega) h1 h2 h3 h4 h5 hw hl (by omega) (by omega) fun o' H1 locs1 ls1 hw1 hl1 => nxt _ _ _ _ _ _ _ _ _ _ _ _ _ hR hOk (by omega) (by omega) hw1 hl1
  | 22, _ =>
    refine lv_tableIn (tgt := 1557) (off := 1518) hx hb dL_law_39 (by decide) (by decide) (by decide) rfl ?_
    obtain ⟨n, k0, rv, c0, n2, bv, xm', h1, h2, h3, h4, h5, hR⟩ := s22 x t k xm (xs (i + 1)) hRel
    exact c_length C (by omega) h1 h2 h3 h4 h5 hw hl (by omega) (by omega) fun o' H1 locs1 ls1 hw1 hl1 => nxt _ _ _ _ _ _ _ _ _ _ _ _ _ hR hOk (by omega) (by omega) hw1 hl1
  | 23, _ =>
    refine lv_tableIn (tgt := 1613) (off := 1574) hx hb dL_law_39 (by decide) (by decide) (by decide) rfl ?_
    obtain ⟨n, k0, rv, c0, n2, bv, xm', h1, h2, h3, h4, h5, hR⟩ := s23 x t k xm (xs (i + 1)) hRel
    exact c_totalLength C (by omega) h1 h2 h3 h4 h5 hw hl (by omega) (by omega) fun o' H1 locs1 ls1 hw1 hl1 => nxt _ _ _ _ _ _ _ _ _ _ _ _ _ hR hOk (by omega) (by omega) hw1 hl1
  | 24, _ =>
    refine lv_tableIn (tgt := 1669) (off := 1630) hx hb dL_law_39 (by decide) (by decide) (by decide) rfl ?_
    obtain ⟨n, k0, rv, c0, n2, bv, xm', h1, h2, h3, h4, h5, hR⟩ := s24 x t k xm (xs (i + 1)) hRel
    exact c_custodialPart C (by omega) h1 h2 h3 h4 h5 hw hl (by omega) (by omega) fun o' H1 locs1 ls1 hw1 hl1 => nxt _ _ _ _ _ _ _ _ _ _ _ _ _ hR hOk (by omega) (by omega) hw1 hl1
  | 25, _ =>
    refine lv_tableIn (tgt := 1725) (off := 1686) hx hb dL_law_39 (by decide) (by decide) (by decide) rfl ?_
    obtain ⟨n, k0, rv, c0, n2, bv, xm', h1, h2, h3, h4, h5, hR⟩ := s25 x t k xm (xs (i + 1)) hRel
    exact c_credit C (by omega) h1 h2 h3 h4 h5 hw hl (by omega) (by omega) fun o' H1 locs1 ls1 hw1 hl1 => nxt _ _ _ _ _ _ _ _ _ _ _ _ _ hR hOk (by omega) (by omega) hw1 hl1
  | 26, _ =>
    refine lv_tableIn (tgt := 1781) (off := 1742) hx hb dL_law_39 (by decide) (by decide) (by decide) rfl ?_
    obtain ⟨n, xr, k0, rv, c0, n2, bv, xm', h1, h2, h3, h4, h5, hR⟩ := s26 x t k xm (xs (i + 1)) hRel
    exact c_creditByMerging C (by omega) h1 h2 h3 h4 h5 hw hl (by omega) (by omega) fun o' H1 locs1 ls1 hw1 hl1 => nxt _ _ _ _ _ _ _ _ _ _ _ _ _ hR hOk (by omega) (by omega) hw1 hl1
  | 27, _ =>
    refine lv_tableIn (tgt := 1837) (off := 1798) hx hb dL_law_39 (by decide) (by decide) (by decide) rfl ?_
    obtain ⟨n, k0, rv, c0, n2, bv, xm', h1, h2, h3, h4, h5, hR⟩ := s27 x t k xm (xs (i + 1)) hRel
    exact c_addedDays C (by omega) h1 h2 h3 h4 h5 hw hl (by omega) (by omega) fun o' H1 locs1 ls1 hw1 hl1 => nxt _ _ _ _ _ _ _ _ _ _ _ _ _ hR hOk (by omega) (by omega) hw1 hl1
  | 28, _ =>
    refine lv_tableIn (tgt := 1893) (off := 1854) hx hb dL_law_39 (by decide) (by decide) (by decide) rfl ?_
    obtain ⟨n, k0, rv, c0, n2, bv, xm', h1, h2, h3, h4, h5, hR⟩ := s28 x t k xm (xs (i + 1)) hRel
    exact c_releaseDay C (by omega) h1 h2 h3 h4 h5 hw hl (by omega) (by omega) fun o' H1 locs1 ls1 hw1 hl1 => nxt _ _ _ _ _ _ _ _ _ _ _ _ _ hR hOk (by omega) (by omega) hw1 hl1
  | 29, _ =>
    refine lv_tableIn (tgt := 1949) (off := 1910) hx hb dL_law_39 (by decide) (by decide) (by decide) rfl ?_
    obtain ⟨n, k0, rv, c0, n2, bv, xm', h1, h2, h3, h4, h5, hR⟩ := s29 x t k xm (xs (i + 1)) hRel
    exact c_releaseDayByServing C (by omega) h1 h2 h3 h4 h5 hw hl (by omega) (by omega) fun o' H1 locs1 ls1 hw1 hl1 => nxt _ _ _ _ _ _ _ _ _ _ _ _ _ hR hOk (by omega) (by omega) hw1 hl1
  | 30, _ =>
    refine lv_tableIn (tgt := 2005) (off := 1966) hx hb dL_law_39 (by decide) (by decide) (by decide) rfl ?_
    obtain ⟨n, k0, rv, c0, n2, bv, xm', h1, h2, h3, h4, h5, hR⟩ := s30 x t k xm (xs (i + 1)) hRel
    exact c_endDay C (by omega) h1 h2 h3 h4 h5 hw hl (by omega) (by omega) fun o' H1 locs1 ls1 hw1 hl1 => nxt _ _ _ _ _ _ _ _ _ _ _ _ _ hR hOk (by omega) (by omega) hw1 hl1
  | 31, _ =>
    refine lv_tableIn (tgt := 2061) (off := 2022) hx hb dL_law_39 (by decide) (by decide) (by decide) rfl ?_
    obtain ⟨n, rv, n2, bv, xm', h1, h3, h5, hR⟩ := s31 x t k xm hRel
    exact c_status C (by omega) h1 h3 h5 hw hl (by omega) (by omega) fun H1 locs1 ls1 hw1 hl1 => nxt _ _ _ _ _ _ _ _ _ _ _ _ _ hR hOk (by omega) (by omega) hw1 hl1
  | 32, _ =>
    refine lv_tableIn (tgt := 2074) (off := 2035) hx hb dL_law_39 (by decide) (by decide) (by decide) rfl ?_
    obtain ⟨n, k0, rv, c0, n2, bv, xm', h1, h2, h3, h4, h5, hR⟩ := s32 x t k xm hRel
    exact c_lastRelease C (by omega) h1 h2 h3 h4 h5 hw hl (by omega) (by omega) fun o' H1 locs1 ls1 hw1 hl1 => nxt _ _ _ _ _ _ _ _ _ _ _ _ _ hR hOk (by omega) (by omega) hw1 hl1
  | 33, _ =>
    refine lv_tableIn (tgt := 2118) (off := 2079) hx hb dL_law_39 (by decide) (by decide) (by decide) rfl ?_
    obtain ⟨n, k0, rv, c0, n2, bv, xm', h1, h2, h3, h4, h5, hR⟩ := s33 x t k xm hRel
    exact c_lastEnd C (by omega) h1 h2 h3 h4 h5 hw hl (by omega) (by omega) fun o' H1 locs1 ls1 hw1 hl1 => nxt _ _ _ _ _ _ _ _ _ _ _ _ _ hR hOk (by omega) (by omega) hw1 hl1
  | 34, _ =>
    refine lv_tableIn (tgt := 2162) (off := 2123) hx hb dL_law_39 (by decide) (by decide) (by decide) rfl ?_
    obtain ⟨n, k0, rv, c0, n2, bv, xm', h1, h2, h3, h4, h5, hR⟩ := s34 x t k xm hRel
    exact c_decidingTerm C (by omega) h1 h2 h3 h4 h5 hw hl (by omega) (by omega) fun o' H1 locs1 ls1 hw1 hl1 => nxt _ _ _ _ _ _ _ _ _ _ _ _ _ hR hOk (by omega) (by omega) hw1 hl1
  | 35, _ =>
    refine lv_tableIn (tgt := 2206) (off := 2167) hx hb dL_law_39 (by decide) (by decide) (by decide) rfl ?_
    obtain ⟨n, k0, rv, c0, n2, bv, xm', h1, h2, h3, h4, h5, hR⟩ := s35 x t k xm (xs (i + 1)) hRel
    exact c_termByRelease C (by omega) h1 h2 h3 h4 h5 hw hl (by omega) (by omega) fun o' H1 locs1 ls1 hw1 hl1 => nxt _ _ _ _ _ _ _ _ _ _ _ _ _ hR hOk (by omega) (by omega) hw1 hl1
  | 36, _ =>
    refine lv_tableIn (tgt := 2262) (off := 2223) hx hb dL_law_39 (by decide) (by decide) (by decide) rfl ?_
    obtain ⟨n, rv, n2, bv, xm', h1, h3, h5, hR⟩ := s36 x t k xm hRel
    exact c_daysInCustodyLeft C (by omega) h1 h3 h5 hw hl (by omega) (by omega) fun H1 locs1 ls1 hw1 hl1 => nxt _ _ _ _ _ _ _ _ _ _ _ _ _ hR hOk (by omega) (by omega) hw1 hl1
  | 37, _ =>
    refine lv_tableIn (tgt := 2275) (off := 2236) hx hb dL_law_39 (by decide) (by decide) (by decide) rfl ?_
    obtain ⟨n, rv, n2, bv, xm', h1, h3, h5, hR⟩ := s37 x t k xm hRel
    exact c_recallCount C (by omega) h1 h3 h5 hw hl (by omega) (by omega) fun H1 locs1 ls1 hw1 hl1 => nxt _ _ _ _ _ _ _ _ _ _ _ _ _ hR hOk (by omega) (by omega) hw1 hl1
  | 38, _ =>
    refine lv_tableIn (tgt := 2288) (off := 2249) hx hb dL_law_39 (by decide) (by decide) (by decide) rfl ?_
    obtain ⟨n, k0, rv, c0, n2, bv, xm', h1, h2, h3, h4, h5, hR⟩ := s38 x t k xm hRel
    exact c_recallEnd C (by omega) h1 h2 h3 h4 h5 hw hl (by omega) (by omega) fun o' H1 locs1 ls1 hw1 hl1 => nxt _ _ _ _ _ _ _ _ _ _ _ _ _ hR hOk (by omega) (by omega) hw1 hl1
  | 39, _ =>
    refine lv_tableIn (tgt := 2332) (off := 2293) hx hb dL_law_39 (by decide) (by decide) (by decide) rfl ?_
    obtain ⟨n, k0, rv, c0, n2, bv, xm', h1, h2, h3, h4, h5, hR⟩ := s39 x t k xm (xs (i + 1)) hRel
    exact c_awardDays C (by omega) h1 h2 h3 h4 h5 hw hl (by omega) (by omega) fun o' H1 locs1 ls1 hw1 hl1 => nxt _ _ _ _ _ _ _ _ _ _ _ _ _ hR hOk (by omega) (by omega) hw1 hl1
  | 40, _ =>
    refine lv_tableIn (tgt := 2388) (off := 2349) hx hb dL_law_39 (by decide) (by decide) (by decide) rfl ?_
    obtain ⟨n, k0, rv, c0, n2, bv, xm', h1, hz, h2, h3, h4, h5, hR⟩ := s40 x t k xm (xs (i + 1)) (xs (i + 2)) hRel
    exact c_concerns C (by omega) h1 hz h2 h3 h4 h5 hw hl (by omega) (by omega) fun o' H1 locs1 ls1 hw1 hl1 => nxt _ _ _ _ _ _ _ _ _ _ _ _ _ hR hOk (by omega) (by omega) hw1 hl1
  | 41, _ =>
    refine lv_tableIn (tgt := 2463) (off := 2424) hx hb dL_law_39 (by decide) (by decide) (by decide) rfl ?_
    obtain ⟨n, k0, rv, c0, n2, bv, xm', h1, h2, h3, h4, h5, hR⟩ := s41 x t k xm (xs (i + 1)) hRel
    exact c_lastReleaseWithAward C (by omega) h1 h2 h3 h4 h5 hw hl (by omega) (by omega) fun o' H1 locs1 ls1 hw1 hl1 => nxt _ _ _ _ _ _ _ _ _ _ _ _ _ hR hOk (by omega) (by omega) hw1 hl1
  | 42, _ =>
    refine lv_tableIn (tgt := 2519) (off := 2480) hx hb dL_law_39 (by decide) (by decide) (by decide) rfl ?_
    obtain ⟨n, xr, k0, rv, c0, n2, bv, xm', h1, h2, h3, h4, h5, hR⟩ := s42 x t k xm (xs (i + 1)) hRel
    exact c_lastReleaseWithout C (by omega) h1 h2 h3 h4 h5 hw hl (by omega) (by omega) fun o' H1 locs1 ls1 hw1 hl1 => nxt _ _ _ _ _ _ _ _ _ _ _ _ _ hR hOk (by omega) (by omega) hw1 hl1
  | 43, _ =>
    refine lv_tableIn (tgt := 2575) (off := 2536) hx hb dL_law_39 (by decide) (by decide) (by decide) rfl ?_
    obtain ⟨n, rv, n2, bv, xm', h1, h3, h5, hR⟩ := s43 x t k xm hRel
    exact c_servedDays C (by omega) h1 h3 h5 hw hl (by omega) (by omega) fun H1 locs1 ls1 hw1 hl1 => nxt _ _ _ _ _ _ _ _ _ _ _ _ _ hR hOk (by omega) (by omega) hw1 hl1
  | 44, _ =>
    refine lv_tableIn (tgt := 2588) (off := 2549) hx hb dL_law_39 (by decide) (by decide) (by decide) rfl ?_
    obtain ⟨n, rv, n2, bv, xm', h1, h3, h5, hR⟩ := s44 x t k xm hRel
    exact c_licenceDays C (by omega) h1 h3 h5 hw hl (by omega) (by omega) fun H1 locs1 ls1 hw1 hl1 => nxt _ _ _ _ _ _ _ _ _ _ _ _ _ hR hOk (by omega) (by omega) hw1 hl1
  | 45, _ =>
    refine lv_tableIn (tgt := 2601) (off := 2562) hx hb dL_law_39 (by decide) (by decide) (by decide) rfl ?_
    obtain ⟨n, k0, rv, c0, n2, bv, xm', h1, h2, h3, h4, h5, hR⟩ := s45 x t k xm (xs (i + 1)) hRel
    exact c_statusOn C (by omega) h1 h2 h3 h4 h5 hw hl (by omega) (by omega) fun o' H1 locs1 ls1 hw1 hl1 => nxt _ _ _ _ _ _ _ _ _ _ _ _ _ hR hOk (by omega) (by omega) hw1 hl1
  | 46, _ =>
    refine lv_tableIn (tgt := 2657) (off := 2618) hx hb dL_law_39 (by decide) (by decide) (by decide) rfl ?_
    obtain ⟨n, D, ps, n2, bv, xm', h1, h2, h3, h4, h5, hR⟩ := s46 x t k xm hRel
    obtain ⟨capF, yF, hF, leF, hH⟩ := h_hist h1 h2 h3 hOk
    have hcF := hF.2.2.2.1
    exact c_writeHistory C (by omega) hH h4 h5 hw hl (by omega) (by omega) fun qb' H1 locs1 ls1 hw1 hl1 => nxt _ _ _ _ _ _ _ _ _ _ _ _ _ hR hF (by omega) (by omega) hw1 hl1
  | 47, _ =>
    refine lv_tableIn (tgt := 2670) (off := 2631) hx hb dL_law_39 (by decide) (by decide) (by decide) rfl ?_
    obtain ⟨n2, bv, xm', k0, rv, c0, h1, h2, h3, h4, h5, hR⟩ := s47 x t k xm (xs (i + 1)) hRel
    exact c_outputAt C (by omega) hOk h1 h2 h3 h4 h5 hw hl (by omega) (by omega) fun o' H1 locs1 ls1 hw1 hl1 => nxt _ _ _ _ _ _ _ _ _ _ _ _ _ hR hOk (by omega) (by omega) hw1 hl1
  | 48, _ =>
    refine lv_tableIn (tgt := 2726) (off := 2687) hx hb dL_law_39 (by decide) (by decide) (by decide) rfl ?_
    obtain ⟨n, xr, rv, n2, bv, xm', h1, h3, h5, hR⟩ := s48 x t k xm hRel
    exact c_isConsistent C (by omega) h1 h3 h5 hw hl (by omega) (by omega) fun H1 locs1 ls1 hw1 hl1 => nxt _ _ _ _ _ _ _ _ _ _ _ _ _ hR hOk (by omega) (by omega) hw1 hl1
  | j + 49, h =>
    refine lv_tableOut (tgt := 2739) hx hb dL_law_39 (Or.inr (by rw [nI_toInt (by omega)]; omega)) rfl ?_
    exact nxt _ _ _ _ _ _ _ _ _ _ _ _ _ hRel hOk (by omega) (by omega) hw hl
set_option maxHeartbeats 4000000 in
set_option maxRecDepth 100000 in
theorem law_loop {Rel : SX → (Nat → Nat) → Nat → SX → Prop} (hS : SPall Rel) {p : Program} {l : Launch} {e : Env} {s : State} {m : MethodId} {below : List Frame} {meth : Method} {c : Code} {G : gG} {b L : Nat} {xs : Nat → Int32} {ad bd : Nat → Nat} {qo : Nat} (C : LC p l s m c b L xs (fun q : Nat => s.heap.size ≤ q)) (hr : meth.sig.returnType = ret) (hlocks : meth.locks = false) : ∀ (r i : Nat), i ≤ L → L < i + 5 * r → LOK Rel p l e s m below meth c G (fun q : Nat => s.heap.size ≤ q) b ad bd qo (lw_Z below #[Value.ref b] s) i := by
  have hx := C.1.1
  have hb := C.1.2.1
  have hL := C.2.2.2.2.1
  intro r
  induction r with
  | zero =>
    intro i h1 h2
    omega
  | succ r ih =>
    intro i hi hr1 x y xm t k cap qb o cells slots H locs ls hRel hOk hcs hss hw hl
    have hcap := hOk.2.2.2.1
    have e5 : (nI L - nI 5).toInt = (L : Int) - 5 := pk_sub_toInt (by omega) (by omega)
    refine lv_iload hx hb dL_law_23 (lv_at hl 4 rfl) ?_
    refine lv_aload_n hx hb dL_law_25 rfl (lv_at hl 0 rfl) ?_
    refine va_slen C.1.1 C.1.2.1 C.2.1 C.2.2.1 C.2.2.2.1 hw.2.2.2.1 dL_law_26 ?_
    refine lv_iconst (v := 5) hx hb dL_law_27 (by decide) ?_
    refine lv_isub hx hb dL_law_28 ?_
    refine lv_icmp_gt (tgt := 2745) hx hb dL_law_29 rfl (fun c9 => ?_) (fun c9 => ?_)
    · exact k_end hx hb hr hlocks hw (by omega) (by omega)
    · have h5 : i + 5 ≤ L := by
        have c9 : ¬ (nI L - nI 5) < nI i := c9
        rw [Int32.lt_iff_toInt_lt, e5, nI_toInt (by omega)] at c9
        omega
      exact law_step hS C h5 (ih (i + 5) (by omega) (by omega)) hRel hOk hcs hss hw hl
