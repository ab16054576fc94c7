theorem zlt_nle {a b : Int32} (h : a < b) : ¬ b ≤ a := fun z => absurd h (Int32.not_lt.mpr z)
theorem znlt_le {a b : Int32} (h : ¬ a < b) : b ≤ a := Int32.not_lt.mp h
theorem zo_n (C : String) (o : Option Nat) : narrow (.object C) (va_rf o) = va_rf o := by cases o <;> rfl
theorem zo_f (C : String) (o : Option Nat) : fits (.object C) (va_rf o) = true := by cases o <;> rfl
