theorem va_rf_cat (r : Option Nat) : (va_rf r).category = 1 := by cases r <;> rfl
