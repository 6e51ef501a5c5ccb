/-! isCounted answers 1 -/
theorem st_isCounted : ∀ r, r < 4 → f_L_isCounted (nI (1 + r)) = some 1 := by decide +kernel
