/-! ===== saving, writing out ===== -/
theorem isb_b {b : Bool} : isb (b2i b) = true := by cases b <;> decide
theorem i2b_b {b : Bool} : i2b (b2i b) = b := by cases b <;> decide
