/-! the tables of the methods, stretch 5 -/
theorem mBQ_156 : (List.range' 156 3).all mB = true := by decide +kernel
theorem mBQ_159 : (List.range' 159 3).all mB = true := by decide +kernel
theorem mBQ_162 : (List.range' 162 3).all mB = true := by decide +kernel
theorem mBQ_165 : (List.range' 165 3).all mB = true := by decide +kernel
theorem mBQ_168 : (List.range' 168 3).all mB = true := by decide +kernel
