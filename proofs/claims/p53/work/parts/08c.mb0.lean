/-! the tables of the methods, stretch 0 -/
theorem mBQ_0 : (List.range' 0 6).all mB = true := by decide +kernel
theorem mBQ_6 : (List.range' 6 6).all mB = true := by decide +kernel
theorem mBQ_12 : (List.range' 12 6).all mB = true := by decide +kernel
theorem mBQ_18 : (List.range' 18 6).all mB = true := by decide +kernel
theorem mBQ_24 : (List.range' 24 6).all mB = true := by decide +kernel
theorem mBQ_30 : (List.range' 30 6).all mB = true := by decide +kernel
theorem mBQ_36 : (List.range' 36 6).all mB = true := by decide +kernel
