/-! the tables of the methods, stretch 7 -/
theorem mBQ_186 : (List.range' 186 3).all mB = true := by decide +kernel
theorem mBQ_189 : (List.range' 189 3).all mB = true := by decide +kernel
theorem mBQ_192 : (List.range' 192 3).all mB = true := by decide +kernel
theorem mBQ_195 : (List.range' 195 3).all mB = true := by decide +kernel
theorem mBQ_198 : (List.range' 198 3).all mB = true := by decide +kernel
