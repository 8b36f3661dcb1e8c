/-! the tables of the methods, stretch 9 -/
theorem mBQ_216 : (List.range' 216 1).all mB = true := by decide +kernel
theorem mBQ_217 : (List.range' 217 1).all mB = true := by decide +kernel
theorem mBQ_218 : (List.range' 218 1).all mB = true := by decide +kernel
