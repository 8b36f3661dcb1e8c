/-! the tables of the methods, stretch 5 -/
theorem mBQ_210 : (List.range' 210 6).all mB = true := by decide +kernel
theorem mBQ_216 : (List.range' 216 6).all mB = true := by decide +kernel
theorem mBQ_222 : (List.range' 222 6).all mB = true := by decide +kernel
theorem mBQ_228 : (List.range' 228 6).all mB = true := by decide +kernel
theorem mBQ_234 : (List.range' 234 6).all mB = true := by decide +kernel
theorem mBQ_240 : (List.range' 240 6).all mB = true := by decide +kernel
theorem mBQ_246 : (List.range' 246 6).all mB = true := by decide +kernel
