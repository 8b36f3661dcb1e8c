/-! the tables of the methods, stretch 6 -/
theorem mBQ_252 : (List.range' 252 6).all mB = true := by decide +kernel
theorem mBQ_258 : (List.range' 258 6).all mB = true := by decide +kernel
theorem mBQ_264 : (List.range' 264 6).all mB = true := by decide +kernel
theorem mBQ_270 : (List.range' 270 6).all mB = true := by decide +kernel
theorem mBQ_276 : (List.range' 276 6).all mB = true := by decide +kernel
theorem mBQ_282 : (List.range' 282 6).all mB = true := by decide +kernel
theorem mBQ_288 : (List.range' 288 6).all mB = true := by decide +kernel
