/-! the tables of the methods, stretch 4 -/
theorem mBQ_168 : (List.range' 168 6).all mB = true := by decide +kernel
theorem mBQ_174 : (List.range' 174 6).all mB = true := by decide +kernel
theorem mBQ_180 : (List.range' 180 6).all mB = true := by decide +kernel
theorem mBQ_186 : (List.range' 186 6).all mB = true := by decide +kernel
theorem mBQ_192 : (List.range' 192 6).all mB = true := by decide +kernel
theorem mBQ_198 : (List.range' 198 6).all mB = true := by decide +kernel
theorem mBQ_204 : (List.range' 204 6).all mB = true := by decide +kernel
