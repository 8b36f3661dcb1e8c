/-! the tables of the methods, stretch 8 -/
theorem mBQ_201 : (List.range' 201 3).all mB = true := by decide +kernel
theorem mBQ_204 : (List.range' 204 3).all mB = true := by decide +kernel
theorem mBQ_207 : (List.range' 207 3).all mB = true := by decide +kernel
theorem mBQ_210 : (List.range' 210 3).all mB = true := by decide +kernel
theorem mBQ_213 : (List.range' 213 3).all mB = true := by decide +kernel
