/-! the tables of the methods, stretch 4 -/
theorem mBQ_141 : (List.range' 141 3).all mB = true := by decide +kernel
theorem mBQ_144 : (List.range' 144 3).all mB = true := by decide +kernel
theorem mBQ_147 : (List.range' 147 3).all mB = true := by decide +kernel
theorem mBQ_150 : (List.range' 150 3).all mB = true := by decide +kernel
theorem mBQ_153 : (List.range' 153 3).all mB = true := by decide +kernel
