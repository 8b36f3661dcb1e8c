/-! the tables of the methods, stretch 6 -/
theorem mBQ_171 : (List.range' 171 3).all mB = true := by decide +kernel
theorem mBQ_174 : (List.range' 174 3).all mB = true := by decide +kernel
theorem mBQ_177 : (List.range' 177 3).all mB = true := by decide +kernel
theorem mBQ_180 : (List.range' 180 3).all mB = true := by decide +kernel
theorem mBQ_183 : (List.range' 183 3).all mB = true := by decide +kernel
