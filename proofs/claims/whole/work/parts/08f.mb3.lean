/-! the tables of the methods, stretch 3 -/
theorem mBQ_126 : (List.range' 126 6).all mB = true := by decide +kernel
theorem mBQ_132 : (List.range' 132 6).all mB = true := by decide +kernel
theorem mBQ_138 : (List.range' 138 6).all mB = true := by decide +kernel
theorem mBQ_144 : (List.range' 144 6).all mB = true := by decide +kernel
theorem mBQ_150 : (List.range' 150 6).all mB = true := by decide +kernel
theorem mBQ_156 : (List.range' 156 6).all mB = true := by decide +kernel
theorem mBQ_162 : (List.range' 162 6).all mB = true := by decide +kernel
