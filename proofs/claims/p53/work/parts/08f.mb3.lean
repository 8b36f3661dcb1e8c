/-! the tables of the methods, stretch 3 -/
theorem mBQ_126 : (List.range' 126 3).all mB = true := by decide +kernel
theorem mBQ_129 : (List.range' 129 3).all mB = true := by decide +kernel
theorem mBQ_132 : (List.range' 132 3).all mB = true := by decide +kernel
theorem mBQ_135 : (List.range' 135 3).all mB = true := by decide +kernel
theorem mBQ_138 : (List.range' 138 3).all mB = true := by decide +kernel
