/-! the tables of the methods, stretch 1 -/
theorem mBQ_42 : (List.range' 42 6).all mB = true := by decide +kernel
theorem mBQ_48 : (List.range' 48 6).all mB = true := by decide +kernel
theorem mBQ_54 : (List.range' 54 6).all mB = true := by decide +kernel
theorem mBQ_60 : (List.range' 60 6).all mB = true := by decide +kernel
theorem mBQ_66 : (List.range' 66 6).all mB = true := by decide +kernel
theorem mBQ_72 : (List.range' 72 6).all mB = true := by decide +kernel
theorem mBQ_78 : (List.range' 78 6).all mB = true := by decide +kernel
