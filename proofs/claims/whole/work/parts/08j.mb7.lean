/-! the tables of the methods, stretch 7 -/
theorem mBQ_294 : (List.range' 294 6).all mB = true := by decide +kernel
theorem mBQ_300 : (List.range' 300 6).all mB = true := by decide +kernel
theorem mBQ_306 : (List.range' 306 6).all mB = true := by decide +kernel
theorem mBQ (i : Nat) (hi : i < 312) : mB i = true := by
  by_cases h0 : i < 6
  · exact rg_of mBQ_0 (by omega) (by omega)
  by_cases h6 : i < 12
  · exact rg_of mBQ_6 (by omega) (by omega)
  by_cases h12 : i < 18
  · exact rg_of mBQ_12 (by omega) (by omega)
  by_cases h18 : i < 24
  · exact rg_of mBQ_18 (by omega) (by omega)
  by_cases h24 : i < 30
  · exact rg_of mBQ_24 (by omega) (by omega)
  by_cases h30 : i < 36
  · exact rg_of mBQ_30 (by omega) (by omega)
  by_cases h36 : i < 42
  · exact rg_of mBQ_36 (by omega) (by omega)
  by_cases h42 : i < 48
  · exact rg_of mBQ_42 (by omega) (by omega)
  by_cases h48 : i < 54
  · exact rg_of mBQ_48 (by omega) (by omega)
  by_cases h54 : i < 60
  · exact rg_of mBQ_54 (by omega) (by omega)
  by_cases h60 : i < 66
  · exact rg_of mBQ_60 (by omega) (by omega)
  by_cases h66 : i < 72
  · exact rg_of mBQ_66 (by omega) (by omega)
  by_cases h72 : i < 78
  · exact rg_of mBQ_72 (by omega) (by omega)
  by_cases h78 : i < 84
  · exact rg_of mBQ_78 (by omega) (by omega)
  by_cases h84 : i < 90
  · exact rg_of mBQ_84 (by omega) (by omega)
  by_cases h90 : i < 96
  · exact rg_of mBQ_90 (by omega) (by omega)
  by_cases h96 : i < 102
  · exact rg_of mBQ_96 (by omega) (by omega)
  by_cases h102 : i < 108
  · exact rg_of mBQ_102 (by omega) (by omega)
  by_cases h108 : i < 114
  · exact rg_of mBQ_108 (by omega) (by omega)
  by_cases h114 : i < 120
  · exact rg_of mBQ_114 (by omega) (by omega)
  by_cases h120 : i < 126
  · exact rg_of mBQ_120 (by omega) (by omega)
  by_cases h126 : i < 132
  · exact rg_of mBQ_126 (by omega) (by omega)
  by_cases h132 : i < 138
  · exact rg_of mBQ_132 (by omega) (by omega)
  by_cases h138 : i < 144
  · exact rg_of mBQ_138 (by omega) (by omega)
  by_cases h144 : i < 150
  · exact rg_of mBQ_144 (by omega) (by omega)
  by_cases h150 : i < 156
  · exact rg_of mBQ_150 (by omega) (by omega)
  by_cases h156 : i < 162
  · exact rg_of mBQ_156 (by omega) (by omega)
  by_cases h162 : i < 168
  · exact rg_of mBQ_162 (by omega) (by omega)
  by_cases h168 : i < 174
  · exact rg_of mBQ_168 (by omega) (by omega)
  by_cases h174 : i < 180
  · exact rg_of mBQ_174 (by omega) (by omega)
  by_cases h180 : i < 186
  · exact rg_of mBQ_180 (by omega) (by omega)
  by_cases h186 : i < 192
  · exact rg_of mBQ_186 (by omega) (by omega)
  by_cases h192 : i < 198
  · exact rg_of mBQ_192 (by omega) (by omega)
  by_cases h198 : i < 204
  · exact rg_of mBQ_198 (by omega) (by omega)
  by_cases h204 : i < 210
  · exact rg_of mBQ_204 (by omega) (by omega)
  by_cases h210 : i < 216
  · exact rg_of mBQ_210 (by omega) (by omega)
  by_cases h216 : i < 222
  · exact rg_of mBQ_216 (by omega) (by omega)
  by_cases h222 : i < 228
  · exact rg_of mBQ_222 (by omega) (by omega)
  by_cases h228 : i < 234
  · exact rg_of mBQ_228 (by omega) (by omega)
  by_cases h234 : i < 240
  · exact rg_of mBQ_234 (by omega) (by omega)
  by_cases h240 : i < 246
  · exact rg_of mBQ_240 (by omega) (by omega)
  by_cases h246 : i < 252
  · exact rg_of mBQ_246 (by omega) (by omega)
  by_cases h252 : i < 258
  · exact rg_of mBQ_252 (by omega) (by omega)
  by_cases h258 : i < 264
  · exact rg_of mBQ_258 (by omega) (by omega)
  by_cases h264 : i < 270
  · exact rg_of mBQ_264 (by omega) (by omega)
  by_cases h270 : i < 276
  · exact rg_of mBQ_270 (by omega) (by omega)
  by_cases h276 : i < 282
  · exact rg_of mBQ_276 (by omega) (by omega)
  by_cases h282 : i < 288
  · exact rg_of mBQ_282 (by omega) (by omega)
  by_cases h288 : i < 294
  · exact rg_of mBQ_288 (by omega) (by omega)
  by_cases h294 : i < 300
  · exact rg_of mBQ_294 (by omega) (by omega)
  by_cases h300 : i < 306
  · exact rg_of mBQ_300 (by omega) (by omega)
  exact rg_of mBQ_306 (by omega) (by omega)
theorem mB_ok (x : Nat) (h : x < 312) : mB x = true := mBQ x h
