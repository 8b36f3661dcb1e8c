/-! the tables of the methods, stretch 11 -/
theorem mBQ_221 : (List.range' 221 1).all mB = true := by decide +kernel
theorem mBQ_222 : (List.range' 222 1).all mB = true := by decide +kernel
theorem mBQ (i : Nat) (hi : i < 223) : mB i = true := by
  by_cases h0 : i < 6
  · exact rg_of mBQ_0 (by omega) (by omega)
  by_cases h6 : i < 12
  · exact rg_of mBQ_6 (by omega) (by omega)
  by_cases h12 : i < 18
  · exact rg_of mBQ_12 (by omega) (by omega)
  by_cases h18 : i < 24
  · exact rg_of mBQ_18 (by omega) (by omega)
  by_cases h24 : i < 30
  · exact rg_of mBQ_24 (by omega) (by omega)
  by_cases h30 : i < 36
  · exact rg_of mBQ_30 (by omega) (by omega)
  by_cases h36 : i < 42
  · exact rg_of mBQ_36 (by omega) (by omega)
  by_cases h42 : i < 48
  · exact rg_of mBQ_42 (by omega) (by omega)
  by_cases h48 : i < 54
  · exact rg_of mBQ_48 (by omega) (by omega)
  by_cases h54 : i < 60
  · exact rg_of mBQ_54 (by omega) (by omega)
  by_cases h60 : i < 66
  · exact rg_of mBQ_60 (by omega) (by omega)
  by_cases h66 : i < 72
  · exact rg_of mBQ_66 (by omega) (by omega)
  by_cases h72 : i < 78
  · exact rg_of mBQ_72 (by omega) (by omega)
  by_cases h78 : i < 84
  · exact rg_of mBQ_78 (by omega) (by omega)
  by_cases h84 : i < 90
  · exact rg_of mBQ_84 (by omega) (by omega)
  by_cases h90 : i < 96
  · exact rg_of mBQ_90 (by omega) (by omega)
  by_cases h96 : i < 102
  · exact rg_of mBQ_96 (by omega) (by omega)
  by_cases h102 : i < 108
  · exact rg_of mBQ_102 (by omega) (by omega)
  by_cases h108 : i < 114
  · exact rg_of mBQ_108 (by omega) (by omega)
  by_cases h114 : i < 120
  · exact rg_of mBQ_114 (by omega) (by omega)
  by_cases h120 : i < 126
  · exact rg_of mBQ_120 (by omega) (by omega)
  by_cases h126 : i < 129
  · exact rg_of mBQ_126 (by omega) (by omega)
  by_cases h129 : i < 132
  · exact rg_of mBQ_129 (by omega) (by omega)
  by_cases h132 : i < 135
  · exact rg_of mBQ_132 (by omega) (by omega)
  by_cases h135 : i < 138
  · exact rg_of mBQ_135 (by omega) (by omega)
  by_cases h138 : i < 141
  · exact rg_of mBQ_138 (by omega) (by omega)
  by_cases h141 : i < 144
  · exact rg_of mBQ_141 (by omega) (by omega)
  by_cases h144 : i < 147
  · exact rg_of mBQ_144 (by omega) (by omega)
  by_cases h147 : i < 150
  · exact rg_of mBQ_147 (by omega) (by omega)
  by_cases h150 : i < 153
  · exact rg_of mBQ_150 (by omega) (by omega)
  by_cases h153 : i < 156
  · exact rg_of mBQ_153 (by omega) (by omega)
  by_cases h156 : i < 159
  · exact rg_of mBQ_156 (by omega) (by omega)
  by_cases h159 : i < 162
  · exact rg_of mBQ_159 (by omega) (by omega)
  by_cases h162 : i < 165
  · exact rg_of mBQ_162 (by omega) (by omega)
  by_cases h165 : i < 168
  · exact rg_of mBQ_165 (by omega) (by omega)
  by_cases h168 : i < 171
  · exact rg_of mBQ_168 (by omega) (by omega)
  by_cases h171 : i < 174
  · exact rg_of mBQ_171 (by omega) (by omega)
  by_cases h174 : i < 177
  · exact rg_of mBQ_174 (by omega) (by omega)
  by_cases h177 : i < 180
  · exact rg_of mBQ_177 (by omega) (by omega)
  by_cases h180 : i < 183
  · exact rg_of mBQ_180 (by omega) (by omega)
  by_cases h183 : i < 186
  · exact rg_of mBQ_183 (by omega) (by omega)
  by_cases h186 : i < 189
  · exact rg_of mBQ_186 (by omega) (by omega)
  by_cases h189 : i < 192
  · exact rg_of mBQ_189 (by omega) (by omega)
  by_cases h192 : i < 195
  · exact rg_of mBQ_192 (by omega) (by omega)
  by_cases h195 : i < 198
  · exact rg_of mBQ_195 (by omega) (by omega)
  by_cases h198 : i < 201
  · exact rg_of mBQ_198 (by omega) (by omega)
  by_cases h201 : i < 204
  · exact rg_of mBQ_201 (by omega) (by omega)
  by_cases h204 : i < 207
  · exact rg_of mBQ_204 (by omega) (by omega)
  by_cases h207 : i < 210
  · exact rg_of mBQ_207 (by omega) (by omega)
  by_cases h210 : i < 213
  · exact rg_of mBQ_210 (by omega) (by omega)
  by_cases h213 : i < 216
  · exact rg_of mBQ_213 (by omega) (by omega)
  by_cases h216 : i < 217
  · exact rg_of mBQ_216 (by omega) (by omega)
  by_cases h217 : i < 218
  · exact rg_of mBQ_217 (by omega) (by omega)
  by_cases h218 : i < 219
  · exact rg_of mBQ_218 (by omega) (by omega)
  by_cases h219 : i < 220
  · exact rg_of mBQ_219 (by omega) (by omega)
  by_cases h220 : i < 221
  · exact rg_of mBQ_220 (by omega) (by omega)
  by_cases h221 : i < 222
  · exact rg_of mBQ_221 (by omega) (by omega)
  exact rg_of mBQ_222 (by omega) (by omega)
theorem mB_ok (x : Nat) (h : x < 223) : mB x = true := mBQ x h
