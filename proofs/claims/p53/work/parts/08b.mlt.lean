/-! the links of the methods, in stretches -/
theorem mlQ_0 : (List.range' 0 35).all mlP = true := by decide +kernel
theorem mlQ_35 : (List.range' 35 35).all mlP = true := by decide +kernel
theorem mlQ_70 : (List.range' 70 35).all mlP = true := by decide +kernel
theorem mlQ_105 : (List.range' 105 35).all mlP = true := by decide +kernel
theorem mlQ_140 : (List.range' 140 35).all mlP = true := by decide +kernel
theorem mlQ_175 : (List.range' 175 35).all mlP = true := by decide +kernel
theorem mlQ_210 : (List.range' 210 35).all mlP = true := by decide +kernel
theorem mlQ_245 : (List.range' 245 14).all mlP = true := by decide +kernel
theorem mlQ (i : Nat) (hi : i < 259) : mlP i = true := by
  by_cases h0 : i < 35
  · exact rg_of mlQ_0 (by omega) (by omega)
  by_cases h35 : i < 70
  · exact rg_of mlQ_35 (by omega) (by omega)
  by_cases h70 : i < 105
  · exact rg_of mlQ_70 (by omega) (by omega)
  by_cases h105 : i < 140
  · exact rg_of mlQ_105 (by omega) (by omega)
  by_cases h140 : i < 175
  · exact rg_of mlQ_140 (by omega) (by omega)
  by_cases h175 : i < 210
  · exact rg_of mlQ_175 (by omega) (by omega)
  by_cases h210 : i < 245
  · exact rg_of mlQ_210 (by omega) (by omega)
  exact rg_of mlQ_245 (by omega) (by omega)
theorem mlT_ok : ∀ e ∈ mlT, Cond.methodLink (m_cn e.1) e.2.1 (m_y e.2.2) ∈ lw_tbl := by
  intro e he
  obtain ⟨i, hi, rfl⟩ := List.getElem_of_mem he
  have hl : mlT.length = 259 := by decide +kernel
  have := mlQ i (hl ▸ hi)
  rw [mlP, List.getElem?_eq_getElem hi] at this
  exact of_decide_eq_true this
