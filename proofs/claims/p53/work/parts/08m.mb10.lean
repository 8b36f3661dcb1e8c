/-! the tables of the methods, stretch 10 -/
/-- the longest method's word, by its place -/
theorem mw_219 : m_w 219 ∈ lw_tbl := by
  have h : m_w 219 ∈ tables_1_5 := List.mem_of_getElem? (i := 190) rfl
  exact List.mem_append_right _ (List.mem_append_right _ (List.mem_append_right _ (List.mem_append_right _ (List.mem_append_right _ (List.mem_append_left _ h)))))
def mBq (x : Nat) : Bool := ((plainFor (m_y x) && (decide (m_hh x = []) || plainName (m_y x).cls)) && decide ((m_y x).cls ≠ "java/lang/invoke/MethodHandle" ∧ (m_y x).cls ≠ "java/lang/invoke/VarHandle" ∧ (parseMethodDescriptor (m_y x).desc).map (fun d => d.parameters.length) = some (m_np x)) && true && goodWord (m_w x) && decide (Cond.initialized (m_y x).cls ∈ lw_tbl)) && (match m_ki x with
  | 0 => decide (Cond.static (m_y x) ∈ lw_tbl) && !(m_al x)
  | 1 => decide (Cond.instanceMethod (m_y x) ∈ lw_tbl) && (decide (m_on x = 14) || decide (Cond.selects (m_y x).cls (m_y x) (m_y x) ∈ lw_tbl)) && !(m_al x)
  | _ => decide (Cond.instanceMethod (m_y x) ∈ lw_tbl) && decide ((m_y x).name = "<init>"))
theorem mB_of {x : Nat} (hw : m_w x ∈ lw_tbl) (h : mBq x = true) : mB x = true := by
  unfold mB c_mt
  rw [decide_eq_true hw]
  exact h
theorem mBQ_219 : (List.range' 219 1).all mB = true := by
  have h := mB_of mw_219 (by decide +kernel)
  show (mB 219 && true) = true
  rw [h]
  rfl
theorem mBQ_220 : (List.range' 220 1).all mB = true := by decide +kernel
