/-! THE PURE MACHINE: what the cells hold, as functions; what an instruction asks; what a method owes -/
-- the good words, which every method is handed
def lw_X : List Cond := [Cond.selects RJ4 yJ5_ensureCapacityInternal_d00df yJ5_ensureCapacityInternal_d00df, Cond.selects RJ4 yJ5_newCapacity_0f7a4 yJ5_newCapacity_0f7a4, Cond.selects RJ4 yJ5_putStringAt_47b60 yJ5_putStringAt_47b60, Cond.selects RJ4 yJ5_inflateIfNeededFor_a7421 yJ5_inflateIfNeededFor_a7421]
def lw_T : List Cond := lw_tbl.filter goodWord ++ lw_X
/-- words that stay by laws of their own -/
def isN : Cond → Bool
  | .declares _ => true
  | .castable _ _ => true
  | .fieldLinkNest _ _ _ _ _ _ => true
  | .methodLinkNest _ _ _ _ => true
  | _ => false
def lw_N : List Cond := lw_tbl.filter isN
theorem isN_on {w : Cond} (h : isN w = true) : w.onTables = true := by
  cases w <;> first | rfl | (simp [isN] at h; done)
theorem isN_warm {w : Cond} (h : isN w = true) {s U : State} (hW : s.WarmedH U.vm) (hZ : va_Nw w s) : va_Nw w U := by
  cases w <;> first | exact va_Nw.warmD hW hZ | exact va_Nw.warmC hW hZ | exact va_Nw.warmF hW hZ | exact va_Nw.warmM hW hZ | (simp [isN] at h; done)
def m_d (k : Nat) : m_E1 := m_tb.getD k (yL_law, cL_law, 9, some .boolean, [])
def m_y (k : Nat) : MethodName := (m_d k).1
def m_c (k : Nat) : ByteArray := (m_d k).2.1
def m_l (k : Nat) : Nat := (m_d k).2.2.1
def m_r (k : Nat) : Option FieldType := (m_d k).2.2.2.1
def m_hh (k : Nat) : List (Nat × Nat × Nat × Nat) := (m_d k).2.2.2.2
def m_o (k : Nat) : String := (m_y k).cls
def m_fr (k : Nat) : Nat := (m_rm.getD k (99, 0, 0, 0)).1
def m_lo (k : Nat) : Nat := (m_rm.getD k (99, 0, 0, 0)).2.1
def m_gc (k : Nat) : Nat := (m_rm.getD k (99, 0, 0, 0)).2.2.1
def m_gs (k : Nat) : Nat := (m_rm.getD k (99, 0, 0, 0)).2.2.2
/-- constructors whose new cells come in a row -/
def m_al (k : Nat) : Bool := m_alT.getD k 0 == 1
/-- numbers for classes, parameters, kinds (0 static, 1 virtual, 2 constructor) -/
def m_cn (n : Nat) : String := m_cnT.getD n ""
def m_on (k : Nat) : Nat := m_onT.getD k 0
def m_np (k : Nat) : Nat := m_npT.getD k 0
def m_ki (k : Nat) : Nat := m_kiT.getD k 9
def m_cl (c : Nat) : vw_C := vwCl.getD c (RX0, TX0, 3)
def m_ty (c : Nat) : Nat → FieldType := match c with
  | 0 => tyX0 | 1 => tyX1 | 2 => tyX2 | 3 => tyX3 | 4 => tyX4 | 5 => tyX5 | 6 => tyX6 | 7 => tyX7 | 8 => tyX8 | 9 => tyX9 | 10 => tyX10 | 11 => tyJ0 | _ => tyJ4
-- exception classes
def m_E (n : Nat) : String := match n with
  | 0 => "java/lang/IllegalStateException" | 1 => "java/lang/IllegalArgumentException" | 2 => "java/lang/IndexOutOfBoundsException" | _ => "java/util/NoSuchElementException"
-- element types of the arrays, by tag
def m_el (t : Nat) : FieldType := match t with
  | 0 => .int | 1 => .boolean | 2 => .byte | 3 => .byte | 4 => .long | 5 => .object RX2 | _ => .array .int
def m_tys (aC : Nat → Nat) : List (ClassId × FieldType) := [(aC 0, .int), (aC 1, .boolean), (aC 2, .byte), (aC 3, .byte), (aC 4, .long), (aC 5, .object RX2), (aC 6, .array .int)]
/-- the world: what lies where (shape), ints, longs, references, how many cells -/
abbrev mW : Type := (Nat → Nat × Nat) × (Nat → Nat → Int32) × (Nat → Nat → Int64) × (Nat → Nat → Option Nat) × Nat
abbrev mO : Type := Option Value ⊕ Nat
/-- cells and slots at hand; whether new cells may come (they then come in a row) -/
abbrev mG : Type := Nat × Nat × Bool
abbrev mK : Type := List Value → List Value → mW → mG → Prop
abbrev PI : Type := Nat × Instr × Nat × Nat × Nat × Nat × Nat
def w_sh (w : mW) : Nat → Nat × Nat := w.1
def w_I (w : mW) : Nat → Nat → Int32 := w.2.1
def w_J (w : mW) : Nat → Nat → Int64 := w.2.2.1
def w_R (w : mW) : Nat → Nat → Option Nat := w.2.2.2.1
def w_n (w : mW) : Nat := w.2.2.2.2
def s_A (w : mW) (a : Nat) (f : Nat → Int32) : mW := (w.1, (fun b => if b = a then f else w.2.1 b), w.2.2)
def s_I (w : mW) (a i : Nat) (x : Int32) : mW := s_A w a (upd (w_I w a) i x)
def s_J (w : mW) (a i : Nat) (x : Int64) : mW := (w.1, w.2.1, (fun b => if b = a then vp_updL (w.2.2.1 a) i x else w.2.2.1 b), w.2.2.2)
def s_R (w : mW) (a i : Nat) (r : Option Nat) : mW := (w.1, w.2.1, w.2.2.1, (fun b => if b = a then va_up (w.2.2.2.1 a) i r else w.2.2.2.1 b), w.2.2.2.2)
def s_N (w : mW) (z : Nat × Nat) : mW := ((fun b => if b = 100 + w_n w then z else w.1 b), (fun b => if b = 100 + w_n w then (fun _ => 0) else w.2.1 b), (fun b => if b = 100 + w_n w then (fun _ => 0) else w.2.2.1 b), (fun b => if b = 100 + w_n w then (fun _ => none) else w.2.2.2.1 b), w_n w + 1)
-- locals
def v_c2 : Value → Bool
  | .long _ => true
  | .double _ => true
  | _ => false
def lgt : List Value → Nat → Value
  | [], _ => .null
  | a :: _, 0 => a
  | _ :: l, n + 1 => lgt l n
def lpu : List Value → Nat → Value → List Value
  | [], _, _ => []
  | _ :: l, 0, v => v :: l
  | a :: l, 1, v => (if v_c2 a then .null else a) :: (match l with | [] => [] | _ :: l => v :: l)
  | a :: l, n + 2, v => a :: lpu l (n + 1) v
def lpw (L : List Value) (n : Nat) (v : Value) : List Value := lpu (lpu L (n + 1) .null) n v
def l_in : List Value → List Value
  | [] => []
  | a :: l => if v_c2 a then a :: .null :: l_in l else a :: l_in l
def l_en (k : Nat) (args : List Value) : List Value := l_in args ++ List.replicate (m_l k - (l_in args).length) .null
def asc : Nat → List Value → List (Nat × Value)
  | _, [] => []
  | i, a :: l => if a = .null then asc (i + 1) l else (i, a) :: asc (i + 1) l
-- comparisons
def icm (c : ClassFile.Cond) (x y : Int32) : Prop := match c with
  | .eq => x = y | .ne => ¬ x = y | .lt => x < y | .ge => y ≤ x | .gt => y < x | .le => x ≤ y
def pw10 (j : Nat) : Int64 := Int64.ofNat (10 ^ j)
/-- texts of the constants, by their number -/
def s_tx (j : Nat) : String := (m_str.getD j ("", 0, "")).2.2
def s_len (j : Nat) : Nat := (s_tx j).toList.length
def s_ch (j i : Nat) : Int32 := Int32.ofNat ((s_tx j).toList.getD i 'a').toNat
/-- places passed over: the next new cell is n -/
def s_K (w : mW) (n : Nat) : mW := (w.1, w.2.1, w.2.2.1, w.2.2.2.1, n)
/-- a copy of the row at a, in a new cell -/
def s_C (w : mW) (a : Nat) : mW := s_A (s_N w (w_sh w a)) (100 + w_n w) (w_I w a)
