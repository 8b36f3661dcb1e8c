/-! what the check of an entry says -/
def lnI (i : Instr) (v : Nat) : Nat := match i with
  | .iload _ => 2 | .aload _ => 2 | .lload _ => 2 | .dload _ => 2 | .istore _ => 2 | .astore _ => 2 | .lstore _ => 2 | .dstore _ => 2 | .bipush _ => 2 | .ldc _ => 2 | .newarray _ => 2
  | .iinc _ _ => 3 | .sipush _ => 3 | .ldc_w _ => 3 | .ldc2_w _ => 3 | .ifCond _ _ => 3 | .if_icmp _ _ => 3 | .goto _ => 3 | .getfield _ => 3 | .putfield _ => 3 | .getstatic _ => 3 | .anewarray _ => 3 | .new _ => 3 | .invokevirtual _ => 3 | .invokespecial _ => 3 | .invokestatic _ => 3 | .checkcast _ => 3 | .ifnonnull _ => 3
  | .tableswitch _ _ _ _ => v
  | _ => 1
def kd : FieldType → Nat
  | .long => 1 | .object _ => 2 | .array _ => 2 | .float => 9 | .double => 9 | _ => 0
def thB (k pc ik is ic E : Nat) (wide : Bool) : Bool := decide (E < 4) && decide (m_fr k ≥ 6) && decide (m_lo k ≥ 90) && decide (m_hh k = []) && decide ((m_o k, is) ∈ m_thr.map (fun q => (q.1, q.2.1))) && decide (Cond.classLink (m_o k) ik (m_E E) ∈ lw_tbl) && decide (Cond.initialized (m_E E) ∈ lw_tbl) &&
  (thW (m_o k) ic E).all (fun w => decide (w ∈ lw_tbl) && (goodWord w || isN w)) &&
  (Cond.classLink (m_o k) ik (m_E E) :: Cond.initialized (m_E E) :: thW (m_o k) ic E).all vx_ot &&
  decide (decode (m_c k) pc = .ok (.new ik, 3)) && decide (decode (m_c k) (pc + 3) = .ok (.dup, 1)) &&
  (match wide with
    | false => !decide (E = 3) && decide (decode (m_c k) (pc + 4) = .ok (.ldc is, 2)) && decide (decode (m_c k) (pc + 6) = .ok (.invokespecial ic, 3)) && decide (decode (m_c k) (pc + 9) = .ok (.athrow, 1))
    | true => decide (decode (m_c k) (pc + 4) = .ok (.ldc_w is, 3)) && decide (decode (m_c k) (pc + 7) = .ok (.invokespecial ic, 3)) && decide (decode (m_c k) (pc + 10) = .ok (.athrow, 1)))
theorem thI_of {k pc ik is ic E : Nat} {wide : Bool} (h : thB k pc ik is ic E wide = true) : thI k pc E := by
  simp only [thB, Bool.and_eq_true, decide_eq_true_eq] at h
  obtain ⟨⟨⟨⟨⟨⟨⟨⟨⟨⟨⟨a1, a2⟩, a3⟩, a4⟩, a5⟩, a6⟩, a7⟩, a8⟩, a9⟩, a10⟩, a11⟩, a12⟩ := h
  refine ⟨a1, a2, a3, a4, ik, is, ic, ?_, T_mem a6 rfl, T_mem a7 rfl, fun w hw => ?_, fun w hw => List.all_eq_true.mp a9 w hw, a10, a11, ?_⟩
  · obtain ⟨q, hq, he⟩ := List.mem_map.mp a5
    refine ⟨q.2.2, ?_⟩
    obtain ⟨q1, q2, q3⟩ := q
    cases he
    exact hq
  · have := List.all_eq_true.mp a8 w hw
    simp only [Bool.and_eq_true, decide_eq_true_eq] at this
    exact this
  · cases wide with
    | false =>
      simp only [Bool.and_eq_true, decide_eq_true_eq] at a12
      exact Or.inl ⟨by simpa using a12.1.1.1, a12.1.1.2, a12.1.2, a12.2⟩
    | true =>
      simp only [Bool.and_eq_true, decide_eq_true_eq] at a12
      exact Or.inr ⟨a12.1.1, a12.1.2, a12.2⟩
/-- the one handler, of IllegalStateException, answers -1000 -/
def hdB (k pc : Nat) : Bool := decide (m_r k = some .int) && (match m_hh k with
  | [(f, t, h, ct)] => decide (f ≤ pc ∧ pc < t) && decide (ct ≠ 0) && decide (Cond.classLink (m_o k) ct (m_E 0) ∈ lw_tbl) &&
    ((List.range 4).any fun j => decide (j < m_l k) && decide (decode (m_c k) h = .ok (.astore_n (Fin.ofNat 4 j), 1)) && decide (decode (m_c k) (h + 1) = .ok (.sipush (-1000), 3)) && decide (decode (m_c k) (h + 4) = .ok (.ireturn, 1)))
  | _ => false)
def m_ho (h : Nat) : String := if h = 0 then "CrankCalculator" else "CrankCalculatorLaw"
def objClone : MethodName := ⟨"java/lang/Object", "clone", "()Ljava/lang/Object;"⟩
/-- the name of the class of rows of ints, or of bytes -/
def m_ad (x : Nat) : String := if x = 0 then "[I" else "[B"
def xI (k pc : Nat) (i : Instr) (x y z u v : Nat) : Bool := match i with
  | .bipush d => decide ((Int8.ofInt d).toInt32 = Int32.ofInt d)
  | .sipush d => decide ((Int16.ofInt d).toInt32 = Int32.ofInt d)
  | .fconst n => decide (n = 1)
  | .ldc idx => match y with
    | 0 => decide (Cond.constant (m_o k) idx (Int32.ofNat z) ∈ lw_tbl)
    | _ => decide (2 ≤ x ∧ x < 18) && decide ((m_str[x - 2]?).map (fun q => (q.1, q.2.1)) = some (m_o k, idx))
  | .ldc_w idx => match y with
    | 0 => decide (Cond.constant (m_o k) idx (Int32.ofNat z) ∈ lw_tbl)
    | _ => decide (2 ≤ x ∧ x < 18) && decide ((m_str[x - 2]?).map (fun q => (q.1, q.2.1)) = some (m_o k, idx))
  | .ldc2_w idx => decide (Cond.constantLong (m_o k) idx (Int64.ofNat z) ∈ lw_tbl)
  | .ifCond _ off => decide ((pc : Int) + off = x)
  | .if_icmp _ off => decide ((pc : Int) + off = x)
  | .goto off => decide ((pc : Int) + off = x)
  | .tableswitch d lo hi offs => decide (0 ≤ (pc : Int) + d) && offs.toList.all (fun o => decide (0 ≤ (pc : Int) + o)) && decide ((offs.size : Int) = hi - lo + 1)
  | .ifnonnull off => decide ((pc : Int) + off = x)
  | .checkcast idx => decide (x = 0 ∨ x = 2) && decide (Cond.classLink (m_o k) idx (m_ad x) ∈ lw_tbl)
  | .getfield idx => decide (x < 13 ∧ y < (m_cl x).2.2) && (match z with | 4 => decide (x = 11 ∧ y = 0) | 5 => decide (x = 11 ∧ y = 1) | _ => decide (kd (m_ty x y) = z)) &&
    (match u with | 0 => decide ((m_on k, idx, x, y) ∈ flT) | _ => decide (z < 3) && decide ((m_on k, idx, x, y) ∈ fnT)) && decide (k < 224)
  | .putfield idx => decide (x < 13 ∧ y < (m_cl x).2.2) && (match u with | 0 => decide ((m_on k, idx, x, y) ∈ flT) | _ => decide (((m_cl x).2.1 y).2.2.2 = false) && decide ((m_on k, idx, x, y) ∈ fnT)) && decide (k < 224) &&
    (match z with | 0 => decide (m_ty x y = .int) | 1 => decide (m_ty x y = .long) | 2 => decide (kd (m_ty x y) = 2) | _ => decide (m_ty x y = .boolean ∨ m_ty x y = .byte)) &&
    (match ((m_cl x).2.1 y).2.2.2 with | false => true | true => decide ((m_y k).name = "<init>") && decide (((m_cl x).2.1 y).1 = m_o k))
  | .getstatic idx => match x with
    | 1 => decide (Cond.fieldLinkNest (m_o k) idx "CrankCalculator" "POWERS_OF_TEN" "[J" "CrankCalculator" ∈ lw_tbl)
    | 2 => decide (Cond.fieldLink (m_o k) idx "java/lang/String" "COMPACT_STRINGS" "Z" ∈ lw_tbl)
    | 3 => decide (Cond.fieldLink (m_o k) idx "java/lang/Integer" "DigitOnes" "[B" ∈ lw_tbl)
    | 4 => decide (Cond.fieldLink (m_o k) idx "java/lang/Integer" "DigitTens" "[B" ∈ lw_tbl)
    | _ => decide (Cond.fieldLink (m_o k) idx "jdk/internal/util/Preconditions" "SIOOBE_FORMATTER" "Ljava/util/function/BiFunction;" ∈ lw_tbl)
  | .baload => decide (x = 1 ∨ x = 2 ∨ x = 60)
  | .aaload => decide (x = 5 ∨ x = 6)
  | .aastore => decide (x = 5 ∨ x = 6)
  | .arraylength => match z with
    | 4 => true
    | _ => decide (x < 7 ∨ x = 49)
  | .newarray t => decide (x < 5) && decide (newarray.typeOf t = m_el x) && decide (Cond.arrayClass (newarray.typeOf t) ∈ lw_tbl)
  | .anewarray idx => (decide (x = 5) && decide (Cond.classLink (m_o k) idx RX2 ∈ lw_tbl)) || (decide (x = 6) && decide (Cond.classLink (m_o k) idx "[I" ∈ lw_tbl))
  | .new idx => match z with
    | 0 => decide (x < 13) && decide (Cond.classLink (m_o k) idx (m_cl x).1 ∈ lw_tbl) && decide (Cond.instantiable (m_cl x).1 (m_cl x).2.2 ∈ lw_tbl) && decide (Cond.initialized (m_cl x).1 ∈ lw_tbl)
    | _ => thB k pc idx u v x (y == 1)
  | .invokevirtual idx => match z with
    | 3 => decide (Cond.methodLink (m_o k) idx yJ0_length_8abf5 ∈ lw_tbl) && decide (4 ≤ m_fr k ∧ 106 ≤ m_lo k)
    | 4 => decide (Cond.methodLink (m_o k) idx yJ0_charAt_5068e ∈ lw_tbl) && decide (4 ≤ m_fr k ∧ 106 ≤ m_lo k)
    | 6 => decide (x = 0 ∨ x = 2) && decide (Cond.methodLink (m_o k) idx ⟨m_ad x, "clone", "()Ljava/lang/Object;"⟩ ∈ lw_tbl) && decide (Cond.sameMethod (m_ad x) "java/lang/Object" "clone" "()Ljava/lang/Object;" ∈ lw_tbl) && decide (Cond.native objClone ∈ lw_tbl) && decide (Cond.instanceMethod objClone ∈ lw_tbl) &&
        decide (Cond.selects (m_ad x) ⟨m_ad x, "clone", "()Ljava/lang/Object;"⟩ objClone ∈ lw_tbl) && decide (Cond.castable (m_ad x) "java/lang/Cloneable" ∈ lw_tbl) && decide (1 ≤ m_fr k ∧ 26 ≤ m_lo k)
    | 7 => c_rm k x && decide (y = m_np x + 1) && decide (m_ki x = 1) && decide ((m_on k, idx, x) ∈ mlT) && decide (m_hh x = []) && decide (u = m_gc x ∧ v = m_gs x) && decide (k < 224 ∧ x < 223) &&
        (decide ((m_y x).cls = RJ5) && decide (Cond.selects RJ4 (m_y x) (m_y x) ∈ lw_tbl) && decide (Cond.sameMethod RJ5 RJ5 (m_y x).name (m_y x).desc ∈ lw_tbl))
    | 8 => c_rm k x && decide (y = m_np x + 1) && decide (m_ki x = 1) && decide ((m_on k, idx, x) ∈ mlT) && decide (m_hh x = []) && decide (u = m_gc x ∧ v = m_gs x) && decide (k < 224 ∧ x < 223) &&
        (decide ((m_y x).cls = RJ5) && decide (Cond.selects RJ4 (m_y x) (m_y x) ∈ lw_X) && decide (Cond.sameMethod RJ5 RJ5 (m_y x).name (m_y x).desc ∈ lw_tbl))
    | 9 => c_rm k x && decide (y = m_np x + 1) && decide (m_ki x = 1) && decide (m_hh x = []) && decide (u = m_gc x ∧ v = m_gs x) && decide (k < 224 ∧ x < 223) &&
        (decide (x = n_J4_length_8abf5) && decide (Cond.methodLink (m_o k) idx yJ5_length_8abf5 ∈ lw_tbl))
    | 21 => c_rm k x && decide (y = m_np x + 1) && decide (m_ki x = 1) && decide ((m_on k, idx, x) ∈ mlT) && decide (11 = m_on x) && decide (m_hh x = []) && decide (u = m_gc x ∧ v = m_gs x) && decide (k < 224 ∧ x < 223)
    | _ => c_rm k x && decide (y = m_np x + 1) && decide (m_ki x = 1) && decide ((m_on k, idx, x) ∈ mlT) && decide (z - 10 = m_on x) && decide (z - 10 < 13) && decide (m_hh x = []) && decide (u = m_gc x ∧ v = m_gs x) && decide (k < 224 ∧ x < 223) && (decide (m_hh k = []) || hdB k pc)
  | .invokespecial idx => match z with
    | 1 => decide (Cond.methodLink (m_o k) idx objectInit ∈ lw_tbl) && decide (Cond.instanceMethod objectInit ∈ lw_tbl) && decide (Cond.code objectInit ⟨#[0xb1]⟩ 1 none ∈ lw_tbl) && decide (1 ≤ m_fr k ∧ 20 ≤ m_lo k)
    | 6 => c_rm k x && decide (y = m_np x + 1) && decide (m_ki x = 2) && decide ((m_on k, idx, x) ∈ mlT) && decide (m_r x = none) && decide (m_hh x = []) && decide (u = m_gc x ∧ v = m_gs x) && decide (k < 224 ∧ x < 223) && decide (m_al x = false)
    | 7 => c_rm k x && decide (y = m_np x + 1) && decide (m_ki x = 1) && decide ((m_on k, idx, x) ∈ mlT) && decide (m_hh x = []) && decide (u = m_gc x ∧ v = m_gs x) && decide (k < 224 ∧ x < 223) &&
        (decide (m_o k = RJ4) && decide ((m_y x).cls = RJ5) && decide (Cond.sameMethod RJ5 RJ5 (m_y x).name (m_y x).desc ∈ lw_tbl) && decide (Cond.superclass RJ4 RJ5 ∈ lw_tbl) && decide ((m_y x).name ≠ "<init>"))
    | _ => c_rm k x && decide (y = m_np x + 1) && decide (m_ki x = 2) && (decide ((m_on k, idx, x) ∈ mlT) || decide ((m_on k, idx, x) ∈ mnT.map (fun e => (e.1, e.2.1, e.2.2.1)))) && decide (m_r x = none) && decide (m_hh x = []) && decide (u = m_gc x ∧ v = m_gs x) && decide (k < 224 ∧ x < 223)
  | .invokestatic idx => match z with
    | 2 => decide (x = 0 ∨ x = 2) && decide (Cond.methodLink (m_o k) idx arraycopyName ∈ lw_tbl) && decide (Cond.native arraycopyName ∈ lw_tbl) && decide (Cond.static arraycopyName ∈ lw_tbl) && decide (Cond.initialized "java/lang/System" ∈ lw_tbl) && decide (1 ≤ m_fr k ∧ 26 ≤ m_lo k)
    | 8 => c_rm k x && decide (y = m_np x) && decide (m_ki x = 0) && decide ((m_on k, idx, x) ∈ mnT.map (fun e => (e.1, e.2.1, e.2.2.1))) && decide (m_hh x = []) && decide (u = m_gc x ∧ v = m_gs x) && decide (k < 224 ∧ x < 223)
    | _ => c_rm k x && decide (y = m_np x) && decide (m_ki x = 0) && decide ((m_on k, idx, x) ∈ mlT) && decide (u = m_gc x ∧ v = m_gs x) && decide (k < 224 ∧ x < 223)
  | .ireturn => decide (m_r k = some .int) || decide (m_r k = some .boolean) || decide (m_r k = some .byte) || decide (m_r k = some .char)
  | .areturn => match m_r k with | some (.object _) => true | some (.array _) => true | _ => false
  | .lreturn => decide (m_r k = some .long)
  | .freturn => decide (m_r k = some .float)
  | .return_ => decide (m_r k = none)
  | _ => true
/-- an entry is the code's -/
def vI (k : Nat) (q : PI) (nx : Nat) : Bool := match q with
  | (pc, i, x, y, z, u, v) => decide (nx = pc + lnI i v) && decide (decode (m_c k) pc = .ok (i, lnI i v)) && xI k pc i x y z u v
/-- the tables' rows, all at once -/
def mB (x : Nat) : Bool := c_mt x (m_np x) && (match m_ki x with
  | 0 => decide (Cond.static (m_y x) ∈ lw_tbl) && !(m_al x)
  | 1 => decide (Cond.instanceMethod (m_y x) ∈ lw_tbl) && (decide (m_on x = 14) || decide (Cond.selects (m_y x).cls (m_y x) (m_y x) ∈ lw_tbl)) && !(m_al x)
  | _ => decide (Cond.instanceMethod (m_y x) ∈ lw_tbl) && decide ((m_y x).name = "<init>"))
theorem on_ok : ∀ k, k < 224 → m_o k = m_cn (m_on k) := by decide +kernel
theorem cn_ok : ∀ c, c < 13 → (m_cl c).1 = m_cn c := by decide +kernel
theorem flT_ok : ∀ e ∈ flT, Cond.fieldLink (m_cn e.1) e.2.1 ((m_cl e.2.2.1).2.1 e.2.2.2).1 ((m_cl e.2.2.1).2.1 e.2.2.2).2.1 ((m_cl e.2.2.1).2.1 e.2.2.2).2.2.1 ∈ lw_tbl := by decide +kernel
def mlP (i : Nat) : Bool := match mlT[i]? with
  | some e => decide (Cond.methodLink (m_cn e.1) e.2.1 (m_y e.2.2) ∈ lw_tbl)
  | none => true
theorem rg_of {p : Nat → Bool} {a n : Nat} (h : (List.range' a n).all p = true) {i : Nat} (h1 : a ≤ i) (h2 : i < a + n) : p i = true :=
  List.all_eq_true.mp h i (by simp [List.mem_range'_1]; omega)
theorem fnT_ok : ∀ e ∈ fnT, Cond.fieldLinkNest (m_cn e.1) e.2.1 ((m_cl e.2.2.1).2.1 e.2.2.2).1 ((m_cl e.2.2.1).2.1 e.2.2.2).2.1 ((m_cl e.2.2.1).2.1 e.2.2.2).2.2.1 "CrankCalculatorLaw" ∈ lw_tbl := by decide +kernel
theorem mnT_ok0 : ∀ e ∈ mnT, Cond.methodLinkNest (m_cn e.1) e.2.1 (m_y e.2.2.1) (m_ho e.2.2.2) ∈ lw_tbl := by decide +kernel
theorem mnT_ok {a b c : Nat} (h : (a, b, c) ∈ mnT.map (fun e => (e.1, e.2.1, e.2.2.1))) : ∃ ho, Cond.methodLinkNest (m_cn a) b (m_y c) ho ∈ lw_tbl := by
  obtain ⟨e, he, h2⟩ := List.mem_map.mp h
  cases h2
  exact ⟨_, mnT_ok0 e he⟩
theorem cl_at {c : Nat} (h : c < 13) : vwCl[c]? = some (m_cl c) := by
  have h1 : c < vwCl.length := h
  rw [m_cl, List.getD_eq_getElem?_getD, List.getElem?_eq_getElem h1]
  rfl
theorem F_in : ∀ c, c < 13 → ∀ w ∈ u_ws (m_cl c).1 (m_cl c).2.1 (m_cl c).2.2, w ∈ lw_T := by decide +kernel
theorem F_ty : ∀ c, c < 13 → ∀ k, k < (m_cl c).2.2 → parseFieldDescriptor ((m_cl c).2.1 k).2.2.1 = some (m_ty c k) := by decide +kernel
theorem F_nm : ∀ c, c < 13 → ∀ a, a < (m_cl c).2.2 → ∀ b, b < (m_cl c).2.2 → a ≠ b → ((m_cl c).2.1 a).2.1 ≠ ((m_cl c).2.1 b).2.1 := by decide +kernel
theorem kd_ty : ∀ c, c < 13 → ∀ k, k < (m_cl c).2.2 → kd (m_ty c k) < 3 := by decide +kernel
section CELLS
variable {ba : Nat} {xa aC : Nat → Nat} {D : va_G} {w : mW} {s : State} {H : Heap}
theorem Sim.in (hM : Sim ba xa aC D w s H) {a : Nat} (h : (w_sh w a).1 < 50) : 100 ≤ a ∧ a < 100 + w_n w := by
  refine ⟨Nat.le_of_not_lt fun q => ?_, Nat.lt_of_not_le fun q => ?_⟩
  · have := hM.2.1 a q; omega
  · have := hM.2.2.1 a q; omega
theorem Sim.obj (hM : Sim ba xa aC D w s H) {a c : Nat} (h : w_sh w a = (0, c)) : (wld ba xa aC w)[ix w a]? = some (sgm ba xa a, .inr (c, flds ba xa w c a)) := by
  obtain ⟨h1, h2⟩ := hM.in (a := a) (by rw [h]; simp)
  rw [wld_at h1 h2 (by rw [h]; show 0 < 50; omega), cel, h]
  rfl
theorem Sim.arr (hM : Sim ba xa aC D w s H) {a t : Nat} (h : (w_sh w a).1 = t + 1) (ht : t < 10) : (wld ba xa aC w)[ix w a]? = some (sgm ba xa a, .inl (aC t, (w_sh w a).2, arc ba xa w (t + 1) a)) := by
  obtain ⟨h1, h2⟩ := hM.in (a := a) (by omega)
  rw [wld_at h1 h2 (by omega), cel, h]
  simp
theorem flds_at {c a y : Nat} (h : y < (m_cl c).2.2) : (flds ba xa w c a)[y]? = some (fld ba xa w c a y) := by
  simp [flds, h]
theorem fld_0 {c a y : Nat} (h : kd (m_ty c y) = 0) : fld ba xa w c a y = .int (w_I w a y) := by
  unfold fld; cases hh : m_ty c y <;> rw [hh] at h <;> simp [kd] at h <;> rfl
theorem fld_1 {c a y : Nat} (h : kd (m_ty c y) = 1) : fld ba xa w c a y = .long (w_J w a y) := by
  unfold fld; cases hh : m_ty c y <;> rw [hh] at h <;> simp [kd] at h <;> rfl
theorem fld_2 {c a y : Nat} (h : kd (m_ty c y) = 2) : fld ba xa w c a y = va_rf ((w_R w a y).map (sgm ba xa)) := by
  unfold fld; cases hh : m_ty c y <;> rw [hh] at h <;> simp [kd] at h <;> rfl
theorem tr_rf (r : Option Nat) : trv ba xa (va_rf r) = va_rf (r.map (sgm ba xa)) := by cases r <;> rfl
theorem map_set {N : Nat} (f : Nat → Value) (y : Nat) (v : Value) : ((List.range N).map f).set y v = (List.range N).map (fun j => if j = y then v else f j) := by
  apply List.ext_getElem?
  intro i
  rw [List.getElem?_set]
  by_cases hi : i < N
  · by_cases hy : y = i
    · subst hy; simp [hi]
    · simp [hi, hy, Ne.symm hy]
  · by_cases hy : y = i
    · subst hy; simp [hi]
    · simp [hi, hy]
theorem cel_A {a b : Nat} {f : Nat → Int32} (h : b ≠ a) : cel ba xa aC (s_A w a f) b = cel ba xa aC w b := by
  have e : w_I (s_A w a f) b = w_I w b := by simp [w_I, s_A, h]
  have e2 : ∀ c, fld ba xa (s_A w a f) c b = fld ba xa w c b := fun c => by funext j; unfold fld; rw [e]; rfl
  simp only [cel, flds, arc, e, e2]
  rfl
theorem cel_J {a b i : Nat} {v : Int64} (h : b ≠ a) : cel ba xa aC (s_J w a i v) b = cel ba xa aC w b := by
  have e : w_J (s_J w a i v) b = w_J w b := by simp [w_J, s_J, h]
  have e2 : ∀ c, fld ba xa (s_J w a i v) c b = fld ba xa w c b := fun c => by funext j; unfold fld; rw [e]; rfl
  simp only [cel, flds, arc, e, e2]
  rfl
theorem cel_R {a b i : Nat} {v : Option Nat} (h : b ≠ a) : cel ba xa aC (s_R w a i v) b = cel ba xa aC w b := by
  have e : w_R (s_R w a i v) b = w_R w b := by simp [w_R, s_R, h]
  have e2 : ∀ c, fld ba xa (s_R w a i v) c b = fld ba xa w c b := fun c => by funext j; unfold fld; rw [e]; rfl
  simp only [cel, flds, arc, e, e2]
  rfl
theorem cel_I0 {a c y : Nat} {v : Int32} (h : w_sh w a = (0, c)) (hk : kd (m_ty c y) = 0) : cel ba xa aC (s_I w a y v) a = .inr (c, (flds ba xa w c a).set y (.int v)) := by
  have h' : w_sh (s_I w a y v) a = (0, c) := h
  rw [cel, h']
  simp only [if_true, flds, map_set]
  congr 2
  apply List.map_congr_left
  intro j _
  by_cases hj : j = y
  · subst hj
    rw [fld_0 hk, if_pos rfl]
    simp [w_I, s_I, s_A, upd]
  · rw [if_neg hj]
    unfold fld
    have e : w_I (s_I w a y v) a j = w_I w a j := by simp [w_I, s_I, s_A, upd, hj]
    rw [e]
    rfl
theorem cel_J0 {a c y : Nat} {v : Int64} (h : w_sh w a = (0, c)) (hk : kd (m_ty c y) = 1) : cel ba xa aC (s_J w a y v) a = .inr (c, (flds ba xa w c a).set y (.long v)) := by
  have h' : w_sh (s_J w a y v) a = (0, c) := h
  rw [cel, h']
  simp only [if_true, flds, map_set]
  congr 2
  apply List.map_congr_left
  intro j _
  by_cases hj : j = y
  · subst hj
    rw [fld_1 hk, if_pos rfl]
    simp [w_J, s_J, vp_updL]
  · rw [if_neg hj]
    unfold fld
    have e : w_J (s_J w a y v) a j = w_J w a j := by simp [w_J, s_J, vp_updL, hj]
    rw [e]
    rfl
theorem cel_R0 {a c y d : Nat} (h : w_sh w a = (0, c)) (hk : kd (m_ty c y) = 2) : cel ba xa aC (s_R w a y (some d)) a = .inr (c, (flds ba xa w c a).set y (.ref (sgm ba xa d))) := by
  have h' : w_sh (s_R w a y (some d)) a = (0, c) := h
  rw [cel, h']
  simp only [if_true, flds, map_set]
  congr 2
  apply List.map_congr_left
  intro j _
  by_cases hj : j = y
  · subst hj
    rw [fld_2 hk, if_pos rfl]
    simp [w_R, s_R, va_up, va_rf]
  · rw [if_neg hj]
    unfold fld
    have e : w_R (s_R w a y (some d)) a j = w_R w a j := by simp [w_R, s_R, va_up, hj]
    rw [e]
    rfl
theorem cel_Aa {a t : Nat} {f : Nat → Int32} (h : (w_sh w a).1 = t + 1) (ht : t < 4) : cel ba xa aC (s_A w a f) a = .inl (aC t, (w_sh w a).2, .inl f) := by
  have h' : w_sh (s_A w a f) a = w_sh w a := rfl
  have e : w_I (s_A w a f) a = f := by simp [w_I, s_A]
  rw [cel, h', h]
  simp [arc, e, show ¬ t = 4 by omega, show ¬ t = 5 by omega, show ¬ t = 6 by omega]
theorem cel_Ja {a i : Nat} {v : Int64} (h : (w_sh w a).1 = 5) : cel ba xa aC (s_J w a i v) a = .inl (aC 4, (w_sh w a).2, .inr (.inl (vp_updL (w_J w a) i v))) := by
  have h' : w_sh (s_J w a i v) a = w_sh w a := rfl
  have e : w_J (s_J w a i v) a = vp_updL (w_J w a) i v := by simp [w_J, s_J]
  rw [cel, h', h]
  simp [arc, e]
theorem cel_Ra {a i d : Nat} (h : (w_sh w a).1 = 6) : cel ba xa aC (s_R w a i (some d)) a = .inl (aC 5, (w_sh w a).2, .inr (.inr (.inr (.inr (va_up (fun j => (w_R w a j).map (sgm ba xa)) i (some (sgm ba xa d))))))) := by
  have h' : w_sh (s_R w a i (some d)) a = w_sh w a := rfl
  have e : (fun j => (w_R (s_R w a i (some d)) a j).map (sgm ba xa)) = va_up (fun j => (w_R w a j).map (sgm ba xa)) i (some (sgm ba xa d)) := by
    funext j
    by_cases hj : j = i
    · simp [w_R, s_R, va_up, hj]
    · simp [w_R, s_R, va_up, hj]
  rw [cel, h', h]
  simp [arc, e]
theorem cel_Rg {a i d : Nat} (h : (w_sh w a).1 = 7) : cel ba xa aC (s_R w a i (some d)) a = .inl (aC 6, (w_sh w a).2, .inr (.inr (.inr (.inr (va_up (fun j => (w_R w a j).map (sgm ba xa)) i (some (sgm ba xa d))))))) := by
  have h' : w_sh (s_R w a i (some d)) a = w_sh w a := rfl
  have e : (fun j => (w_R (s_R w a i (some d)) a j).map (sgm ba xa)) = va_up (fun j => (w_R w a j).map (sgm ba xa)) i (some (sgm ba xa d)) := by
    funext j
    by_cases hj : j = i
    · simp [w_R, s_R, va_up, hj]
    · simp [w_R, s_R, va_up, hj]
  rw [cel, h', h]
  simp [arc, e]
theorem arc_i {a t : Nat} (ht : t < 4) : arc ba xa w (t + 1) a = .inl (w_I w a) := by
  simp [arc, show ¬ t = 4 by omega, show ¬ t = 5 by omega, show ¬ t = 6 by omega]
theorem arc_l {a : Nat} : arc ba xa w 5 a = .inr (.inl (w_J w a)) := by simp [arc]
theorem arc_q {a : Nat} : arc ba xa w 6 a = .inr (.inr (.inr (.inr (fun i => (w_R w a i).map (sgm ba xa))))) := by simp [arc]
theorem arc_g {a : Nat} : arc ba xa w 7 a = .inr (.inr (.inr (.inr (fun i => (w_R w a i).map (sgm ba xa))))) := by simp [arc]
end CELLS
