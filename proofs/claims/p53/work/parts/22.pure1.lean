/-! a turn is finished -/
theorem cnt_s (way : Int) : ∀ (n : Nat) (A : Row) (wh j : Nat), (j < 44 ∨ 44 + wh + n ≤ j ∨ n = 0) → a_cnt n A wh way j = A j := by
  intro n
  induction n with
  | zero => intro A wh j _; rfl
  | succ n ih =>
    intro A wh j hj
    simp only [a_cnt]
    split
    · rw [ih _ _ _ (by omega), up_eq, if_neg (by omega)]
    · rw [up_eq, if_neg (by omega)]
theorem cnts_TI {way : Int} (hway : way = 1 ∨ way = -1) : ∀ (n : Nat) (A : Row) (wh : Nat), TI A → (wh + n ≤ 8 ∨ n = 0) → TI (a_cnt n A wh way) := by
  intro n
  induction n with
  | zero => intro A wh h _; exact h
  | succ n ih =>
    intro A wh h hn
    have h3 := h.2.2.2.2.1 wh (by omega)
    have g : TI (up A (44 + wh) ((A (44 + wh) + way + 10) % 10)) := h.cnt ⟨by omega, by omega⟩ (by omega)
    simp only [a_cnt]
    split
    · exact ih _ _ g (by omega)
    · exact g
theorem LogA.row {w : mW} {b : Nat} {A B : Row} (h : LogA w b A) (hs : B 18 = A 18) (hr : ∀ j, 132 ≤ j → B j = A j) : LogA w b B := by
  obtain ⟨o, h1, h2, h3, h4, h5, h6⟩ := h
  exact ⟨o, h1, by rw [hs]; exact h2, by rw [hs]; exact h3, by rw [hs]; exact h4, h5, fun i k hi hk => by rw [hs] at hi; rw [hr _ (by omega)]; exact h6 i k hi hk⟩
theorem LogA.fr {l : List Nat} {w w' : mW} {b : Nat} {A : Row} (h : LogA w b A) (f : Fr l w w') (h7 : b + 7 ∉ l) (h8 : b + 8 ∉ l) : LogA w' b A := by
  unfold LogA
  rw [(f.2.2.2 _ h7).1, (f.2.2.2 _ h8).1]
  exact h
theorem T9.fr {l : List Nat} {w w' : mW} {b : Nat} {jm dv d p pl : Int} {c l0 : Int32} (h : T9 w b jm dv d p pl c l0) (f : Fr l w w') (h9 : b + 9 ∉ l) : T9 w' b jm dv d p pl c l0 := by
  unfold T9
  rw [(f.2.2.2 _ h9).1]
  exact h
theorem log_s (A : Row) (x y z r : Int) (h : 0 ≤ A 18) (j : Nat) (hj : j ≠ 18 ∧ j < 132) : a_log A x y z r j = A j := by
  simp only [a_log]
  split
  · have e : (up (fun j => if 132 ≤ j ∧ j < 248 then A (j + 4) else A j) 18 29 18) = 29 := by rw [up_eq, if_pos rfl]
    simp only [up_eq, if_pos rfl]
    rw [if_neg (by omega), if_neg (by omega), if_neg (by omega), if_neg (by omega), if_neg (by omega), if_neg (by omega), if_neg (by omega)]
  · simp only [up_eq]
    rw [if_neg (by omega), if_neg (by omega), if_neg (by omega), if_neg (by omega), if_neg (by omega)]
def p_num (A : Row) : Int := hn (fun i => A (20 + i)) (A 0).toNat 0
theorem hn_b (f : Nat → Int) : ∀ (n : Nat) (v : Int), (∀ i, i < n → 0 ≤ f i ∧ f i ≤ 9) → 0 ≤ v → v * 10 ^ n ≤ hn f n v ∧ hn f n v < (v + 1) * 10 ^ n := by
  intro n
  induction n with
  | zero => intro v _ _; simp only [hn]; omega
  | succ n ih =>
    intro v h hv
    obtain ⟨h1, h2⟩ := h n (by omega)
    obtain ⟨g1, g2⟩ := ih (v * 10 + f n) (fun i hi => h i (by omega)) (by omega)
    simp only [hn]
    have hp : (0 : Int) ≤ 10 ^ n := Int.le_of_lt (Int.pow_pos (by decide))
    refine ⟨Int.le_trans ?_ g1, Int.lt_of_lt_of_le g2 ?_⟩
    · rw [Int.pow_succ, Int.mul_comm (10 ^ n) 10, ← Int.mul_assoc]
      exact Int.mul_le_mul_of_nonneg_right (by omega) hp
    · rw [Int.pow_succ, Int.mul_comm (10 ^ n) 10, ← Int.mul_assoc]
      exact Int.mul_le_mul_of_nonneg_right (by omega) hp
theorem p_b {A : Row} (h : TI A) : 0 ≤ p_num A ∧ p_num A < 10 ^ (A 0).toNat := by
  obtain ⟨h0, h7, h1, -⟩ := h
  have := hn_b (fun i => A (20 + i)) (A 0).toNat 0 (fun i hi => h1 i (by omega)) (by omega)
  simpa [p_num] using this
theorem p10 (n : Nat) (h : n ≤ 8) : (10 : Int) ^ n ≤ 100000000 := by
  have : n = 0 ∨ n = 1 ∨ n = 2 ∨ n = 3 ∨ n = 4 ∨ n = 5 ∨ n = 6 ∨ n = 7 ∨ n = 8 := by omega
  rcases this with rfl | rfl | rfl | rfl | rfl | rfl | rfl | rfl | rfl <;> decide
theorem p16 (n : Nat) (h : n ≤ 16) : 0 < (10 : Int) ^ n ∧ (10 : Int) ^ n ≤ 10000000000000000 := by
  refine ⟨Int.pow_pos (by decide), ?_⟩
  have : n ≤ 8 ∨ n = 9 ∨ n = 10 ∨ n = 11 ∨ n = 12 ∨ n = 13 ∨ n = 14 ∨ n = 15 ∨ n = 16 := by omega
  rcases this with h | rfl | rfl | rfl | rfl | rfl | rfl | rfl | rfl
  · exact Int.le_trans (p10 n h) (by decide)
  all_goals decide
theorem li_o {a : Int} (h : inR a) : (Int64.ofInt a).toInt32 = Int32.ofInt a := by
  rw [Int64.toInt32_ofInt]
theorem pw_o (n : Nat) : pw10 n = Int64.ofInt (10 ^ n) := by
  rw [pw10, lo_nat]; congr 1
theorem c_pinNumber {b : Nat} {w : mW} {A : Row} {Q : mW → mO → Prop} (hM : Mb w b) (hA : MemA w b A) (hI : TI A) (hq : Q w (.inl (some (.int (Int32.ofInt (p_num A)))))) : CT n_X2_pinNumber [.ref b] w Q := by
  obtain ⟨⟨s0, s1, s2, s3, s4, s5, s6, s7, s8, s9, s10, s11⟩, r6, r7, r8, r9, r10, r11, r12, r13, q2, q10, q11⟩ := hM
  have hb := p_b hI
  have h8 := p10 (A 0).toNat (by have := hI.1; omega)
  have e : A 0 = ((A 0).toNat : Int) := by have := hI.1; omega
  refine ct_X2_pinNumber (rt_X2_pinNumber_0 ?_)
  simp only [wp_c, wp_n, jj_n, v_ct, Int.reduceToNat, Int.toNat_natCast, stE, wlE, lgt, lpu, lpw, v_c2, va_s, true_and, and_true, Option.toList, List.nil_append, List.cons_append, List.take, List.drop, List.reverse, List.reverseAux, List.length_cons, List.length_nil, reduceCtorEq, false_implies, true_implies, forall_const, not_true_eq_false, not_false_eq_true, ite_true, ite_false, Bool.false_eq_true, I_I, J_J, Nat.add_left_cancel_iff, Nat.reduceEqDiff, Nat.add_eq_left, Nat.left_eq_add, false_and, and_false, Nat.reduceSub, Nat.sub_self, Nat.le_refl, Nat.zero_le, ge_iff_le, Nat.reduceAdd, Nat.reduceLeDiff, Nat.zero_add, Nat.reduceLT, s0, r6, hA.1.1, mh_X2_pinNumber, mr_X2_pinNumber]
  rw [e]
  refine c_numOf s1 (by have := hI.1; omega) (by omega) (f := fun i => A (20 + i)) (fun i hi => ⟨hA.2.1 i (by have := hI.1; omega), ?_⟩) ?_
  · have := hI.2.2.1 i (by have := hI.1; omega); exact ⟨by omega, by omega⟩
  · simp only [wp_c, wp_n, jj_n, v_ct, Int.reduceToNat, Int.toNat_natCast, stE, wlE, lgt, lpu, lpw, v_c2, va_s, true_and, and_true, Option.toList, List.nil_append, List.cons_append, List.take, List.drop, List.reverse, List.reverseAux, List.length_cons, List.length_nil, reduceCtorEq, false_implies, true_implies, forall_const, not_true_eq_false, not_false_eq_true, ite_true, ite_false, Bool.false_eq_true, I_I, J_J, Nat.add_left_cancel_iff, Nat.reduceEqDiff, Nat.add_eq_left, Nat.left_eq_add, false_and, and_false, Nat.reduceSub, Nat.sub_self, Nat.le_refl, Nat.zero_le, ge_iff_le, Nat.reduceAdd, Nat.reduceLeDiff, Nat.zero_add, Nat.reduceLT]
    rw [li_o]
    · exact hq
    · have : hn (fun i => A (20 + i)) (A 0).toNat 0 = p_num A := rfl
      rw [this]; exact ⟨by omega, by omega⟩
theorem c_modulus {b : Nat} {w : mW} {A : Row} {Q : mW → mO → Prop} (hM : Mb w b) (hA : MemA w b A) (hI : 0 ≤ A 1 ∧ A 1 ≤ 16) (hq : Q w (.inl (some (.long (Int64.ofInt (10 ^ (A 1).toNat)))))) : CT n_X2_modulus [.ref b] w Q := by
  have s0 := hM.1.1
  have hR : inR (A 1) := ⟨by omega, by omega⟩
  refine ct_X2_modulus (rt_X2_modulus_0 ?_)
  simp only [wp_c, wp_n, jj_n, v_ct, Int.reduceToNat, Int.toNat_natCast, stE, wlE, lgt, lpu, lpw, v_c2, va_s, true_and, and_true, Option.toList, List.nil_append, List.cons_append, List.take, List.drop, List.reverse, List.reverseAux, List.length_cons, List.length_nil, reduceCtorEq, false_implies, true_implies, forall_const, not_true_eq_false, not_false_eq_true, ite_true, ite_false, Bool.false_eq_true, I_I, J_J, Nat.add_left_cancel_iff, Nat.reduceEqDiff, Nat.add_eq_left, Nat.left_eq_add, false_and, and_false, Nat.reduceSub, Nat.sub_self, Nat.le_refl, Nat.zero_le, ge_iff_le, Nat.reduceAdd, Nat.reduceLeDiff, Nat.zero_add, Nat.reduceLT, s0, hA.1.2.1, vp_oi hR, oi_nc hR, pw_o]
  exact ⟨by omega, hq⟩
/-- what a finished turn leaves -/
def a_endC (A : Row) : Row :=
  let B := a_cnt (A 2 - A 4).toNat A (A 4).toNat (if 0 < A 8 then -A 7 else A 7)
  let C := up B 12 (B 12 + 1)
  let D := if A 7 = -1 then up C 13 (C 13 + 1) else C
  a_log D (A 7) (A 4) (p_num A) (A 9)
theorem c_finish {b : Nat} {w : mW} {A : Row} {D p pl : Int} {c l : Int32} {Q : mW → mO → Prop} (hM : Mb w b) (hA : MemA w b A) (hI : TI A) (hL : LogA w b A) (hT : T9 w b 0 (if 0 < A 8 then 1 else 0) (A 7) p pl c l) (hD : w_J w b 5 = Int64.ofInt D) (hD0 : 0 ≤ D ∧ D < 10 ^ (A 1).toNat)
  (hq : ∀ w', MemA w' b (a_endC A) → LogA w' b (a_endC A) → w_J w' b 5 = Int64.ofInt ((D + A 7 * (p_num A * 10 ^ (A 4).toNat)) % 10 ^ (A 1).toNat) → Fr [b, b + 3, b + 6, b + 7, b + 8] w w' → Q w' (.inl none)) : CT n_X2_finishTurn [.ref b] w Q := by
  have hM0 := hM
  obtain ⟨⟨s0, s1, s2, s3, s4, s5, s6, s7, s8, s9, s10, s11⟩, r6, r7, r8, r9, r10, r11, r12, r13, q2, q10, q11⟩ := hM
  have hA0 := hA
  obtain ⟨⟨b0, b1, b2, b3, b4⟩, a1, a2, a3, a4, a5, a6, a7, a8, a9⟩ := hA
  have hT0 := hT
  obtain ⟨t0, t1, t2, t3, t4, t8, t9⟩ := hT
  have hI0 := hI
  obtain ⟨h0, h7, h1, h2, h3, h4, h5⟩ := hI
  have hpb := p_b hI0
  have hp8 := p10 (A 0).toNat (by omega)
  have hq16 := p16 (A 4).toNat (by omega)
  have hM16 := p16 (A 1).toNat (by omega)
  have hpR : inR (p_num A) := ⟨by omega, by omega⟩
  have h7R : inR (A 7) := ⟨by omega, by omega⟩
  have h4R : inR (A 4) := ⟨by omega, by omega⟩
  have hprod : 0 ≤ p_num A * 10 ^ (A 4).toNat ∧ p_num A * 10 ^ (A 4).toNat ≤ 10000000000000000 := by
    refine ⟨Int.mul_nonneg hpb.1 (Int.le_of_lt hq16.1), ?_⟩
    have e1 : p_num A * 10 ^ (A 4).toNat ≤ 10 ^ (A 0).toNat * 10 ^ (A 4).toNat := Int.mul_le_mul_of_nonneg_right (by omega) (Int.le_of_lt hq16.1)
    rw [← Int.pow_add] at e1
    exact Int.le_trans e1 (p16 _ (by omega)).2
  have hL1 : inL (D + A 7 * (p_num A * 10 ^ (A 4).toNat)) := by
    rcases h7 with h | h <;> rw [h] <;> exact ⟨by omega, by omega⟩
  refine ct_X2_finishTurn (rt_X2_finishTurn_0 ?_)
  simp only [wp_c, wp_n, jj_n, v_ct, Int.reduceToNat, Int.toNat_natCast, stE, wlE, lgt, lpu, lpw, v_c2, va_s, true_and, and_true, Option.toList, List.nil_append, List.cons_append, List.take, List.drop, List.reverse, List.reverseAux, List.length_cons, List.length_nil, reduceCtorEq, false_implies, true_implies, forall_const, not_true_eq_false, not_false_eq_true, ite_true, ite_false, Bool.false_eq_true, I_I, J_J, Nat.add_left_cancel_iff, Nat.reduceEqDiff, Nat.add_eq_left, Nat.left_eq_add, false_and, and_false, Nat.reduceSub, Nat.sub_self, Nat.le_refl, Nat.zero_le, ge_iff_le, Nat.reduceAdd, Nat.reduceLeDiff, Nat.zero_add, Nat.reduceLT, s0, mh_X2_finishTurn]
  refine c_pinNumber hM0 hA0 hI0 ?_
  simp only [wp_c, wp_n, jj_n, v_ct, Int.reduceToNat, Int.toNat_natCast, stE, wlE, lgt, lpu, lpw, v_c2, va_s, true_and, and_true, Option.toList, List.nil_append, List.cons_append, List.take, List.drop, List.reverse, List.reverseAux, List.length_cons, List.length_nil, reduceCtorEq, false_implies, true_implies, forall_const, not_true_eq_false, not_false_eq_true, ite_true, ite_false, Bool.false_eq_true, I_I, J_J, Nat.add_left_cancel_iff, Nat.reduceEqDiff, Nat.add_eq_left, Nat.left_eq_add, false_and, and_false, Nat.reduceSub, Nat.sub_self, Nat.le_refl, Nat.zero_le, ge_iff_le, Nat.reduceAdd, Nat.reduceLeDiff, Nat.zero_add, Nat.reduceLT, s0, s9, r13, t2, hD, b4, lo_i hpR, lo_i h7R, vp_oi h4R, oi_nc h4R, pw_o, lo_mul, lo_add, mh_X2_finishTurn]
  refine ⟨by omega, c_modulus hM0 hA0 (by omega) ?_⟩
  simp only [wp_c, wp_n, jj_n, v_ct, Int.reduceToNat, Int.toNat_natCast, stE, wlE, lgt, lpu, lpw, v_c2, va_s, true_and, and_true, Option.toList, List.nil_append, List.cons_append, List.take, List.drop, List.reverse, List.reverseAux, List.length_cons, List.length_nil, reduceCtorEq, false_implies, true_implies, forall_const, not_true_eq_false, not_false_eq_true, ite_true, ite_false, Bool.false_eq_true, I_I, J_J, Nat.add_left_cancel_iff, Nat.reduceEqDiff, Nat.add_eq_left, Nat.left_eq_add, false_and, and_false, Nat.reduceSub, Nat.sub_self, Nat.le_refl, Nat.zero_le, ge_iff_le, Nat.reduceAdd, Nat.reduceLeDiff, Nat.zero_add, Nat.reduceLT]
  refine c_fmodL hL1 ⟨by omega, by omega⟩ hM16.1 ?_
  simp only [wp_c, wp_n, jj_n, v_ct, Int.reduceToNat, Int.toNat_natCast, stE, wlE, lgt, lpu, lpw, v_c2, va_s, true_and, and_true, Option.toList, List.nil_append, List.cons_append, List.take, List.drop, List.reverse, List.reverseAux, List.length_cons, List.length_nil, reduceCtorEq, false_implies, true_implies, forall_const, not_true_eq_false, not_false_eq_true, ite_true, ite_false, Bool.false_eq_true, I_I, J_J, Nat.add_left_cancel_iff, Nat.reduceEqDiff, Nat.add_eq_left, Nat.left_eq_add, false_and, and_false, Nat.reduceSub, Nat.sub_self, Nat.le_refl, Nat.zero_le, ge_iff_le, Nat.reduceAdd, Nat.reduceLeDiff, Nat.zero_add, Nat.reduceLT, s0, s9, r13, t1]
  generalize hE : (D + A 7 * (p_num A * 10 ^ (A 4).toNat)) % 10 ^ (A 1).toNat = E at hq ⊢
  have f1 : Fr [b] w (s_J w b 5 (Int64.ofInt E)) := (Fr.refl _ _).J (by simp)
  have hA1 : MemA (s_J w b 5 (Int64.ofInt E)) b A := hA0
  have hL1' : LogA (s_J w b 5 (Int64.ofInt E)) b A := hL
  have hJ1 : w_J (s_J w b 5 (Int64.ofInt E)) b 5 = Int64.ofInt E := by rw [J_J, if_pos ⟨rfl, rfl⟩]
  have hM1 : Mb (s_J w b 5 (Int64.ofInt E)) b := hM0
  have hT1 : T9 (s_J w b 5 (Int64.ofInt E)) b 0 (if 0 < A 8 then 1 else 0) (A 7) p pl c l := hT0
  have hway : (if 0 < A 8 then -A 7 else A 7) = 1 ∨ (if 0 < A 8 then -A 7 else A 7) = -1 := by split <;> omega
  -- behind the counter's way
  have h70 : RT n_X2_finishTurn 70 [.ref b, .int (Int32.ofInt (p_num A))] [.int (Int32.ofInt (if 0 < A 8 then -A 7 else A 7)), .ref b] (s_J w b 5 (Int64.ofInt E)) (0, 0, false) Q := by
    generalize s_J w b 5 (Int64.ofInt E) = w1 at f1 hA1 hL1' hJ1 hM1 hT1
    refine rt_X2_finishTurn_70 ?_
    simp only [wp_c, wp_n, jj_n, v_ct, Int.reduceToNat, Int.toNat_natCast, stE, wlE, lgt, lpu, lpw, v_c2, va_s, true_and, and_true, Option.toList, List.nil_append, List.cons_append, List.take, List.drop, List.reverse, List.reverseAux, List.length_cons, List.length_nil, reduceCtorEq, false_implies, true_implies, forall_const, not_true_eq_false, not_false_eq_true, ite_true, ite_false, Bool.false_eq_true, I_I, J_J, Nat.add_left_cancel_iff, Nat.reduceEqDiff, Nat.add_eq_left, Nat.left_eq_add, false_and, and_false, Nat.reduceSub, Nat.sub_self, Nat.le_refl, Nat.zero_le, ge_iff_le, Nat.reduceAdd, Nat.reduceLeDiff, Nat.zero_add, Nat.reduceLT, f1.1, s0, mh_X2_finishTurn]
    refine c_cnt hway hM1 hA1 hI0 fun w2 g2 f2 => ?_
    have hB : ∀ j, (j < 44 ∨ 52 ≤ j) → a_cnt (A 2 - A 4).toNat A (A 4).toNat (if 0 < A 8 then -A 7 else A 7) j = A j := fun j hj => cnt_s _ _ _ _ _ (by omega)
    have hTB := cnts_TI hway (A 2 - A 4).toNat A (A 4).toNat hI0 (by omega)
    have hL2 : LogA w2 b (a_cnt (A 2 - A 4).toNat A (A 4).toNat (if 0 < A 8 then -A 7 else A 7)) := (hL1'.fr f2 (by simp) (by simp)).row (hB _ (by omega)) (fun j hj => hB j (by omega))
    have hT2 := hT1.fr f2 (by simp)
    have hJ2 : w_J w2 b 5 = Int64.ofInt E := by rw [(f2.2.2.2 b (by simp)).2]; exact hJ1
    have hM2 := hM1.fr f2
    have f2' : Fr [b, b + 3, b + 6, b + 7, b + 8] w w2 := f1.trans f2 (by simp) (by simp)
    clear hL1' hJ1 hM1 hT1 hA1 f1 f2
    have hdef : a_endC A = a_log (if A 7 = -1 then up (up (a_cnt (A 2 - A 4).toNat A (A 4).toNat (if 0 < A 8 then -A 7 else A 7)) 12 (a_cnt (A 2 - A 4).toNat A (A 4).toNat (if 0 < A 8 then -A 7 else A 7) 12 + 1)) 13 (up (a_cnt (A 2 - A 4).toNat A (A 4).toNat (if 0 < A 8 then -A 7 else A 7)) 12 (a_cnt (A 2 - A 4).toNat A (A 4).toNat (if 0 < A 8 then -A 7 else A 7) 12 + 1) 13 + 1) else up (a_cnt (A 2 - A 4).toNat A (A 4).toNat (if 0 < A 8 then -A 7 else A 7)) 12 (a_cnt (A 2 - A 4).toNat A (A 4).toNat (if 0 < A 8 then -A 7 else A 7) 12 + 1)) (A 7) (A 4) (p_num A) (A 9) := rfl
    rw [hdef] at hq
    generalize a_cnt (A 2 - A 4).toNat A (A 4).toNat (if 0 < A 8 then -A 7 else A 7) = B at hq hB hTB hL2 g2
    obtain ⟨u0, u1, u2, u3, u4, u8, u9⟩ := hT2
    have g3 := fun v => g2.cts (i := 0) (v := v) (by omega)
    simp only [wp_c, wp_n, jj_n, v_ct, Int.reduceToNat, Int.toNat_natCast, stE, wlE, lgt, lpu, lpw, v_c2, va_s, true_and, and_true, Option.toList, List.nil_append, List.cons_append, List.take, List.drop, List.reverse, List.reverseAux, List.length_cons, List.length_nil, reduceCtorEq, false_implies, true_implies, forall_const, not_true_eq_false, not_false_eq_true, ite_true, ite_false, Bool.false_eq_true, I_I, J_J, Nat.add_left_cancel_iff, Nat.reduceEqDiff, Nat.add_eq_left, Nat.left_eq_add, false_and, and_false, Nat.reduceSub, Nat.sub_self, Nat.le_refl, Nat.zero_le, ge_iff_le, Nat.reduceAdd, Nat.reduceLeDiff, Nat.zero_add, Nat.reduceLT, f2'.1, f2'.2.1, s0, s6, s9, r11, r13, vp_oi (show inR 0 from ⟨by omega, by omega⟩), oi_nc (show inR 0 from ⟨by omega, by omega⟩), g2.r_cts (show 0 < 6 by omega), oi_add, u2, oi_eq h7R (show inR (-1) from ⟨by omega, by omega⟩)]
    -- the log
    have h104 : ∀ (C : Row) (w3 : mW), MemA w3 b C → LogA w3 b C → Fr [b, b + 3, b + 6, b + 7, b + 8] w w3 → w_J w3 b 5 = Int64.ofInt E → w_I w3 (b + 9) 2 = Int32.ofInt (A 7) → C 4 = A 4 → C 9 = A 9 → 0 ≤ C 18 →
        (∀ w', MemA w' b (a_log C (A 7) (A 4) (p_num A) (A 9)) → LogA w' b (a_log C (A 7) (A 4) (p_num A) (A 9)) → w_J w' b 5 = Int64.ofInt E → Fr [b, b + 3, b + 6, b + 7, b + 8] w w' → Q w' (.inl none)) →
        RT n_X2_finishTurn 104 [.ref b, .int (Int32.ofInt (p_num A))] [] w3 (0, 0, false) Q := by
      intro C w3 k1 k2 k3 k4 k5 k6 k7 k8 kq
      refine rt_X2_finishTurn_104 ?_
      simp only [wp_c, wp_n, jj_n, v_ct, Int.reduceToNat, Int.toNat_natCast, stE, wlE, lgt, lpu, lpw, v_c2, va_s, true_and, and_true, Option.toList, List.nil_append, List.cons_append, List.take, List.drop, List.reverse, List.reverseAux, List.length_cons, List.length_nil, reduceCtorEq, false_implies, true_implies, forall_const, not_true_eq_false, not_false_eq_true, ite_true, ite_false, Bool.false_eq_true, I_I, J_J, Nat.add_left_cancel_iff, Nat.reduceEqDiff, Nat.add_eq_left, Nat.left_eq_add, false_and, and_false, Nat.reduceSub, Nat.sub_self, Nat.le_refl, Nat.zero_le, ge_iff_le, Nat.reduceAdd, Nat.reduceLeDiff, Nat.zero_add, Nat.reduceLT, k3.1, k3.2.1, s0, s7, s9, r12, r13, k5, k1.1.2.2.2.2, k1.2.2.2.2.2.2.2.1.1, k6, k7, mh_X2_finishTurn]
      refine c_log (hM0.fr k3) k2 fun w4 m1 m2 => ?_
      simp only [wp_c, wp_n, jj_n, v_ct, Int.reduceToNat, Int.toNat_natCast, stE, wlE, lgt, lpu, lpw, v_c2, va_s, true_and, and_true, Option.toList, List.nil_append, List.cons_append, List.take, List.drop, List.reverse, List.reverseAux, List.length_cons, List.length_nil, reduceCtorEq, false_implies, true_implies, forall_const, not_true_eq_false, not_false_eq_true, ite_true, ite_false, Bool.false_eq_true, I_I, J_J, Nat.add_left_cancel_iff, Nat.reduceEqDiff, Nat.add_eq_left, Nat.left_eq_add, false_and, and_false, Nat.reduceSub, Nat.sub_self, Nat.le_refl, Nat.zero_le, ge_iff_le, Nat.reduceAdd, Nat.reduceLeDiff, Nat.zero_add, Nat.reduceLT]
      refine kq w4 ?_ m1 ?_ (k3.trans m2 (fun _ q => q) (by simp))
      · have m3 := k1.fr m2 (fun c hc c7 c8 => by simp; omega)
        have hls := log_s C (A 7) (A 4) (p_num A) (A 9) k8
        obtain ⟨⟨b0, b1, b2, b3, b4⟩, a1, a2, a3, a4, a5, a6, ⟨c5, c6, c7⟩, a8, a9⟩ := m3
        refine ⟨⟨?_, ?_, ?_, ?_, ?_⟩, fun j hj => ?_, fun j hj => ?_, fun j hj => ?_, fun j hj => ?_, fun j hj => ?_, fun j hj => ?_, ⟨?_, ?_, ?_⟩, fun j hj => ?_, fun j hj => ?_⟩
        all_goals rw [hls _ (by omega)]
        all_goals first | assumption | exact a1 _ hj | exact a2 _ hj | exact a3 _ hj | exact a4 _ hj | exact a5 _ hj | exact a6 _ hj | exact a8 _ hj | exact a9 _ hj
      · rw [(m2.2.2.2 b (by simp)).2]; exact k4
    have hL3 : ∀ v, LogA (s_I w2 (b + 6) 0 (Int32.ofInt v)) b (up B (12 + 0) v) := fun v => (hL2.fr (l := [b + 6]) ((Fr.refl _ _).I (by simp)) (by simp) (by simp)).row (by rw [up_eq, if_neg (by omega)]) (fun j hj => by rw [up_eq, if_neg (by omega)])
    have h18 : 0 ≤ B 18 := by obtain ⟨o, q1, q2, -⟩ := hL2; exact q2
    refine ⟨by omega, by omega, fun hne => ?_, fun heq => ?_⟩
    · rw [if_neg hne] at hq
      refine h104 _ _ (g3 _) (hL3 _) (f2'.I (by simp)) hJ2 ?_ ?_ ?_ ?_ hq
      · simp only [wp_c, wp_n, jj_n, v_ct, Int.reduceToNat, Int.toNat_natCast, stE, wlE, lgt, lpu, lpw, v_c2, va_s, true_and, and_true, Option.toList, List.nil_append, List.cons_append, List.take, List.drop, List.reverse, List.reverseAux, List.length_cons, List.length_nil, reduceCtorEq, false_implies, true_implies, forall_const, not_true_eq_false, not_false_eq_true, ite_true, ite_false, Bool.false_eq_true, I_I, J_J, Nat.add_left_cancel_iff, Nat.reduceEqDiff, Nat.add_eq_left, Nat.left_eq_add, false_and, and_false, Nat.reduceSub, Nat.sub_self, Nat.le_refl, Nat.zero_le, ge_iff_le, Nat.reduceAdd, Nat.reduceLeDiff, Nat.zero_add, Nat.reduceLT, u2]
      · rw [up_eq, if_neg (by omega)]; exact hB _ (by omega)
      · rw [up_eq, if_neg (by omega)]; exact hB _ (by omega)
      · rw [up_eq, if_neg (by omega)]; exact h18
    · have h1 : A 7 = -1 := by omega
      rw [if_pos h1] at hq
      have e13 : w_I w2 (b + 6) 1 = Int32.ofInt (up B 12 (B 12 + 1) 13) := by rw [g2.r_cts (show 1 < 6 by omega), up_eq, if_neg (by omega)]
      simp only [vp_oi (show inR 1 from ⟨by omega, by omega⟩), oi_nc (show inR 1 from ⟨by omega, by omega⟩), wp_c, wp_n, jj_n, v_ct, Int.reduceToNat, Int.toNat_natCast, stE, wlE, lgt, lpu, lpw, v_c2, va_s, true_and, and_true, Option.toList, List.nil_append, List.cons_append, List.take, List.drop, List.reverse, List.reverseAux, List.length_cons, List.length_nil, reduceCtorEq, false_implies, true_implies, forall_const, not_true_eq_false, not_false_eq_true, ite_true, ite_false, Bool.false_eq_true, I_I, J_J, Nat.add_left_cancel_iff, Nat.reduceEqDiff, Nat.add_eq_left, Nat.left_eq_add, false_and, and_false, Nat.reduceSub, Nat.sub_self, Nat.le_refl, Nat.zero_le, ge_iff_le, Nat.reduceAdd, Nat.reduceLeDiff, Nat.zero_add, Nat.reduceLT, e13, oi_add]
      refine ⟨by omega, by omega, ?_⟩
      refine h104 _ _ ((g3 _).cts (i := 1) (by omega)) ?_ ((f2'.I (by simp)).I (by simp)) hJ2 ?_ ?_ ?_ ?_ hq
      · exact ((hL3 _).fr (l := [b + 6]) ((Fr.refl _ _).I (by simp)) (by simp) (by simp)).row (by rw [up_eq, if_neg (by omega)]) (fun j hj => by rw [up_eq, if_neg (by omega)])
      · simp only [wp_c, wp_n, jj_n, v_ct, Int.reduceToNat, Int.toNat_natCast, stE, wlE, lgt, lpu, lpw, v_c2, va_s, true_and, and_true, Option.toList, List.nil_append, List.cons_append, List.take, List.drop, List.reverse, List.reverseAux, List.length_cons, List.length_nil, reduceCtorEq, false_implies, true_implies, forall_const, not_true_eq_false, not_false_eq_true, ite_true, ite_false, Bool.false_eq_true, I_I, J_J, Nat.add_left_cancel_iff, Nat.reduceEqDiff, Nat.add_eq_left, Nat.left_eq_add, false_and, and_false, Nat.reduceSub, Nat.sub_self, Nat.le_refl, Nat.zero_le, ge_iff_le, Nat.reduceAdd, Nat.reduceLeDiff, Nat.zero_add, Nat.reduceLT, u2]
      · rw [up_eq, if_neg (by omega), up_eq, if_neg (by omega)]; exact hB _ (by omega)
      · rw [up_eq, if_neg (by omega), up_eq, if_neg (by omega)]; exact hB _ (by omega)
      · rw [up_eq, if_neg (by omega), up_eq, if_neg (by omega)]; exact h18
  refine ⟨fun h => ?_, fun h => ?_⟩
  · have hn : ¬ 0 < A 8 := fun q => by rw [if_pos q] at h; exact absurd h (by decide)
    rw [if_neg hn] at h70
    refine rt_X2_finishTurn_63 ?_
    simp only [wp_c, wp_n, jj_n, v_ct, Int.reduceToNat, Int.toNat_natCast, stE, wlE, lgt, lpu, lpw, v_c2, va_s, true_and, and_true, Option.toList, List.nil_append, List.cons_append, List.take, List.drop, List.reverse, List.reverseAux, List.length_cons, List.length_nil, reduceCtorEq, false_implies, true_implies, forall_const, not_true_eq_false, not_false_eq_true, ite_true, ite_false, Bool.false_eq_true, I_I, J_J, Nat.add_left_cancel_iff, Nat.reduceEqDiff, Nat.add_eq_left, Nat.left_eq_add, false_and, and_false, Nat.reduceSub, Nat.sub_self, Nat.le_refl, Nat.zero_le, ge_iff_le, Nat.reduceAdd, Nat.reduceLeDiff, Nat.zero_add, Nat.reduceLT, s0, s9, r13, t2]
    exact h70
  · have hn : 0 < A 8 := by
      by_cases q : 0 < A 8
      · exact q
      · rw [if_neg q] at h; exact absurd rfl h
    rw [if_pos hn] at h70
    rw [t2, oi_neg]
    exact h70
/-! the turn goes on -/
def kp (j : Nat) : Prop := j < 9 ∨ (12 ≤ j ∧ j < 14) ∨ (18 ≤ j ∧ j < 28) ∨ (44 ≤ j ∧ j < 52) ∨ (68 ≤ j ∧ j < 84) ∨ 116 ≤ j
theorem mv_k (A : Row) (i j : Nat) (m : Int) (hi : i < 16) (hj : kp j) : a_mv A i m j = A j := mv_s A i j m hi (by unfold kp at hj; omega)
theorem tal_k (A : Row) (k j : Nat) (hk : k < 3) (hj : kp j) : a_tal A k j = A j := by
  unfold kp at hj
  simp only [a_tal, up_eq]
  rw [if_neg (by omega), if_neg (by omega)]
theorem lev_k : ∀ (n : Nat) (A : Row) (wh : Nat) (c l : Int32) (j : Nat), (wh : Int) + n = A 1 → A 1 ≤ 16 → kp j → (a_lev n A wh c l).1 j = A j := by
  intro n
  induction n with
  | zero => intro A wh c l j _ _ _; rfl
  | succ n ih =>
    intro A wh c l j hn h16 hj
    have hj' := hj
    unfold kp at hj'
    rw [a_lev]
    split
    · exact ih _ _ _ _ _ (by omega) h16 hj
    · split
      · rw [ih _ _ _ _ _ (by rw [up_eq, if_neg (by omega), tal_k _ _ _ (by omega) (by unfold kp; omega)]; omega) (by rw [up_eq, if_neg (by omega), tal_k _ _ _ (by omega) (by unfold kp; omega)]; exact h16) hj, up_eq, if_neg (by omega), tal_k _ _ _ (by omega) hj]
      · split
        · rw [ih _ _ _ _ _ (by rw [up_eq, if_neg (by omega), tal_k _ _ _ (by omega) (by unfold kp; omega)]; omega) (by rw [up_eq, if_neg (by omega), tal_k _ _ _ (by omega) (by unfold kp; omega)]; exact h16) hj, up_eq, if_neg (by omega), tal_k _ _ _ (by omega) hj]
        · split
          · show up A 17 (A 17 + 1) j = A j
            rw [up_eq, if_neg (by omega)]
          · rw [ih _ _ _ _ _ (by rw [up_eq, if_neg (by omega), tal_k _ _ _ (by omega) (by unfold kp; omega), mv_k _ _ _ _ (by omega) (by unfold kp; omega)]; omega) (by rw [up_eq, if_neg (by omega), tal_k _ _ _ (by omega) (by unfold kp; omega), mv_k _ _ _ _ (by omega) (by unfold kp; omega)]; exact h16) hj, up_eq, if_neg (by omega), tal_k _ _ _ (by omega) hj, mv_k _ _ _ _ (by omega) hj]
theorem lev_TI : ∀ (n : Nat) (A : Row) (wh : Nat) (c l : Int32), (wh : Int) + n = A 1 → TI A → TI (a_lev n A wh c l).1 := by
  intro n
  induction n with
  | zero => intro A wh c l _ h; exact h
  | succ n ih =>
    intro A wh c l hn h
    have h16 : A 1 ≤ 16 := by have := h.1; omega
    rw [a_lev]
    split
    · exact ih _ _ _ _ (by omega) h
    · split
      · exact ih _ _ _ _ (by rw [up_eq, if_neg (by omega), tal_k _ _ _ (by omega) (by unfold kp; omega)]; omega) ((h.tal (by omega)).lev ⟨by omega, by omega⟩ (by omega))
      · split
        · exact ih _ _ _ _ (by rw [up_eq, if_neg (by omega), tal_k _ _ _ (by omega) (by unfold kp; omega)]; omega) ((h.tal (by omega)).lev ⟨by omega, by omega⟩ (by omega))
        · split
          · exact h.up (by omega)
          · exact ih _ _ _ _ (by rw [up_eq, if_neg (by omega), tal_k _ _ _ (by omega) (by unfold kp; omega), mv_k _ _ _ _ (by omega) (by unfold kp; omega)]; omega) (((h.mv (by omega) ⟨by omega, by omega⟩).tal (by omega)).lev ⟨by omega, by omega⟩ (by omega))
theorem pins_k : ∀ (n : Nat) (A : Row) (p : Nat) (j : Nat), (p : Int) + n = A 0 → TI A → kp j → (a_pins n A p).1 j = A j ∧ TI (a_pins n A p).1 := by
  intro n
  induction n with
  | zero => intro A p j _ h _; exact ⟨rfl, h⟩
  | succ n ih =>
    intro A p j hn h hj
    have h0 := h.1
    have hp := h.2.2.1 p (by omega)
    have hj' := hj
    unfold kp at hj'
    rw [a_pins]
    split
    · exact ih _ _ _ (by omega) h hj
    · split
      · exact ⟨by show up A 17 (A 17 + 1) j = A j; rw [up_eq, if_neg (by omega)], h.up (by omega)⟩
      · have hl : (A 4).toNat + p < 16 := by omega
        have g := ih (a_mv A ((A 4).toNat + p) (A (20 + p))) (p + 1) j (by rw [mv_k _ _ _ _ hl (by unfold kp; omega)]; omega) (h.mv hl ⟨by omega, by omega⟩) hj
        exact ⟨g.1.trans (mv_k _ _ _ _ hl hj), g.2⟩
def a_go (A : Row) (part pl : Nat) (c l : Int32) : Row × Option (Nat × Nat) × Int32 :=
  let lv := fun (B : Row) (wh : Nat) => match a_lev ((A 1).toNat - wh) B wh c l with
    | (B', none, l') => (a_endC B', none, l')
    | (B', some k, l') => (B', some (1, k), l')
  if part = 0 then match a_pins ((A 0).toNat - pl) A pl with
    | (B, some k) => (B, some (0, k), l)
    | (B, none) => lv B (A 4).toNat
  else lv A pl
def du (A : Row) : Int := hn (fun i => A (116 + i)) (A 1).toNat 0
def GQ (w : mW) (b : Nat) (dv d : Int) (E : Int) (r : Row × Option (Nat × Nat) × Int32) (Q : mW → mO → Prop) : Prop := ∀ w', MemA w' b r.1 → LogA w' b r.1 → Fr [b, b + 2, b + 3, b + 5, b + 6, b + 7, b + 8, b + 9, b + 10, b + 11] w w' → (match r.2.1 with
    | none => (∃ (c' : Int32) (p pl : Int), T9 w' b 0 dv d p pl c' r.2.2) → w_J w' b 5 = Int64.ofInt E → Q w' (.inl (some (.int (Int32.ofInt 1))))
    | some (p, k) => (∃ c' : Int32, T9 w' b 1 dv d p k c' r.2.2) → w_J w' b 5 = w_J w b 5 → Q w' (.inl (some (.int (Int32.ofInt 0)))))
theorem hn_c {f g : Nat → Int} : ∀ (n : Nat) (v : Int), (∀ i, i < n → f i = g i) → hn f n v = hn g n v := by
  intro n
  induction n with
  | zero => intro v _; rfl
  | succ n ih => intro v h; simp only [hn]; rw [h n (by omega)]; exact ih _ (fun i hi => h i (by omega))
theorem num_k {A B : Row} (h : ∀ j, kp j → B j = A j) (h8 : A 0 ≤ 8) : p_num B = p_num A := by
  unfold p_num
  rw [h 0 (by unfold kp; omega)]
  exact hn_c _ _ (fun i hi => h _ (by unfold kp; omega))
theorem c_rel {b : Nat} {w : mW} {A : Row} {dv : Int} {wh : Nat} {c l : Int32} {Q : mW → mO → Prop} (hM : Mb w b) (hA : MemA w b A) (hI : TI A) (hT : T9 w b 0 dv (A 7) 1 wh c l) (hw : (wh : Int) ≤ A 1) (hq : TQ w b dv (a_lev ((A 1).toNat - wh) A wh c l) Q) : CT n_X2_releaseLevers [.ref b] w Q := by
  have s0 := hM.1.1
  refine ct_X2_releaseLevers (rt_X2_releaseLevers_0 ?_)
  obtain ⟨b0, b1, b2, b3, b4⟩ := hA.1
  simp only [wp_c, wp_n, jj_n, v_ct, Int.reduceToNat, Int.toNat_natCast, stE, wlE, lgt, lpu, lpw, v_c2, va_s, true_and, and_true, Option.toList, List.nil_append, List.cons_append, List.take, List.drop, List.reverse, List.reverseAux, List.length_cons, List.length_nil, reduceCtorEq, false_implies, true_implies, forall_const, not_true_eq_false, not_false_eq_true, ite_true, ite_false, Bool.false_eq_true, I_I, J_J, Nat.add_left_cancel_iff, Nat.reduceEqDiff, Nat.add_eq_left, Nat.left_eq_add, false_and, and_false, Nat.reduceSub, Nat.sub_self, Nat.le_refl, Nat.zero_le, ge_iff_le, Nat.reduceAdd, Nat.reduceLeDiff, Nat.zero_add, Nat.reduceLT, s0, b0, b3, b4, oi_add, oi_sub]
  have h0 := hI.1
  exact c_lev b dv Q _ A wh c l w .null (by omega) hM hA hT hI hq
theorem c_go {b : Nat} {w : mW} {A : Row} {D : Int} {part pl : Nat} {c l : Int32} {Q : mW → mO → Prop} (hM : Mb w b) (hA : MemA w b A) (hI : TI A) (hL : LogA w b A) (hT : T9 w b 0 (if 0 < A 8 then 1 else 0) (A 7) part pl c l) (hp : (part = 0 ∧ (pl : Int) ≤ A 0) ∨ (part = 1 ∧ (pl : Int) ≤ A 1)) (hD : w_J w b 5 = Int64.ofInt D) (hD0 : 0 ≤ D ∧ D < 10 ^ (A 1).toNat)
  (hq : GQ w b (if 0 < A 8 then 1 else 0) (A 7) ((D + A 7 * (p_num A * 10 ^ (A 4).toNat)) % 10 ^ (A 1).toNat) (a_go A part pl c l) Q) : CT n_X2_goOn [.ref b] w Q := by
  have hM0 := hM
  obtain ⟨⟨s0, s1, s2, s3, s4, s5, s6, s7, s8, s9, s10, s11⟩, r6, r7, r8, r9, r10, r11, r12, r13, q2, q10, q11⟩ := hM
  have h0 := hI.1
  obtain ⟨t0, t1, t2, t3, t4, t8, t9⟩ := hT
  -- the levers, and the end
  have h19 : ∀ (B : Row) (w1 : mW) (wh : Nat), (∀ j, kp j → B j = A j) → TI B → MemA w1 b B → T9 w1 b 0 (if 0 < A 8 then 1 else 0) (A 7) 1 wh c l → (wh : Int) ≤ A 1 → Fr [b + 2, b + 5, b + 6, b + 9, b + 10, b + 11] w w1 →
      GQ w b (if 0 < A 8 then 1 else 0) (A 7) ((D + A 7 * (p_num A * 10 ^ (A 4).toNat)) % 10 ^ (A 1).toNat) (match a_lev ((A 1).toNat - wh) B wh c l with | (B', none, l') => (a_endC B', none, l') | (B', some k, l') => (B', some (1, k), l')) Q →
      RT n_X2_goOn 19 [.ref b] [] w1 (0, 0, false) Q := by
    intro B w1 wh hk k1 k2 k3 k4 k5 kq
    have e1 : B 1 = A 1 := hk 1 (by unfold kp; omega)
    have e7 : B 7 = A 7 := hk 7 (by unfold kp; omega)
    refine rt_X2_goOn_19 ?_
    simp only [wp_c, wp_n, jj_n, v_ct, Int.reduceToNat, Int.toNat_natCast, stE, wlE, lgt, lpu, lpw, v_c2, va_s, true_and, and_true, Option.toList, List.nil_append, List.cons_append, List.take, List.drop, List.reverse, List.reverseAux, List.length_cons, List.length_nil, reduceCtorEq, false_implies, true_implies, forall_const, not_true_eq_false, not_false_eq_true, ite_true, ite_false, Bool.false_eq_true, I_I, J_J, Nat.add_left_cancel_iff, Nat.reduceEqDiff, Nat.add_eq_left, Nat.left_eq_add, false_and, and_false, Nat.reduceSub, Nat.sub_self, Nat.le_refl, Nat.zero_le, ge_iff_le, Nat.reduceAdd, Nat.reduceLeDiff, Nat.zero_add, Nat.reduceLT, k5.1, s0, mh_X2_goOn]
    refine c_rel (hM0.fr k5) k2 k1 (by rw [e7]; exact k3) (by omega) ?_
    intro w2 m1 m2
    rw [e1] at m1 ⊢
    have hlk := lev_k ((A 1).toNat - wh) B wh c l
    have hlT := lev_TI ((A 1).toNat - wh) B wh c l (by omega) k1
    have f2 := k5.trans m2 (fun _ q => q) (fun _ q => q)
    have hL2 : LogA w2 b (a_lev ((A 1).toNat - wh) B wh c l).1 := (hL.fr f2 (by simp) (by simp)).row (by rw [hlk _ (by omega) (by omega) (by unfold kp; omega), hk _ (by unfold kp; omega)]) (fun j hj => by rw [hlk _ (by omega) (by omega) (by unfold kp; omega), hk _ (by unfold kp; omega)])
    have hall : ∀ j, kp j → (a_lev ((A 1).toNat - wh) B wh c l).1 j = A j := fun j hj => by rw [hlk _ (by omega) (by omega) hj, hk j hj]
    have hJ2 : w_J w2 b 5 = Int64.ofInt D := by rw [(f2.2.2.2 b (by simp)).2]; exact hD
    clear hlk
    generalize a_lev ((A 1).toNat - wh) B wh c l = z at kq m1 hlT hL2 hall ⊢
    obtain ⟨B', oj, l'⟩ := z
    cases oj with
    | none =>
      rintro ⟨c', p', hT'⟩
      simp only [wp_c, wp_n, jj_n, v_ct, Int.reduceToNat, Int.toNat_natCast, stE, wlE, lgt, lpu, lpw, v_c2, va_s, true_and, and_true, Option.toList, List.nil_append, List.cons_append, List.take, List.drop, List.reverse, List.reverseAux, List.length_cons, List.length_nil, reduceCtorEq, false_implies, true_implies, forall_const, not_true_eq_false, not_false_eq_true, ite_true, ite_false, Bool.false_eq_true, I_I, J_J, Nat.add_left_cancel_iff, Nat.reduceEqDiff, Nat.add_eq_left, Nat.left_eq_add, false_and, and_false, Nat.reduceSub, Nat.sub_self, Nat.le_refl, Nat.zero_le, ge_iff_le, Nat.reduceAdd, Nat.reduceLeDiff, Nat.zero_add, Nat.reduceLT] at kq ⊢
      refine ⟨fun _ => ?_, fun h => absurd (by decide) h⟩
      refine rt_X2_goOn_28 ?_
      simp only [wp_c, wp_n, jj_n, v_ct, Int.reduceToNat, Int.toNat_natCast, stE, wlE, lgt, lpu, lpw, v_c2, va_s, true_and, and_true, Option.toList, List.nil_append, List.cons_append, List.take, List.drop, List.reverse, List.reverseAux, List.length_cons, List.length_nil, reduceCtorEq, false_implies, true_implies, forall_const, not_true_eq_false, not_false_eq_true, ite_true, ite_false, Bool.false_eq_true, I_I, J_J, Nat.add_left_cancel_iff, Nat.reduceEqDiff, Nat.add_eq_left, Nat.left_eq_add, false_and, and_false, Nat.reduceSub, Nat.sub_self, Nat.le_refl, Nat.zero_le, ge_iff_le, Nat.reduceAdd, Nat.reduceLeDiff, Nat.zero_add, Nat.reduceLT, f2.1, s0, mh_X2_goOn]
      have e7' : B' 7 = A 7 := hall 7 (by unfold kp; omega)
      have e8' : B' 8 = A 8 := hall 8 (by unfold kp; omega)
      have e1' : B' 1 = A 1 := hall 1 (by unfold kp; omega)
      have e4' : B' 4 = A 4 := hall 4 (by unfold kp; omega)
      refine c_finish (A := B') (hM0.fr f2) m1 hlT hL2 (D := D) (by rw [e8']; exact hT') hJ2 (by rw [e1']; exact hD0) ?_
      intro w3 n1 n2 n3 n4
      simp only [wp_c, wp_n, jj_n, v_ct, Int.reduceToNat, Int.toNat_natCast, stE, wlE, lgt, lpu, lpw, v_c2, va_s, true_and, and_true, Option.toList, List.nil_append, List.cons_append, List.take, List.drop, List.reverse, List.reverseAux, List.length_cons, List.length_nil, reduceCtorEq, false_implies, true_implies, forall_const, not_true_eq_false, not_false_eq_true, ite_true, ite_false, Bool.false_eq_true, I_I, J_J, Nat.add_left_cancel_iff, Nat.reduceEqDiff, Nat.add_eq_left, Nat.left_eq_add, false_and, and_false, Nat.reduceSub, Nat.sub_self, Nat.le_refl, Nat.zero_le, ge_iff_le, Nat.reduceAdd, Nat.reduceLeDiff, Nat.zero_add, Nat.reduceLT, mr_X2_goOn]
      refine ⟨Or.inr rfl, ?_⟩
      refine kq w3 n1 n2 (f2.trans n4 (by simp) (by simp)) ?_ ?_
      · rw [← e7']; exact ⟨c', 1, p', hT'.fr n4 (by simp)⟩
      · rw [n3, e7', e4', e1', num_k hall (by omega)]
    | some k =>
      rintro ⟨c', hT'⟩
      simp only [wp_c, wp_n, jj_n, v_ct, Int.reduceToNat, Int.toNat_natCast, stE, wlE, lgt, lpu, lpw, v_c2, va_s, true_and, and_true, Option.toList, List.nil_append, List.cons_append, List.take, List.drop, List.reverse, List.reverseAux, List.length_cons, List.length_nil, reduceCtorEq, false_implies, true_implies, forall_const, not_true_eq_false, not_false_eq_true, ite_true, ite_false, Bool.false_eq_true, I_I, J_J, Nat.add_left_cancel_iff, Nat.reduceEqDiff, Nat.add_eq_left, Nat.left_eq_add, false_and, and_false, Nat.reduceSub, Nat.sub_self, Nat.le_refl, Nat.zero_le, ge_iff_le, Nat.reduceAdd, Nat.reduceLeDiff, Nat.zero_add, Nat.reduceLT, mr_X2_goOn] at kq ⊢
      refine ⟨fun h => absurd rfl h, fun _ => ⟨Or.inl rfl, ?_⟩⟩
      refine kq w2 m1 hL2 (f2.mono (by simp)) ?_ (by rw [hJ2, hD])
      have e7' : B' 7 = A 7 := hall 7 (by unfold kp; omega)
      rw [← e7']; exact ⟨c', hT'⟩
  refine ct_X2_goOn (rt_X2_goOn_0 ?_)
  have hpR : inR (part : Int) := ⟨by omega, by omega⟩
  simp only [wp_c, wp_n, jj_n, v_ct, Int.reduceToNat, Int.toNat_natCast, stE, wlE, lgt, lpu, lpw, v_c2, va_s, true_and, and_true, Option.toList, List.nil_append, List.cons_append, List.take, List.drop, List.reverse, List.reverseAux, List.length_cons, List.length_nil, reduceCtorEq, false_implies, true_implies, forall_const, not_true_eq_false, not_false_eq_true, ite_true, ite_false, Bool.false_eq_true, I_I, J_J, Nat.add_left_cancel_iff, Nat.reduceEqDiff, Nat.add_eq_left, Nat.left_eq_add, false_and, and_false, Nat.reduceSub, Nat.sub_self, Nat.le_refl, Nat.zero_le, ge_iff_le, Nat.reduceAdd, Nat.reduceLeDiff, Nat.zero_add, Nat.reduceLT, s0, s9, r13, t3, oi_e0 hpR, mh_X2_goOn, mr_X2_goOn]
  refine ⟨fun h => ?_, fun h => ?_⟩
  · have hp1 : part = 1 ∧ (pl : Int) ≤ A 1 := by omega
    have hne : ¬ part = 0 := by omega
    simp only [a_go, if_neg hne] at hq
    exact h19 A w pl (fun _ _ => rfl) hI hA (by rw [hp1.1] at t3; exact ⟨t0, t1, t2, t3, t4, t8, t9⟩) hp1.2 (Fr.refl _ _) hq
  · have hp0 : part = 0 ∧ (pl : Int) ≤ A 0 := by omega
    simp only [a_go, if_pos hp0.1] at hq
    rw [hp0.1] at t3
    refine ct_X2_movePins (c_pins b (if 0 < A 8 then 1 else 0) (A 4) c l _ ((A 0).toNat - pl) A pl w .null (by omega) rfl hM0 hA ⟨t0, t1, t2, t3, t4, t8, t9⟩ hI ?_)
    intro w1 m1 m2
    have hpk := fun j hj => pins_k ((A 0).toNat - pl) A pl j (by omega) hI hj
    generalize a_pins ((A 0).toNat - pl) A pl = z at hq m1 hpk ⊢
    obtain ⟨B, ok⟩ := z
    have hBT : TI B := (hpk 0 (by unfold kp; omega)).2
    have e7' : B 7 = A 7 := (hpk 7 (by unfold kp; omega)).1
    cases ok with
    | none =>
      intro hT'
      simp only [wp_c, wp_n, jj_n, v_ct, Int.reduceToNat, Int.toNat_natCast, stE, wlE, lgt, lpu, lpw, v_c2, va_s, true_and, and_true, Option.toList, List.nil_append, List.cons_append, List.take, List.drop, List.reverse, List.reverseAux, List.length_cons, List.length_nil, reduceCtorEq, false_implies, true_implies, forall_const, not_true_eq_false, not_false_eq_true, ite_true, ite_false, Bool.false_eq_true, I_I, J_J, Nat.add_left_cancel_iff, Nat.reduceEqDiff, Nat.add_eq_left, Nat.left_eq_add, false_and, and_false, Nat.reduceSub, Nat.sub_self, Nat.le_refl, Nat.zero_le, ge_iff_le, Nat.reduceAdd, Nat.reduceLeDiff, Nat.zero_add, Nat.reduceLT] at hq ⊢
      refine ⟨fun _ => ?_, fun h => absurd (by decide) h⟩
      have e4 : A 4 = ((A 4).toNat : Int) := by omega
      refine h19 B w1 (A 4).toNat (fun j hj => (hpk j hj).1) hBT m1 ?_ (by omega) m2 hq
      rw [← e4, ← e7']; exact hT'
    | some k =>
      intro hT'
      simp only [wp_c, wp_n, jj_n, v_ct, Int.reduceToNat, Int.toNat_natCast, stE, wlE, lgt, lpu, lpw, v_c2, va_s, true_and, and_true, Option.toList, List.nil_append, List.cons_append, List.take, List.drop, List.reverse, List.reverseAux, List.length_cons, List.length_nil, reduceCtorEq, false_implies, true_implies, forall_const, not_true_eq_false, not_false_eq_true, ite_true, ite_false, Bool.false_eq_true, I_I, J_J, Nat.add_left_cancel_iff, Nat.reduceEqDiff, Nat.add_eq_left, Nat.left_eq_add, false_and, and_false, Nat.reduceSub, Nat.sub_self, Nat.le_refl, Nat.zero_le, ge_iff_le, Nat.reduceAdd, Nat.reduceLeDiff, Nat.zero_add, Nat.reduceLT] at hq ⊢
      refine ⟨fun h => absurd rfl h, fun _ => ⟨Or.inl rfl, ?_⟩⟩
      refine hq w1 m1 ((hL.fr m2 (by simp) (by simp)).row (hpk _ (by unfold kp; omega)).1 (fun j hj => (hpk _ (by unfold kp; omega)).1)) (m2.mono (by simp)) ⟨c, ?_⟩ ?_
      · rw [← e7']; exact hT'
      · rw [(m2.2.2.2 b (by simp)).2]
/-! a turn begins -/
def zr (A : Row) (k : Nat) : Row := fun j => if (52 ≤ j ∧ j < 52 + k) ∨ (84 ≤ j ∧ j < 84 + k) then 0 else A j
theorem zr_up (A : Row) (k : Nat) (hk : k < 16) : up (up (zr A k) (52 + k) 0) (84 + k) 0 = zr A (k + 1) := by
  funext j
  simp only [up_eq, zr]
  by_cases h1 : j = 84 + k
  · rw [if_pos h1, if_pos (by omega)]
  · rw [if_neg h1]
    by_cases h2 : j = 52 + k
    · rw [if_pos h2, if_pos (by omega)]
    · rw [if_neg h2]
      by_cases h3 : (52 ≤ j ∧ j < 52 + k) ∨ (84 ≤ j ∧ j < 84 + k)
      · rw [if_pos h3, if_pos (by omega)]
      · rw [if_neg h3, if_neg (by omega)]
def a_beg (A : Row) (way : Int) : Row := up (zr (up (up (up A 9 0) 10 0) 11 0) 16) 7 way
theorem c_beg_52 {b : Nat} {x y : Int32} {A : Row} {Q : mW → mO → Prop} : ∀ (n k : Nat) (w : mW), k + n = 16 → Mb w b → MemA w b (zr A k) → (∀ w', MemA w' b (zr A 16) → Fr [b + 10, b + 11] w w' → Q w' (.inl none)) →
    RT n_X4_begin 52 [.ref (b + 9), .int x, .int y, .int (Int32.ofInt k)] [] w (0, 0, false) Q := by
  intro n
  induction n with
  | zero =>
    intro k w hk hM hA hq
    have e : k = 16 := by omega
    have hR : inR (k : Int) := ⟨by omega, by omega⟩
    refine rt_X4_begin_52 ?_
    simp only [wp_c, wp_n, jj_n, v_ct, Int.reduceToNat, Int.toNat_natCast, stE, wlE, lgt, lpu, lpw, v_c2, va_s, true_and, and_true, Option.toList, List.nil_append, List.cons_append, List.take, List.drop, List.reverse, List.reverseAux, List.length_cons, List.length_nil, reduceCtorEq, false_implies, true_implies, forall_const, not_true_eq_false, not_false_eq_true, ite_true, ite_false, Bool.false_eq_true, I_I, J_J, Nat.add_left_cancel_iff, Nat.reduceEqDiff, Nat.add_eq_left, Nat.left_eq_add, false_and, and_false, Nat.reduceSub, Nat.sub_self, Nat.le_refl, Nat.zero_le, ge_iff_le, Nat.reduceAdd, Nat.reduceLeDiff, Nat.zero_add, Nat.reduceLT, oi_le (show inR 16 from ⟨by omega, by omega⟩) hR]
    refine ⟨fun _ => ?_, fun h => absurd (by omega) h⟩
    refine rt_X4_begin_78 ?_
    simp only [wp_c, wp_n, jj_n, v_ct, Int.reduceToNat, Int.toNat_natCast, stE, wlE, lgt, lpu, lpw, v_c2, va_s, true_and, and_true, Option.toList, List.nil_append, List.cons_append, List.take, List.drop, List.reverse, List.reverseAux, List.length_cons, List.length_nil, reduceCtorEq, false_implies, true_implies, forall_const, not_true_eq_false, not_false_eq_true, ite_true, ite_false, Bool.false_eq_true, I_I, J_J, Nat.add_left_cancel_iff, Nat.reduceEqDiff, Nat.add_eq_left, Nat.left_eq_add, false_and, and_false, Nat.reduceSub, Nat.sub_self, Nat.le_refl, Nat.zero_le, ge_iff_le, Nat.reduceAdd, Nat.reduceLeDiff, Nat.zero_add, Nat.reduceLT]
    rw [e] at hA
    exact hq w hA (Fr.refl _ _)
  | succ n ih =>
    intro k w hk hM hA hq
    have hM0 := hM
    obtain ⟨⟨s0, s1, s2, s3, s4, s5, s6, s7, s8, s9, s10, s11⟩, r6, r7, r8, r9, r10, r11, r12, r13, q2, q10, q11⟩ := hM
    have hR : inR (k : Int) := ⟨by omega, by omega⟩
    refine rt_X4_begin_52 ?_
    simp only [wp_c, wp_n, jj_n, v_ct, Int.reduceToNat, Int.toNat_natCast, stE, wlE, lgt, lpu, lpw, v_c2, va_s, true_and, and_true, Option.toList, List.nil_append, List.cons_append, List.take, List.drop, List.reverse, List.reverseAux, List.length_cons, List.length_nil, reduceCtorEq, false_implies, true_implies, forall_const, not_true_eq_false, not_false_eq_true, ite_true, ite_false, Bool.false_eq_true, I_I, J_J, Nat.add_left_cancel_iff, Nat.reduceEqDiff, Nat.add_eq_left, Nat.left_eq_add, false_and, and_false, Nat.reduceSub, Nat.sub_self, Nat.le_refl, Nat.zero_le, ge_iff_le, Nat.reduceAdd, Nat.reduceLeDiff, Nat.zero_add, Nat.reduceLT, s9, s10, s11, q10, q11, vp_oi hR, oi_nc hR, oi_le (show inR 16 from ⟨by omega, by omega⟩) hR, oi_add]
    refine ⟨fun h => absurd h (by omega), fun _ => ⟨by omega, by omega, ?_⟩⟩
    have g : MemA (s_I (s_I w (b + 10) k (Int32.ofInt 0)) (b + 11) k (Int32.ofInt 0)) b (zr A (k + 1)) := by
      rw [← zr_up A k (by omega)]
      exact (hA.lev (by omega)).mov (by omega)
    have f : Fr [b + 10, b + 11] w (s_I (s_I w (b + 10) k (Int32.ofInt 0)) (b + 11) k (Int32.ofInt 0)) := ((Fr.refl _ _).I (by simp)).I (by simp)
    exact ih (k + 1) _ (by omega) (hM0.fr f) g (fun w' k1 k2 => hq w' k1 (f.trans k2 (fun _ q => q) (fun _ q => q)))
theorem zr_0 (A : Row) : zr A 0 = A := by
  funext j; simp only [zr]; rw [if_neg (by omega)]
theorem c_begin {b : Nat} {way dv : Int} {A : Row} {w : mW} {Q : mW → mO → Prop} (hM : Mb w b) (hA : MemA w b A) (hdv : dv = 0 ∨ dv = 1) (hq : ∀ w', MemA w' b (a_beg A way) → T9 w' b 0 dv way 0 0 (Int32.ofInt 0) (Int32.ofInt 0) → Fr [b + 9, b + 10, b + 11] w w' → Q w' (.inl none)) :
    CT n_X4_begin [.ref (b + 9), .int (Int32.ofInt way), .int (Int32.ofInt dv)] w Q := by
  have s9 := hM.1.2.2.2.2.2.2.2.2.2.1
  have hdv' : Int32.ofInt dv = 0 ∨ Int32.ofInt dv = 1 := by rcases hdv with rfl | rfl; exact Or.inl rfl; exact Or.inr rfl
  refine ct_X4_begin (rt_X4_begin_0 ?_)
  simp only [wp_c, wp_n, jj_n, v_ct, Int.reduceToNat, Int.toNat_natCast, stE, wlE, lgt, lpu, lpw, v_c2, va_s, true_and, and_true, Option.toList, List.nil_append, List.cons_append, List.take, List.drop, List.reverse, List.reverseAux, List.length_cons, List.length_nil, reduceCtorEq, false_implies, true_implies, forall_const, not_true_eq_false, not_false_eq_true, ite_true, ite_false, Bool.false_eq_true, I_I, J_J, Nat.add_left_cancel_iff, Nat.reduceEqDiff, Nat.add_eq_left, Nat.left_eq_add, false_and, and_false, Nat.reduceSub, Nat.sub_self, Nat.le_refl, Nat.zero_le, ge_iff_le, Nat.reduceAdd, Nat.reduceLeDiff, Nat.zero_add, Nat.reduceLT, s9]
  refine ⟨by decide, hdv', ?_⟩
  have g := (((((((((hA.t0 (x := Int32.ofInt 0)).t1 (x := Int32.ofInt dv)).t2 (x := Int32.ofInt way)).t3 (x := Int32.ofInt 0)).t4 (x := Int32.ofInt 0)).o5 (v := 0)).o6 (v := 0)).o7 (v := 0)).t8 (x := Int32.ofInt 0)).t9 (x := Int32.ofInt 0)
  refine c_beg_52 (A := up (up (up A 9 0) 10 0) 11 0) 16 0 _ rfl (hM.fr (l := [b + 9]) ((((((((((Fr.refl _ _).I (by simp)).I (by simp)).I (by simp)).I (by simp)).I (by simp)).I (by simp)).I (by simp)).I (by simp)).I (by simp) |>.I (by simp))) (by rw [zr_0]; exact g) ?_
  intro w' k1 k2
  have f0 : Fr [b + 9] w _ := ((((((((((Fr.refl [b + 9] w).I (a := b + 9) (i := 0) (x := Int32.ofInt 0) (by simp)).I (a := b + 9) (i := 1) (x := Int32.ofInt dv) (by simp)).I (a := b + 9) (i := 2) (x := Int32.ofInt way) (by simp)).I (a := b + 9) (i := 3) (x := Int32.ofInt 0) (by simp)).I (a := b + 9) (i := 4) (x := Int32.ofInt 0) (by simp)).I (a := b + 9) (i := 5) (x := Int32.ofInt 0) (by simp)).I (a := b + 9) (i := 6) (x := Int32.ofInt 0) (by simp)).I (a := b + 9) (i := 7) (x := Int32.ofInt 0) (by simp)).I (a := b + 9) (i := 8) (x := Int32.ofInt 0) (by simp)).I (a := b + 9) (i := 9) (x := Int32.ofInt 0) (by simp)
  refine hq w' (k1.free (by omega)) ?_ (f0.trans k2 (by simp) (by simp))
  refine T9.fr ?_ k2 (by simp)
  simp only [T9, wp_c, wp_n, jj_n, v_ct, Int.reduceToNat, Int.toNat_natCast, stE, wlE, lgt, lpu, lpw, v_c2, va_s, true_and, and_true, Option.toList, List.nil_append, List.cons_append, List.take, List.drop, List.reverse, List.reverseAux, List.length_cons, List.length_nil, reduceCtorEq, false_implies, true_implies, forall_const, not_true_eq_false, not_false_eq_true, ite_true, ite_false, Bool.false_eq_true, I_I, J_J, Nat.add_left_cancel_iff, Nat.reduceEqDiff, Nat.add_eq_left, Nat.left_eq_add, false_and, and_false, Nat.reduceSub, Nat.sub_self, Nat.le_refl, Nat.zero_le, ge_iff_le, Nat.reduceAdd, Nat.reduceLeDiff, Nat.zero_add, Nat.reduceLT]
/-! the due result, digit by digit -/
def tn (f : Nat → Int) : Nat → Int
  | 0 => 0
  | n + 1 => tn f n + f n * 10 ^ n
theorem tn_first (f : Nat → Int) : ∀ n : Nat, tn f (n + 1) = f 0 + 10 * tn (fun i => f (i + 1)) n := by
  intro n
  induction n with
  | zero => simp [tn]
  | succ n ih =>
    rw [tn, ih, tn, Int.mul_add, Int.pow_succ]
    have : f (n + 1) * (10 ^ n * 10) = 10 * (f (n + 1) * 10 ^ n) := by rw [← Int.mul_assoc, Int.mul_comm]
    omega
theorem tn_c {f g : Nat → Int} : ∀ n : Nat, (∀ i, i < n → f i = g i) → tn f n = tn g n := by
  intro n
  induction n with
  | zero => intro _; rfl
  | succ n ih => intro h; simp only [tn]; rw [ih (fun i hi => h i (by omega)), h n (by omega)]
theorem hn_tn (f : Nat → Int) : ∀ (n : Nat) (v : Int), hn f n v = v * 10 ^ n + tn f n := by
  intro n
  induction n with
  | zero => intro v; simp [hn, tn]
  | succ n ih =>
    intro v
    simp only [hn, tn]
    rw [ih, Int.pow_succ, Int.add_mul, Int.mul_assoc, Int.mul_comm 10 (10 ^ n)]
    omega
theorem tn_add (f : Nat → Int) (m : Nat) : ∀ n : Nat, tn f (m + n) = tn f m + 10 ^ m * tn (fun i => f (m + i)) n := by
  intro n
  induction n with
  | zero => simp [tn]
  | succ n ih =>
    rw [← Nat.add_assoc, tn, ih, tn, Int.mul_add, Int.pow_add]
    have : f (m + n) * (10 ^ m * 10 ^ n) = 10 ^ m * (f (m + n) * 10 ^ n) := by
      rw [← Int.mul_assoc, ← Int.mul_assoc, Int.mul_comm (f (m + n))]
    omega
theorem tn_b (f : Nat → Int) : ∀ n : Nat, (∀ i, i < n → 0 ≤ f i ∧ f i ≤ 9) → 0 ≤ tn f n ∧ tn f n < 10 ^ n := by
  intro n h
  have := hn_b f n 0 h (by omega)
  rw [hn_tn] at this
  simpa using this
def p_at (A : Row) (i : Nat) : Int := if (i : Int) < A 0 then A (20 + i) else 0
def a_owe : Nat → Row → Nat → Int → Row
  | 0, A, _, _ => A
  | n + 1, A, wh, o =>
    let v := A (116 + wh) + A 7 * p_at A (wh - (A 4).toNat) + o
    let o' : Int := if 9 < v then 1 else if v < 0 then -1 else 0
    a_owe n (up A (116 + wh) (v - 10 * o')) (wh + 1) o'
theorem owe_sum : ∀ (n : Nat) (A : Row) (wh : Nat) (o : Int), (o = 0 ∨ o = 1 ∨ o = -1) → TI A → (∀ j, j < 16 → 0 ≤ A (116 + j) ∧ A (116 + j) ≤ 9) → wh + n ≤ 16 → (A 4).toNat ≤ wh →
    (∀ j, j < 16 → 0 ≤ a_owe n A wh o (116 + j) ∧ a_owe n A wh o (116 + j) ≤ 9) ∧ (∀ j, j < 116 + wh ∨ 116 + wh + n ≤ j → a_owe n A wh o j = A j) ∧
    ∃ o', (o' = 0 ∨ o' = 1 ∨ o' = -1) ∧ tn (fun i => a_owe n A wh o (116 + wh + i)) n + o' * 10 ^ n = tn (fun i => A (116 + wh + i)) n + A 7 * tn (fun i => p_at A (wh - (A 4).toNat + i)) n + o := by
  intro n
  induction n with
  | zero =>
    intro A wh o ho hI hd hn hp
    exact ⟨hd, fun _ _ => rfl, o, ho, by simp [tn]⟩
  | succ n ih =>
    intro A wh o ho hI hd hn hp
    have hP : 0 ≤ p_at A (wh - (A 4).toNat) ∧ p_at A (wh - (A 4).toNat) ≤ 9 := by
      unfold p_at; split
      · exact hI.2.2.1 _ (by have := hI.1; omega)
      · omega
    have h7 := hI.2.1
    have hdw := hd wh (by omega)
    obtain ⟨v, hv⟩ : ∃ v, v = A (116 + wh) + A 7 * p_at A (wh - (A 4).toNat) + o := ⟨_, rfl⟩
    have hvb : -10 ≤ v ∧ v ≤ 19 := by rcases h7 with h | h <;> rw [h] at hv <;> omega
    obtain ⟨o1, ho1⟩ : ∃ o1 : Int, o1 = if 9 < v then 1 else if v < 0 then -1 else 0 := ⟨_, rfl⟩
    have ho1' : o1 = 0 ∨ o1 = 1 ∨ o1 = -1 := by rw [ho1]; split; exact Or.inr (Or.inl rfl); split; exact Or.inr (Or.inr rfl); exact Or.inl rfl
    have hvd : 0 ≤ v - 10 * o1 ∧ v - 10 * o1 ≤ 9 := by
      rw [ho1]; split
      · omega
      · split <;> omega
    have hstep : a_owe (n + 1) A wh o = a_owe n (up A (116 + wh) (v - 10 * o1)) (wh + 1) o1 := by rw [a_owe, ← hv, ← ho1]
    have hI' : TI (up A (116 + wh) (v - 10 * o1)) := hI.up (by omega)
    have e4 : up A (116 + wh) (v - 10 * o1) 4 = A 4 := by rw [up_eq, if_neg (by omega)]
    have e7 : up A (116 + wh) (v - 10 * o1) 7 = A 7 := by rw [up_eq, if_neg (by omega)]
    have ep : ∀ i, p_at (up A (116 + wh) (v - 10 * o1)) i = p_at A i := by
      intro i
      have e0 : up A (116 + wh) (v - 10 * o1) 0 = A 0 := by rw [up_eq, if_neg (by omega)]
      unfold p_at
      rw [e0]
      by_cases h : (i : Int) < A 0
      · rw [if_pos h, if_pos h, up_eq, if_neg (by have := hI.1; omega)]
      · rw [if_neg h, if_neg h]
    obtain ⟨g1, g2, o', g3, g4⟩ := ih (up A (116 + wh) (v - 10 * o1)) (wh + 1) o1 ho1' hI' (fun j hj => by
      rw [up_eq]; split
      · exact hvd
      · exact hd j hj) (by omega) (by rw [e4]; omega)
    rw [← hstep] at g1 g2 g4
    refine ⟨g1, fun j hj => ?_, o', g3, ?_⟩
    · rw [g2 j (by omega), up_eq, if_neg (by omega)]
    · rw [tn_first, tn_first, tn_first]
      have q1 : a_owe (n + 1) A wh o (116 + wh + 0) = v - 10 * o1 := by rw [g2 _ (by omega), up_eq, if_pos (by omega)]
      have q2 : tn (fun i => a_owe (n + 1) A wh o (116 + wh + (i + 1))) n = tn (fun i => a_owe (n + 1) A wh o (116 + (wh + 1) + i)) n := tn_c n (fun i _ => by congr 1; omega)
      have q3 : tn (fun i => A (116 + wh + (i + 1))) n = tn (fun i => up A (116 + wh) (v - 10 * o1) (116 + (wh + 1) + i)) n := tn_c n (fun i _ => by rw [up_eq, if_neg (by omega)]; congr 1; omega)
      have q4 : tn (fun i => p_at A (wh - (A 4).toNat + (i + 1))) n = tn (fun i => p_at (up A (116 + wh) (v - 10 * o1)) (wh + 1 - (up A (116 + wh) (v - 10 * o1) 4).toNat + i)) n := tn_c n (fun i _ => by rw [ep, e4]; congr 1; omega)
      rw [q2, q3, q4]
      rw [e7] at g4
      generalize tn (fun i => a_owe (n + 1) A wh o (116 + (wh + 1) + i)) n = t1 at g4 ⊢
      generalize tn (fun i => up A (116 + wh) (v - 10 * o1) (116 + (wh + 1) + i)) n = t2 at g4 ⊢
      generalize tn (fun i => p_at (up A (116 + wh) (v - 10 * o1)) (wh + 1 - (up A (116 + wh) (v - 10 * o1) 4).toNat + i)) n = t3 at g4 ⊢
      simp only [Nat.add_zero] at q1 ⊢
      rw [q1, Int.pow_succ]
      generalize (10 : Int) ^ n = pw at g4 ⊢
      have e1 : o' * (pw * 10) = 10 * (o' * pw) := by rw [← Int.mul_assoc, Int.mul_comm]
      rw [e1]
      generalize o' * pw = op at g4 ⊢
      rcases h7 with h | h <;> rw [h] at hv g4 ⊢ <;> omega

/-- the due result behind a turn -/
theorem owe_du {A : Row} (hI : TI A) (hd : ∀ j, j < 16 → 0 ≤ A (116 + j) ∧ A (116 + j) ≤ 9) :
    (∀ j, j < 16 → 0 ≤ a_owe (A 1 - A 4).toNat A (A 4).toNat 0 (116 + j) ∧ a_owe (A 1 - A 4).toNat A (A 4).toNat 0 (116 + j) ≤ 9) ∧ (∀ j, j < 116 ∨ 132 ≤ j → a_owe (A 1 - A 4).toNat A (A 4).toNat 0 j = A j) ∧
    du (a_owe (A 1 - A 4).toNat A (A 4).toNat 0) = (du A + A 7 * (p_num A * 10 ^ (A 4).toNat)) % 10 ^ (A 1).toNat := by
  have h0 := hI.1
  obtain ⟨g1, g2, o', g3, g4⟩ := owe_sum (A 1 - A 4).toNat A (A 4).toNat 0 (Or.inl rfl) hI hd (by omega) (by omega)
  refine ⟨g1, fun j hj => g2 j (by omega), ?_⟩
  generalize hB : a_owe (A 1 - A 4).toNat A (A 4).toNat 0 = B at g1 g2 g4 ⊢
  have e1 : B 1 = A 1 := g2 1 (by omega)
  obtain ⟨n, hn⟩ : ∃ n : Nat, (A 1 - A 4).toNat = n := ⟨_, rfl⟩
  obtain ⟨p, hp⟩ : ∃ p : Nat, (A 4).toNat = p := ⟨_, rfl⟩
  have hm : (A 1).toNat = p + n := by omega
  rw [hn, hp] at g4
  have k1 : du B = tn (fun i => A (116 + i)) p + 10 ^ p * tn (fun i => B (116 + p + i)) n := by
    unfold du
    rw [e1, hm, hn_tn, tn_add]
    have a1 : tn (fun i => B (116 + i)) p = tn (fun i => A (116 + i)) p := tn_c p (fun i hi => g2 _ (by omega))
    have a2 : tn (fun i => (fun i => B (116 + i)) (p + i)) n = tn (fun i => B (116 + p + i)) n := tn_c n (fun i _ => by show B _ = B _; congr 1; omega)
    rw [a1, a2]; omega
  have k2 : du A = tn (fun i => A (116 + i)) p + 10 ^ p * tn (fun i => A (116 + p + i)) n := by
    unfold du
    rw [hm, hn_tn, tn_add]
    have a2 : tn (fun i => (fun i => A (116 + i)) (p + i)) n = tn (fun i => A (116 + p + i)) n := tn_c n (fun i _ => by show A _ = A _; congr 1; omega)
    rw [a2]; omega
  have k3 : p_num A = tn (fun i => p_at A (p - p + i)) n := by
    obtain ⟨q, hq⟩ : ∃ q : Nat, (A 0).toNat = q := ⟨_, rfl⟩
    have hqn : n = q + (n - q) := by omega
    have z : ∀ k : Nat, tn (fun i => (fun i => p_at A (p - p + i)) (q + i)) k = 0 := by
      intro k
      induction k with
      | zero => rfl
      | succ k ih =>
        have e0 : p_at A (p - p + (q + k)) = 0 := by unfold p_at; rw [if_neg (by omega)]
        rw [tn, ih]
        show 0 + p_at A (p - p + (q + k)) * 10 ^ k = 0
        rw [e0]; simp
    unfold p_num
    rw [hq, hn_tn, hqn, tn_add, z]
    have : tn (fun i => A (20 + i)) q = tn (fun i => p_at A (p - p + i)) q := tn_c q (fun i hi => by unfold p_at; rw [if_pos (by omega)]; congr 1; omega)
    rw [this]; simp
  have b1 := tn_b (fun i => A (116 + i)) p (fun i hi => hd i (by omega))
  have b2 := tn_b (fun i => B (116 + p + i)) n (fun i hi => by have := g1 (p + i) (by omega); rw [show 116 + p + i = 116 + (p + i) by omega]; exact this)
  rw [hp, k1, k2, k3, hm, Int.pow_add]
  generalize tn (fun i => p_at A (p - p + i)) n = P at g4 ⊢
  generalize tn (fun i => A (116 + i)) p = L at b1 ⊢
  generalize tn (fun i => A (116 + p + i)) n = S at g4 ⊢
  generalize tn (fun i => B (116 + p + i)) n = S' at g4 b2 ⊢
  have hpp : (0 : Int) < 10 ^ p := Int.pow_pos (by decide)
  generalize (10 : Int) ^ p = x at b1 hpp ⊢
  generalize (10 : Int) ^ n = y at g4 b2 ⊢
  have e : L + x * S + A 7 * (P * x) = L + x * S' + x * y * o' := by
    have e2 : S + A 7 * P = S' + o' * y := by omega
    have e3 : x * (S + A 7 * P) = x * (S' + o' * y) := by rw [e2]
    rw [Int.mul_add, Int.mul_add] at e3
    have e4 : x * (A 7 * P) = A 7 * (P * x) := by rw [Int.mul_comm x, Int.mul_assoc]
    have e5 : x * (o' * y) = x * y * o' := by rw [Int.mul_comm o' y, Int.mul_assoc]
    omega
  rw [e, Int.add_mul_emod_self_left]
  refine (Int.emod_eq_of_lt ?_ ?_).symm
  · have := Int.mul_nonneg (Int.le_of_lt hpp) b2.1
    omega
  · have h1 : x * S' ≤ x * (y - 1) := Int.mul_le_mul_of_nonneg_left (by omega) (Int.le_of_lt hpp)
    rw [Int.mul_sub] at h1
    omega
/-! a Machine's state, whole -/
def FrM (b : Nat) (w w' : mW) : Prop := w_sh w' = w_sh w ∧ w_R w' = w_R w ∧ w_n w' = w_n w ∧ ∀ a, a < b ∨ b + 12 ≤ a → w_I w' a = w_I w a ∧ w_J w' a = w_J w a
theorem Fr.toM {l : List Nat} {b : Nat} {w w' : mW} (h : Fr l w w') (hl : ∀ a ∈ l, b ≤ a ∧ a < b + 12) : FrM b w w' :=
  ⟨h.1, h.2.1, h.2.2.1, fun a ha => h.2.2.2 a (fun q => by have := hl a q; omega)⟩
theorem FrM.refl (b : Nat) (w : mW) : FrM b w w := ⟨rfl, rfl, rfl, fun _ _ => ⟨rfl, rfl⟩⟩
theorem FrM.trans {b : Nat} {w w' w'' : mW} (h : FrM b w w') (h' : FrM b w' w'') : FrM b w w'' :=
  ⟨h'.1.trans h.1, h'.2.1.trans h.2.1, h'.2.2.1.trans h.2.2.1, fun a ha => ⟨(h'.2.2.2 a ha).1.trans (h.2.2.2 a ha).1, (h'.2.2.2 a ha).2.trans (h.2.2.2 a ha).2⟩⟩
theorem Mb.frM {b c : Nat} {w w' : mW} (h : Mb w c) (f : FrM b w w') : Mb w' c := by
  unfold Mb; rw [f.1, f.2.1]; exact h
def TR (w : mW) (b : Nat) (A : Row) : Prop := ∃ (dv d p pl : Int) (c l : Int32), T9 w b (if 0 < A 5 then 1 else 0) dv d p pl c l ∧ (dv = 0 ∨ dv = 1) ∧ 0 ≤ l ∧ (0 < A 5 → dv = (if 0 < A 8 then 1 else 0) ∧ d = A 7 ∧ p = A 5 - 1 ∧ pl = A 6)
def MS (w : mW) (b : Nat) (A : Row) : Prop := Mb w b ∧ MemA w b A ∧ LogA w b A ∧ w_J w b 5 = Int64.ofInt (du A) ∧ TR w b A
/-- what every row keeps -/
def TJ (A : Row) : Prop := TI (up A 7 1) ∧ ∀ j, j < 16 → 0 ≤ A (116 + j) ∧ A (116 + j) ≤ 9
theorem TI.of {A : Row} (h : TI A) : TI (Jvm.Pilot.CCrankCalculatorLaw_law_r5314_5e3ffd.up A 7 1) := by
  obtain ⟨h0, h7, h1, h2, h3, h4, h5⟩ := h
  refine ⟨?_, ?_, fun j hj => ?_, fun j hj => ?_, fun j hj => ?_, fun j hj => ?_, fun j hj => ?_⟩
  · simp only [up_eq]
    rw [if_neg (by omega), if_neg (by omega), if_neg (by omega), if_neg (by omega), if_neg (by omega)]; exact h0
  · rw [up_eq, if_pos rfl]; exact Or.inl rfl
  all_goals rw [up_eq, if_neg (by omega)]
  · exact h1 j hj
  · exact h2 j hj
  · exact h3 j hj
  · exact h4 j hj
  · exact h5 j hj
theorem beg_k (A : Row) (way : Int) (j : Nat) (hj : j ≠ 7 ∧ (j < 9 ∨ 12 ≤ j) ∧ (j < 52 ∨ 68 ≤ j) ∧ (j < 84 ∨ 100 ≤ j)) : a_beg A way j = A j := by
  simp only [a_beg, up_eq, zr]
  rw [if_neg (by omega), if_neg (by omega), if_neg (by omega), if_neg (by omega), if_neg (by omega)]
theorem beg_7 (A : Row) (way : Int) : a_beg A way 7 = way := by simp [a_beg, up_eq]
theorem beg_TI {A : Row} {way : Int} (h : TI (up A 7 1)) (hw : way = 1 ∨ way = -1) : TI (a_beg A way) := by
  obtain ⟨h0, h7, h1, h2, h3, h4, h5⟩ := h
  simp only [up_eq] at h0
  rw [if_neg (by omega), if_neg (by omega), if_neg (by omega), if_neg (by omega), if_neg (by omega)] at h0
  refine ⟨?_, ?_, fun j hj => ?_, fun j hj => ?_, fun j hj => ?_, fun j hj => ?_, fun j hj => ?_⟩
  · rw [beg_k _ _ _ (by omega), beg_k _ _ _ (by omega), beg_k _ _ _ (by omega), beg_k _ _ _ (by omega), beg_k _ _ _ (by omega)]; exact h0
  · rw [beg_7]; exact hw
  · have := h1 j hj; rw [up_eq, if_neg (by omega)] at this; rw [beg_k _ _ _ (by omega)]; exact this
  · have := h2 j hj; rw [up_eq, if_neg (by omega)] at this; rw [beg_k _ _ _ (by omega)]; exact this
  · have := h3 j hj; rw [up_eq, if_neg (by omega)] at this; rw [beg_k _ _ _ (by omega)]; exact this
  · have e : a_beg A way (52 + j) = 0 := by
      simp only [a_beg, up_eq, zr]; rw [if_neg (by omega), if_pos (by omega)]
    rw [e]; omega
  · have := h5 j hj; rw [up_eq, if_neg (by omega)] at this; rw [beg_k _ _ _ (by omega)]; exact this
def kg (j : Nat) : Prop := j < 9 ∨ (20 ≤ j ∧ j < 28) ∨ (68 ≤ j ∧ j < 84) ∨ (116 ≤ j ∧ j < 132)
theorem kg_kp {j : Nat} (h : kg j) : kp j := by unfold kg at h; unfold kp; omega
theorem lev_l : ∀ (n : Nat) (A : Row) (wh : Nat) (c l : Int32), 0 ≤ l → 0 ≤ (a_lev n A wh c l).2.2 := by
  intro n
  induction n with
  | zero => intro A wh c l h; exact h
  | succ n ih =>
    intro A wh c l h
    rw [a_lev]
    split
    · exact ih _ _ _ _ h
    · split
      · exact ih _ _ _ _ h
      · split
        · exact ih _ _ _ _ h
        · split
          · exact h
          · refine ih _ _ _ _ ?_
            split
            · rename_i hlt; exact Int32.le_trans h (Int32.le_of_lt hlt)
            · exact h
theorem endC_k {A : Row} (hI : TI A) (h18 : 0 ≤ A 18) {j : Nat} (hj : kg j) : a_endC A j = A j := by
  have h0 := hI.1
  unfold kg at hj
  have hB : ∀ i, (i < 44 ∨ 52 ≤ i) → a_cnt (A 2 - A 4).toNat A (A 4).toNat (if 0 < A 8 then -A 7 else A 7) i = A i := fun i hi => cnt_s _ _ _ _ _ (by omega)
  simp only [a_endC]
  generalize a_cnt (A 2 - A 4).toNat A (A 4).toNat (if 0 < A 8 then -A 7 else A 7) = B at hB
  split
  · rw [log_s _ _ _ _ _ (by rw [up_eq, if_neg (by omega), up_eq, if_neg (by omega), hB _ (by omega)]; exact h18) _ (by omega), up_eq, if_neg (by omega), up_eq, if_neg (by omega), hB _ (by omega)]
  · rw [log_s _ _ _ _ _ (by rw [up_eq, if_neg (by omega), hB _ (by omega)]; exact h18) _ (by omega), up_eq, if_neg (by omega), hB _ (by omega)]
theorem endC_TI {A : Row} (hI : TI A) (h18 : 0 ≤ A 18) : TI (a_endC A) := by
  have h0 := hI.1
  have hway : (if 0 < A 8 then -A 7 else A 7) = 1 ∨ (if 0 < A 8 then -A 7 else A 7) = -1 := by have := hI.2.1; split <;> omega
  have hT := cnts_TI hway (A 2 - A 4).toNat A (A 4).toNat hI (by omega)
  have hB : ∀ i, (i < 44 ∨ 52 ≤ i) → a_cnt (A 2 - A 4).toNat A (A 4).toNat (if 0 < A 8 then -A 7 else A 7) i = A i := fun i hi => cnt_s _ _ _ _ _ (by omega)
  have key : ∀ C : Row, TI C → 0 ≤ C 18 → ∀ x y z r, TI (a_log C x y z r) := by
    intro C hC h1 x y z r
    have hs := log_s C x y z r h1
    obtain ⟨h0, h7, h1, h2, h3, h4, h5⟩ := hC
    refine ⟨?_, ?_, fun j hj => ?_, fun j hj => ?_, fun j hj => ?_, fun j hj => ?_, fun j hj => ?_⟩
    · rw [hs _ (by omega), hs _ (by omega), hs _ (by omega), hs _ (by omega), hs _ (by omega)]; exact h0
    · rw [hs _ (by omega)]; exact h7
    all_goals rw [hs _ (by omega)]
    · exact h1 j hj
    · exact h2 j hj
    · exact h3 j hj
    · exact h4 j hj
    · exact h5 j hj
  simp only [a_endC]
  generalize a_cnt (A 2 - A 4).toNat A (A 4).toNat (if 0 < A 8 then -A 7 else A 7) = B at hB hT
  split
  · exact key _ ((hT.up (by omega)).up (by omega)) (by rw [up_eq, if_neg (by omega), up_eq, if_neg (by omega), hB _ (by omega)]; exact h18) _ _ _ _
  · exact key _ (hT.up (by omega)) (by rw [up_eq, if_neg (by omega), hB _ (by omega)]; exact h18) _ _ _ _
theorem MemA.row {w : mW} {b : Nat} {A B : Row} (h : MemA w b A) (hr : ∀ j, j < 116 → j ≠ 5 → B j = A j) : MemA w b B := by
  obtain ⟨⟨b0, b1, b2, b3, b4⟩, a1, a2, a3, a4, a5, a6, ⟨c5, c6, c7⟩, a8, a9⟩ := h
  refine ⟨⟨?_, ?_, ?_, ?_, ?_⟩, fun j hj => ?_, fun j hj => ?_, fun j hj => ?_, fun j hj => ?_, fun j hj => ?_, fun j hj => ?_, ⟨?_, ?_, ?_⟩, fun j hj => ?_, fun j hj => ?_⟩
  all_goals rw [hr _ (by omega) (by omega)]
  all_goals first | assumption | exact a1 _ hj | exact a2 _ hj | exact a3 _ hj | exact a4 _ hj | exact a5 _ hj | exact a6 _ hj | exact a8 _ hj | exact a9 _ hj
def a_fin (r : Row × Option (Nat × Nat) × Int32) : Row := match r.2.1 with
  | none => up (a_owe (r.1 1 - r.1 4).toNat r.1 (r.1 4).toNat 0) 5 0
  | some (p, k) => up (up r.1 5 ((p : Int) + 1)) 6 k
theorem lv_k {A B : Row} {wh : Nat} {c l : Int32} (hB : TI B) (e1 : B 1 = A 1) (hw : (wh : Int) ≤ A 1) (h18 : 0 ≤ B 18) (r : Row × Option (Nat × Nat) × Int32)
    (hr : r = match a_lev ((A 1).toNat - wh) B wh c l with | (B', none, l') => (a_endC B', none, l') | (B', some k, l') => (B', some (1, k), l')) :
    (∀ j, kg j → r.1 j = B j) ∧ TI r.1 ∧ (0 ≤ l → 0 ≤ r.2.2) := by
  have h0 := hB.1
  have h1 := lev_k ((A 1).toNat - wh) B wh c l
  have h2 := lev_TI ((A 1).toNat - wh) B wh c l (by omega) hB
  have h3 := lev_l ((A 1).toNat - wh) B wh c l
  have h1' : ∀ j, kp j → (a_lev ((A 1).toNat - wh) B wh c l).1 j = B j := fun j hj => h1 j (by omega) (by omega) hj
  clear h1
  generalize a_lev ((A 1).toNat - wh) B wh c l = z at hr h1' h2 h3
  obtain ⟨B', ok, l'⟩ := z
  cases ok with
  | none =>
    subst hr
    have h18' : 0 ≤ B' 18 := by have := h1' 18 (by unfold kp; omega); simp only at this; omega
    exact ⟨fun j hj => (endC_k h2 h18' hj).trans (h1' j (kg_kp hj)), endC_TI h2 h18', h3⟩
  | some k =>
    subst hr
    exact ⟨fun j hj => h1' j (kg_kp hj), h2, h3⟩
theorem go_k {A : Row} {part pl : Nat} {c l : Int32} (hI : TI A) (hp : (part = 0 ∧ (pl : Int) ≤ A 0) ∨ (part = 1 ∧ (pl : Int) ≤ A 1)) (h18 : 0 ≤ A 18) : (∀ j, kg j → (a_go A part pl c l).1 j = A j) ∧ TI (a_go A part pl c l).1 ∧ (0 ≤ l → 0 ≤ (a_go A part pl c l).2.2) := by
  have h0 := hI.1
  by_cases hp0 : part = 0
  · simp only [a_go, if_pos hp0]
    have hpk := fun j hj => pins_k ((A 0).toNat - pl) A pl j (by omega) hI hj
    generalize a_pins ((A 0).toNat - pl) A pl = z at hpk
    obtain ⟨B, ok⟩ := z
    cases ok with
    | none =>
      have e1 := (hpk 1 (by unfold kp; omega)).1
      have e18 := (hpk 18 (by unfold kp; omega)).1
      simp only at e1 e18
      obtain ⟨g1, g2, g3⟩ := lv_k (A := A) (wh := (A 4).toNat) (c := c) (l := l) (hpk 0 (by unfold kp; omega)).2 e1 (by omega) (by simp only; omega) _ rfl
      exact ⟨fun j hj => (g1 j hj).trans (hpk j (kg_kp hj)).1, g2, g3⟩
    | some k => exact ⟨fun j hj => (hpk j (kg_kp hj)).1, (hpk 0 (by unfold kp; omega)).2, fun h => h⟩
  · simp only [a_go, if_neg hp0]
    exact lv_k (A := A) hI rfl (by omega) h18 _ rfl
theorem du_c {A B : Row} (h : ∀ j, kg j → B j = A j) (h1 : 0 ≤ A 1 ∧ A 1 ≤ 16) : du B = du A := by
  unfold du
  rw [h 1 (by unfold kg; omega)]
  exact hn_c _ _ (fun i hi => h _ (by unfold kg; omega))
theorem num_g {A B : Row} (h : ∀ j, kg j → B j = A j) (h8 : A 0 ≤ 8) : p_num B = p_num A := by
  unfold p_num
  rw [h 0 (by unfold kg; omega)]
  exact hn_c _ _ (fun i hi => h _ (by unfold kg; omega))
theorem du_b {A : Row} (h1 : 0 ≤ A 1 ∧ A 1 ≤ 16) (hd : ∀ j, j < 16 → 0 ≤ A (116 + j) ∧ A (116 + j) ≤ 9) : 0 ≤ du A ∧ du A < 10 ^ (A 1).toNat := by
  unfold du
  rw [hn_tn]
  have := tn_b (fun i => A (116 + i)) (A 1).toNat (fun i hi => hd i (by omega))
  omega
theorem c_goM {b : Nat} {w : mW} {A : Row} {part pl : Nat} {c l : Int32} {Q : mW → mO → Prop} (hM : Mb w b) (hA : MemA w b A) (hI : TI A) (hL : LogA w b A) (hT : T9 w b 0 (A 8) (A 7) part pl c l) (h8 : A 8 = 0 ∨ A 8 = 1) (hl : 0 ≤ l) (hp : (part = 0 ∧ (pl : Int) ≤ A 0) ∨ (part = 1 ∧ (pl : Int) ≤ A 1)) (hD : w_J w b 5 = Int64.ofInt (du A)) (hd : ∀ j, j < 16 → 0 ≤ A (116 + j) ∧ A (116 + j) ≤ 9)
  (h5 : A 5 = 0)
  (hq : ∀ w', MS w' b (a_fin (a_go A part pl c l)) → FrM b w w' → w_I w' (b + 9) 9 = (a_go A part pl c l).2.2 → Q w' (.inl (some (.int (Int32.ofInt (match (a_go A part pl c l).2.1 with | none => 1 | some _ => 0)))))) : CT n_X2_goOn [.ref b] w Q := by
  have h0 := hI.1
  have hdv : A 8 = (if 0 < A 8 then 1 else 0) := by rcases h8 with h | h <;> rw [h] <;> decide
  have h18 : 0 ≤ A 18 := by obtain ⟨o, q1, q2, -⟩ := hL; exact q2
  obtain ⟨g1, g2, g3⟩ := go_k (c := c) (l := l) hI hp h18
  refine c_go hM hA hI hL (D := du A) (by rw [← hdv]; exact hT) hp hD (du_b (by omega) hd) ?_
  intro w' m1 m2 m3
  generalize hr : a_go A part pl c l = r at g1 g2 g3 m1 m2 hq ⊢
  obtain ⟨B, ok, l'⟩ := r
  have e0 := g1 0 (by unfold kg; omega)
  have e1 := g1 1 (by unfold kg; omega)
  have e4 := g1 4 (by unfold kg; omega)
  have e5 := g1 5 (by unfold kg; omega)
  have e7 := g1 7 (by unfold kg; omega)
  have e8 := g1 8 (by unfold kg; omega)
  have ed : ∀ j, j < 16 → 0 ≤ B (116 + j) ∧ B (116 + j) ≤ 9 := fun j hj => by have := g1 (116 + j) (by unfold kg; omega); simp only at this; rw [this]; exact hd j hj
  simp only at e0 e1 e4 e5 e7 e8 g2
  have fM : FrM b w w' := m3.toM (by simp)
  cases ok with
  | none =>
    rintro ⟨c', p', pl', hT'⟩ hJ
    obtain ⟨o1, o2, o3⟩ := owe_du g2 ed
    simp only [a_fin] at hq ⊢
    refine hq w' ⟨hM.fr m3, ?_, ?_, ?_, ?_⟩ fM hT'.2.2.2.2.2.2
    · exact m1.row (fun j hj h5 => by rw [up_eq, if_neg h5, o2 j (by omega)])
    · exact m2.row (by rw [up_eq, if_neg (by omega), o2 _ (by omega)]) (fun j hj => by rw [up_eq, if_neg (by omega), o2 _ (by omega)])
    · rw [hJ]
      have e : du (up (a_owe (B 1 - B 4).toNat B (B 4).toNat 0) 5 0) = du (a_owe (B 1 - B 4).toNat B (B 4).toNat 0) := by
        unfold du
        rw [up_eq, if_neg (by omega)]
        exact hn_c _ _ (fun i hi => by rw [up_eq, if_neg (by omega)])
      rw [e, o3, e7, e4, e1, du_c g1 (by omega), num_g g1 (by omega)]
    · refine ⟨(if 0 < A 8 then 1 else 0), A 7, p', pl', c', l', ?_, ?_, g3 hl, fun h => ?_⟩
      · rw [up_eq, if_pos rfl]; exact hT'
      · rw [← hdv]; exact h8
      · rw [up_eq, if_pos rfl] at h; omega
  | some x =>
    obtain ⟨p, k⟩ := x
    rintro ⟨c', hT'⟩ hJ
    simp only [a_fin] at hq ⊢
    refine hq w' ⟨hM.fr m3, ?_, ?_, ?_, ?_⟩ fM hT'.2.2.2.2.2.2
    · exact (m1.free (by omega)).free (by omega)
    · exact m2.row (by rw [up_eq, if_neg (by omega), up_eq, if_neg (by omega)]) (fun j hj => by rw [up_eq, if_neg (by omega), up_eq, if_neg (by omega)])
    · rw [hJ, hD]
      congr 1
      refine (du_c (A := A) (B := B) (fun j hj => g1 j hj) (by omega)).symm.trans ?_
      unfold du
      rw [up_eq, if_neg (by omega), up_eq, if_neg (by omega)]
      exact hn_c _ _ (fun i hi => by rw [up_eq, if_neg (by omega), up_eq, if_neg (by omega)])
    · have p5 : up (up B 5 ((p : Int) + 1)) 6 k 5 = (p : Int) + 1 := by rw [up_eq, if_neg (by omega), up_eq, if_pos rfl]
      refine ⟨(if 0 < A 8 then 1 else 0), A 7, (p : Int), (k : Int), c', l', ?_, ?_, g3 hl, fun _ => ⟨?_, ?_, ?_, ?_⟩⟩
      · rw [p5, if_pos (by omega)]; exact hT'
      · rw [← hdv]; exact h8
      · have p8 : up (up B 5 ((p : Int) + 1)) 6 k 8 = A 8 := by rw [up_eq, if_neg (by omega), up_eq, if_neg (by omega), e8]
        rw [p8]
      · rw [up_eq, if_neg (by omega), up_eq, if_neg (by omega), e7]
      · rw [p5]; omega
      · rw [up_eq, if_pos rfl]
/-! turns, one behind the other -/
def a_one (A : Row) (way : Int) : Row × Option (Nat × Nat) × Int32 := a_go (a_beg A way) 0 0 (Int32.ofInt 0) (Int32.ofInt 0)
def a_many : Nat → Row → Int → Row × Nat
  | 0, A, _ => (A, 0)
  | n + 1, A, way => match (a_one A way).2.1 with
    | none => ((a_many n (a_fin (a_one A way)) way).1, (a_many n (a_fin (a_one A way)) way).2 + 1)
    | some _ => (a_fin (a_one A way), 0)
theorem owe_TI {A : Row} {n wh : Nat} {o : Int} (hI : TI A) (h : ∀ j, j < 116 → a_owe n A wh o j = A j) : TI (a_owe n A wh o) := by
  obtain ⟨h0, h7, h1, h2, h3, h4, h5⟩ := hI
  refine ⟨?_, ?_, fun j hj => ?_, fun j hj => ?_, fun j hj => ?_, fun j hj => ?_, fun j hj => ?_⟩
  · rw [h _ (by omega), h _ (by omega), h _ (by omega), h _ (by omega), h _ (by omega)]; exact h0
  · rw [h _ (by omega)]; exact h7
  all_goals rw [h _ (by omega)]
  · exact h1 j hj
  · exact h2 j hj
  · exact h3 j hj
  · exact h4 j hj
  · exact h5 j hj
/-- what a turn leaves, done or not -/
theorem fin_k {A : Row} {part pl : Nat} {c l : Int32} (hI : TI A) (hp : (part = 0 ∧ (pl : Int) ≤ A 0) ∨ (part = 1 ∧ (pl : Int) ≤ A 1)) (h18 : 0 ≤ A 18) (hd : ∀ j, j < 16 → 0 ≤ A (116 + j) ∧ A (116 + j) ≤ 9) :
    (∀ j, kg j → j < 116 → j ≠ 5 → j ≠ 6 → a_fin (a_go A part pl c l) j = A j) ∧ TI (a_fin (a_go A part pl c l)) ∧ (∀ j, j < 16 → 0 ≤ a_fin (a_go A part pl c l) (116 + j) ∧ a_fin (a_go A part pl c l) (116 + j) ≤ 9) ∧
    (match (a_go A part pl c l).2.1 with | none => a_fin (a_go A part pl c l) 5 = 0 | some (p, _) => a_fin (a_go A part pl c l) 5 = (p : Int) + 1) := by
  obtain ⟨g1, g2, -⟩ := go_k (c := c) (l := l) hI hp h18
  generalize a_go A part pl c l = r at g1 g2 ⊢
  obtain ⟨B, ok, l'⟩ := r
  have ed : ∀ j, j < 16 → 0 ≤ B (116 + j) ∧ B (116 + j) ≤ 9 := fun j hj => by have := g1 (116 + j) (by unfold kg; omega); simp only at this; rw [this]; exact hd j hj
  simp only at g1 g2
  cases ok with
  | none =>
    obtain ⟨o1, o2, o3⟩ := owe_du g2 ed
    simp only [a_fin]
    refine ⟨fun j hj h116 h5 h6 => ?_, ?_, fun j hj => ?_, ?_⟩
    · rw [up_eq, if_neg h5, o2 j (by omega), g1 j hj]
    · exact (owe_TI g2 (fun j hj => o2 j (by omega))).up (by omega)
    · rw [up_eq, if_neg (by omega)]; exact o1 j hj
    · rw [up_eq, if_pos rfl]
  | some x =>
    obtain ⟨p, k⟩ := x
    simp only [a_fin]
    refine ⟨fun j hj h116 h5 h6 => ?_, ?_, fun j hj => ?_, ?_⟩
    · rw [up_eq, if_neg h6, up_eq, if_neg h5, g1 j hj]
    · exact (g2.up (by omega)).up (by omega)
    · rw [up_eq, if_neg (by omega), up_eq, if_neg (by omega)]; exact ed j hj
    · rw [up_eq, if_neg (by omega), up_eq, if_pos rfl]
theorem TI_up8 {A : Row} {v : Int} (h : TI A) : TI (up A 8 v) := h.up (by omega)
theorem one_TJ {A : Row} {way : Int} (hJ : TJ A) (hw : way = 1 ∨ way = -1) (h18 : 0 ≤ A 18) : TJ (a_fin (a_one A way)) ∧ a_fin (a_one A way) 8 = A 8 ∧ a_fin (a_one A way) 4 = A 4 := by
  have hI := beg_TI (way := way) hJ.1 hw
  have h0 := hI.1
  obtain ⟨f1, f2, f3, f4⟩ := fin_k (c := Int32.ofInt 0) (l := Int32.ofInt 0) (part := 0) (pl := 0) hI (Or.inl ⟨rfl, by omega⟩) (by rw [beg_k _ _ _ (by omega)]; exact h18) (fun j hj => by rw [beg_k _ _ _ (by omega)]; exact hJ.2 j hj)
  refine ⟨⟨f2.of, f3⟩, ?_, ?_⟩
  · exact (f1 8 (by unfold kg; omega) (by omega) (by omega) (by omega)).trans (beg_k _ _ _ (by omega))
  · exact (f1 4 (by unfold kg; omega) (by omega) (by omega) (by omega)).trans (beg_k _ _ _ (by omega))
theorem du_beg (A : Row) (way : Int) : du (a_beg A way) = du A := by
  unfold du
  rw [beg_k _ _ _ (by omega)]
  exact hn_c _ _ (fun i hi => beg_k _ _ _ (by omega))
theorem log_beg {w : mW} {b : Nat} {A : Row} {way : Int} (h : LogA w b A) : LogA w b (a_beg A way) := h.row (beg_k _ _ _ (by omega)) (fun j hj => beg_k _ _ _ (by omega))
/-- a turn from its begin on, in any caller -/
theorem c_one {b : Nat} {A : Row} {way : Int} {w w1 : mW} {Q : mW → mO → Prop} (hS : MS w b A) (hJ : TJ A) (h5 : A 5 = 0) (h8 : A 8 = 0 ∨ A 8 = 1) (hw : way = 1 ∨ way = -1)
  (g1 : MemA w1 b (a_beg A way)) (g2 : T9 w1 b 0 (A 8) way 0 0 (Int32.ofInt 0) (Int32.ofInt 0)) (g3 : Fr [b + 9, b + 10, b + 11] w w1)
  (hq : ∀ w', MS w' b (a_fin (a_one A way)) → FrM b w w' → w_I w' (b + 9) 9 = (a_one A way).2.2 → Q w' (.inl (some (.int (Int32.ofInt (match (a_one A way).2.1 with | none => 1 | some _ => 0)))))) : CT n_X2_goOn [.ref b] w1 Q := by
  obtain ⟨hM, hA, hL, hD, hT⟩ := hS
  have hI := beg_TI (way := way) hJ.1 hw
  have h0 := hI.1
  have e8 : a_beg A way 8 = A 8 := beg_k _ _ _ (by omega)
  refine c_goM (A := a_beg A way) (part := 0) (pl := 0) (c := Int32.ofInt 0) (l := Int32.ofInt 0) (hM.fr g3) g1 hI ((log_beg hL).fr g3 (by simp) (by simp)) (by rw [e8, beg_7]; exact g2) (by rw [e8]; exact h8) (by decide) (Or.inl ⟨rfl, by omega⟩) ?_ (fun j hj => by rw [beg_k _ _ _ (by omega)]; exact hJ.2 j hj) (by rw [beg_k _ _ _ (by omega)]; exact h5) ?_
  · rw [(g3.2.2.2 b (by simp)).2, du_beg]; exact hD
  · intro w' m1 m2 m3
    exact hq w' m1 ((g3.toM (by simp)).trans m2) m3
theorem MS.log18 {w : mW} {b : Nat} {A : Row} (h : MS w b A) : 0 ≤ A 18 := by obtain ⟨-, -, ⟨o, q1, q2, -⟩, -⟩ := h; exact q2
theorem TJ_sz {A : Row} (h : TJ A) : 2 ≤ A 0 ∧ A 0 ≤ 8 ∧ A 0 ≤ A 1 ∧ A 1 ≤ 16 ∧ 2 ≤ A 2 ∧ A 2 ≤ 8 ∧ 0 ≤ A 3 ∧ A 3 ≤ 16 ∧ 0 ≤ A 4 ∧ A 4 + A 0 ≤ A 1 := by
  have h0 := h.1.1
  simp only [up_eq] at h0
  rw [if_neg (by omega), if_neg (by omega), if_neg (by omega), if_neg (by omega), if_neg (by omega)] at h0
  exact h0
theorem c_many_24 {b : Nat} {way : Int} {x : Int32} {m : Nat} {Q : mW → mO → Prop} (hw : way = 1 ∨ way = -1) (hm : m ≤ 1000) : ∀ (n i : Nat) (A : Row) (w : mW), i + n = m → MS w b A → TJ A → A 5 = 0 → A 8 = 0 →
    (∀ w', MS w' b (a_many n A way).1 → FrM b w w' → TJ (a_many n A way).1 → (a_many n A way).1 8 = 0 → (a_many n A way).1 4 = A 4 → Q w' (.inl (some (.int (Int32.ofInt ((i : Int) + (a_many n A way).2)))))) →
    RT n_X2_crankTimes 24 [.ref b, .int x, .int (Int32.ofInt way), .int (Int32.ofInt m), .int (Int32.ofInt i)] [] w (0, 0, false) Q := by
  intro n
  induction n with
  | zero =>
    intro i A w hi hS hJ h5 h8 hq
    have hiR : inR (i : Int) := ⟨by omega, by omega⟩
    have hmR : inR (m : Int) := ⟨by omega, by omega⟩
    refine rt_X2_crankTimes_24 ?_
    simp only [wp_c, wp_n, jj_n, v_ct, Int.reduceToNat, Int.toNat_natCast, stE, wlE, lgt, lpu, lpw, v_c2, va_s, true_and, and_true, Option.toList, List.nil_append, List.cons_append, List.take, List.drop, List.reverse, List.reverseAux, List.length_cons, List.length_nil, reduceCtorEq, false_implies, true_implies, forall_const, not_true_eq_false, not_false_eq_true, ite_true, ite_false, Bool.false_eq_true, I_I, J_J, Nat.add_left_cancel_iff, Nat.reduceEqDiff, Nat.add_eq_left, Nat.left_eq_add, false_and, and_false, Nat.reduceSub, Nat.sub_self, Nat.le_refl, Nat.zero_le, ge_iff_le, Nat.reduceAdd, Nat.reduceLeDiff, Nat.zero_add, Nat.reduceLT, oi_le hmR hiR]
    refine ⟨fun _ => ?_, fun h => absurd (by omega) h⟩
    refine rt_X2_crankTimes_55 ?_
    simp only [wp_c, wp_n, jj_n, v_ct, Int.reduceToNat, Int.toNat_natCast, stE, wlE, lgt, lpu, lpw, v_c2, va_s, true_and, and_true, Option.toList, List.nil_append, List.cons_append, List.take, List.drop, List.reverse, List.reverseAux, List.length_cons, List.length_nil, reduceCtorEq, false_implies, true_implies, forall_const, not_true_eq_false, not_false_eq_true, ite_true, ite_false, Bool.false_eq_true, I_I, J_J, Nat.add_left_cancel_iff, Nat.reduceEqDiff, Nat.add_eq_left, Nat.left_eq_add, false_and, and_false, Nat.reduceSub, Nat.sub_self, Nat.le_refl, Nat.zero_le, ge_iff_le, Nat.reduceAdd, Nat.reduceLeDiff, Nat.zero_add, Nat.reduceLT, mr_X2_crankTimes]
    have e : (m : Int) = (i : Int) + ((a_many 0 A way).2 : Nat) := by simp only [a_many]; omega
    rw [e]
    exact hq w hS (FrM.refl b w) hJ h8 rfl
  | succ n ih =>
    intro i A w hi hS hJ h5 h8 hq
    have hiR : inR (i : Int) := ⟨by omega, by omega⟩
    have hmR : inR (m : Int) := ⟨by omega, by omega⟩
    have hM := hS.1
    have s0 := hM.1.1
    have s9 := hM.1.2.2.2.2.2.2.2.2.2.1
    have r13 := hM.2.2.2.2.2.2.2.2.1
    refine rt_X2_crankTimes_24 ?_
    simp only [wp_c, wp_n, jj_n, v_ct, Int.reduceToNat, Int.toNat_natCast, stE, wlE, lgt, lpu, lpw, v_c2, va_s, true_and, and_true, Option.toList, List.nil_append, List.cons_append, List.take, List.drop, List.reverse, List.reverseAux, List.length_cons, List.length_nil, reduceCtorEq, false_implies, true_implies, forall_const, not_true_eq_false, not_false_eq_true, ite_true, ite_false, Bool.false_eq_true, I_I, J_J, Nat.add_left_cancel_iff, Nat.reduceEqDiff, Nat.add_eq_left, Nat.left_eq_add, false_and, and_false, Nat.reduceSub, Nat.sub_self, Nat.le_refl, Nat.zero_le, ge_iff_le, Nat.reduceAdd, Nat.reduceLeDiff, Nat.zero_add, Nat.reduceLT, oi_le hmR hiR, s0, s9, r13, mh_X2_crankTimes]
    refine ⟨fun h => absurd h (by omega), fun _ => ?_⟩
    refine c_begin (dv := 0) hM hS.2.1 (Or.inl rfl) fun w1 g1 g2 g3 => ?_
    simp only [wp_c, wp_n, jj_n, v_ct, Int.reduceToNat, Int.toNat_natCast, stE, wlE, lgt, lpu, lpw, v_c2, va_s, true_and, and_true, Option.toList, List.nil_append, List.cons_append, List.take, List.drop, List.reverse, List.reverseAux, List.length_cons, List.length_nil, reduceCtorEq, false_implies, true_implies, forall_const, not_true_eq_false, not_false_eq_true, ite_true, ite_false, Bool.false_eq_true, I_I, J_J, Nat.add_left_cancel_iff, Nat.reduceEqDiff, Nat.add_eq_left, Nat.left_eq_add, false_and, and_false, Nat.reduceSub, Nat.sub_self, Nat.le_refl, Nat.zero_le, ge_iff_le, Nat.reduceAdd, Nat.reduceLeDiff, Nat.zero_add, Nat.reduceLT, g3.1, s0, mh_X2_crankTimes]
    refine c_one hS hJ h5 (Or.inl h8) hw g1 (by rw [h8]; exact g2) g3 fun w2 k1 k2 _ => ?_
    obtain ⟨j1, j2, j3⟩ := one_TJ hJ hw hS.log18
    have hsz := TJ_sz hJ
    have hI := beg_TI (way := way) hJ.1 hw
    have f4 := (fin_k (A := a_beg A way) (c := Int32.ofInt 0) (l := Int32.ofInt 0) (part := 0) (pl := 0) hI (Or.inl ⟨rfl, by rw [beg_k _ _ _ (by omega)]; omega⟩) (by rw [beg_k _ _ _ (by omega)]; exact hS.log18) (fun j hj => by rw [beg_k _ _ _ (by omega)]; exact hJ.2 j hj)).2.2.2
    rw [a_many] at hq
    cases ho : (a_one A way).2.1 with
    | none =>
      rw [ho] at hq
      have f4' : a_fin (a_one A way) 5 = 0 := by
        unfold a_one at ho ⊢
        rw [ho] at f4; exact f4
      simp only [wp_c, wp_n, jj_n, v_ct, Int.reduceToNat, Int.toNat_natCast, stE, wlE, lgt, lpu, lpw, v_c2, va_s, true_and, and_true, Option.toList, List.nil_append, List.cons_append, List.take, List.drop, List.reverse, List.reverseAux, List.length_cons, List.length_nil, reduceCtorEq, false_implies, true_implies, forall_const, not_true_eq_false, not_false_eq_true, ite_true, ite_false, Bool.false_eq_true, I_I, J_J, Nat.add_left_cancel_iff, Nat.reduceEqDiff, Nat.add_eq_left, Nat.left_eq_add, false_and, and_false, Nat.reduceSub, Nat.sub_self, Nat.le_refl, Nat.zero_le, ge_iff_le, Nat.reduceAdd, Nat.reduceLeDiff, Nat.zero_add, Nat.reduceLT] at hq ⊢
      refine ⟨fun _ => ?_, fun h => absurd (by decide) h⟩
      refine rt_X2_crankTimes_49 ?_
      simp only [wp_c, wp_n, jj_n, v_ct, Int.reduceToNat, Int.toNat_natCast, stE, wlE, lgt, lpu, lpw, v_c2, va_s, true_and, and_true, Option.toList, List.nil_append, List.cons_append, List.take, List.drop, List.reverse, List.reverseAux, List.length_cons, List.length_nil, reduceCtorEq, false_implies, true_implies, forall_const, not_true_eq_false, not_false_eq_true, ite_true, ite_false, Bool.false_eq_true, I_I, J_J, Nat.add_left_cancel_iff, Nat.reduceEqDiff, Nat.add_eq_left, Nat.left_eq_add, false_and, and_false, Nat.reduceSub, Nat.sub_self, Nat.le_refl, Nat.zero_le, ge_iff_le, Nat.reduceAdd, Nat.reduceLeDiff, Nat.zero_add, Nat.reduceLT, oi_add]
      have := ih (i + 1) (a_fin (a_one A way)) w2 (by omega) k1 j1 f4' (by rw [j2]; exact h8) (fun w' q1 q2 q3 q4 q5 => ?_)
      · exact this
      · have e : (((i + 1 : Nat) : Int) + ((a_many n (a_fin (a_one A way)) way).2 : Nat)) = ((i : Int) + (((a_many n (a_fin (a_one A way)) way).2 + 1 : Nat) : Int)) := by omega
        rw [e]
        exact hq w' q1 (k2.trans q2) q3 q4 (q5.trans j3)
    | some y =>
      rw [ho] at hq
      simp only [wp_c, wp_n, jj_n, v_ct, Int.reduceToNat, Int.toNat_natCast, stE, wlE, lgt, lpu, lpw, v_c2, va_s, true_and, and_true, Option.toList, List.nil_append, List.cons_append, List.take, List.drop, List.reverse, List.reverseAux, List.length_cons, List.length_nil, reduceCtorEq, false_implies, true_implies, forall_const, not_true_eq_false, not_false_eq_true, ite_true, ite_false, Bool.false_eq_true, I_I, J_J, Nat.add_left_cancel_iff, Nat.reduceEqDiff, Nat.add_eq_left, Nat.left_eq_add, false_and, and_false, Nat.reduceSub, Nat.sub_self, Nat.le_refl, Nat.zero_le, ge_iff_le, Nat.reduceAdd, Nat.reduceLeDiff, Nat.zero_add, Nat.reduceLT, mr_X2_crankTimes] at hq ⊢
      refine ⟨fun h => absurd rfl h, fun _ => ?_⟩
      have := hq w2 k1 k2 j1 (by rw [j2]; exact h8) j3
      simpa using this
theorem MS.up8 {w : mW} {b : Nat} {A : Row} {v : Int} (h : MS w b A) (h5 : A 5 = 0) : MS w b (up A 8 v) := by
  obtain ⟨hM, hA, hL, hD, dv, d, p, pl, c, l, t, t1, t2, -⟩ := h
  refine ⟨hM, hA.free (by omega), hL.row (by rw [up_eq, if_neg (by omega)]) (fun j hj => by rw [up_eq, if_neg (by omega)]), ?_, dv, d, p, pl, c, l, ?_, t1, t2, fun h => ?_⟩
  · rw [hD]; congr 1
    unfold du
    rw [up_eq, if_neg (by omega)]
    exact (hn_c _ _ (fun i hi => by rw [up_eq, if_neg (by omega)])).symm
  · have e5 : up A 8 v 5 = A 5 := by rw [up_eq, if_neg (by omega)]
    rw [e5]; exact t
  · rw [up_eq, if_neg (by omega)] at h; omega
theorem TJ.up8 {A : Row} {v : Int} (h : TJ A) : TJ (Jvm.Pilot.CCrankCalculatorLaw_law_r5314_5e3ffd.up A 8 v) := by
  refine ⟨?_, fun j hj => by rw [up_eq, if_neg (by omega)]; exact h.2 j hj⟩
  have := h.1.up (i := 8) (v := v) (by omega)
  have e : Jvm.Pilot.CCrankCalculatorLaw_law_r5314_5e3ffd.up (Jvm.Pilot.CCrankCalculatorLaw_law_r5314_5e3ffd.up A 7 1) 8 v = Jvm.Pilot.CCrankCalculatorLaw_law_r5314_5e3ffd.up (Jvm.Pilot.CCrankCalculatorLaw_law_r5314_5e3ffd.up A 8 v) 7 1 := by
    funext j; simp only [up_eq]
    by_cases h1 : j = 8
    · subst h1; rfl
    · rw [if_neg h1]; split
      · rfl
      · rfl
  rw [e] at this
  exact this
theorem c_crankTimes {b : Nat} {t : Int} {A : Row} {w : mW} {Q : mW → mO → Prop} (ht : -999 ≤ t ∧ t ≤ 999) (hS : MS w b A) (hJ : TJ A) (h5 : A 5 = 0) (hq : ∀ w', MS w' b (a_many t.natAbs (up A 8 0) (if t < 0 then -1 else 1)).1 → FrM b w w' → TJ (a_many t.natAbs (up A 8 0) (if t < 0 then -1 else 1)).1 → (a_many t.natAbs (up A 8 0) (if t < 0 then -1 else 1)).1 8 = 0 → (a_many t.natAbs (up A 8 0) (if t < 0 then -1 else 1)).1 4 = A 4 →
    Q w' (.inl (some (.int (Int32.ofInt ((a_many t.natAbs (up A 8 0) (if t < 0 then -1 else 1)).2 : Nat)))))) : CT n_X2_crankTimes [.ref b, .int (Int32.ofInt t)] w Q := by
  have htR : inR t := ⟨by omega, by omega⟩
  have hfin : RT n_X2_crankTimes 20 [.ref b, .int (Int32.ofInt t), .int (Int32.ofInt (if t < 0 then -1 else 1)), .null, .null] [.int (Int32.ofInt t.natAbs)] w (0, 0, false) Q := by
    refine rt_X2_crankTimes_20 ?_
    simp only [wp_c, wp_n, jj_n, v_ct, Int.reduceToNat, Int.toNat_natCast, stE, wlE, lgt, lpu, lpw, v_c2, va_s, true_and, and_true, Option.toList, List.nil_append, List.cons_append, List.take, List.drop, List.reverse, List.reverseAux, List.length_cons, List.length_nil, reduceCtorEq, false_implies, true_implies, forall_const, not_true_eq_false, not_false_eq_true, ite_true, ite_false, Bool.false_eq_true, I_I, J_J, Nat.add_left_cancel_iff, Nat.reduceEqDiff, Nat.add_eq_left, Nat.left_eq_add, false_and, and_false, Nat.reduceSub, Nat.sub_self, Nat.le_refl, Nat.zero_le, ge_iff_le, Nat.reduceAdd, Nat.reduceLeDiff, Nat.zero_add, Nat.reduceLT]
    have e4 : up A 8 0 4 = A 4 := by rw [up_eq, if_neg (by omega)]
    have := c_many_24 (b := b) (way := if t < 0 then -1 else 1) (x := Int32.ofInt t) (m := t.natAbs) (Q := Q) (by split; exact Or.inr rfl; exact Or.inl rfl) (by omega) t.natAbs 0 (up A 8 0) w (by omega) (hS.up8 h5) hJ.up8 (by rw [up_eq, if_neg (by omega)]; exact h5) (by rw [up_eq, if_pos rfl]) (fun w' q1 q2 q3 q4 q5 => by
      have := hq w' q1 q2 q3 q4 (q5.trans e4)
      simpa using this)
    exact this
  have h9 : RT n_X2_crankTimes 9 [.ref b, .int (Int32.ofInt t), .null, .null, .null] [.int (Int32.ofInt (if t < 0 then -1 else 1))] w (0, 0, false) Q := by
    refine rt_X2_crankTimes_9 ?_
    simp only [wp_c, wp_n, jj_n, v_ct, Int.reduceToNat, Int.toNat_natCast, stE, wlE, lgt, lpu, lpw, v_c2, va_s, true_and, and_true, Option.toList, List.nil_append, List.cons_append, List.take, List.drop, List.reverse, List.reverseAux, List.length_cons, List.length_nil, reduceCtorEq, false_implies, true_implies, forall_const, not_true_eq_false, not_false_eq_true, ite_true, ite_false, Bool.false_eq_true, I_I, J_J, Nat.add_left_cancel_iff, Nat.reduceEqDiff, Nat.add_eq_left, Nat.left_eq_add, false_and, and_false, Nat.reduceSub, Nat.sub_self, Nat.le_refl, Nat.zero_le, ge_iff_le, Nat.reduceAdd, Nat.reduceLeDiff, Nat.zero_add, Nat.reduceLT, oi_ge0 htR, oi_neg]
    refine ⟨fun h => ?_, fun h => ?_⟩
    · refine rt_X2_crankTimes_19 ?_
      simp only [wp_c, wp_n, jj_n, v_ct, Int.reduceToNat, Int.toNat_natCast, stE, wlE, lgt, lpu, lpw, v_c2, va_s, true_and, and_true, Option.toList, List.nil_append, List.cons_append, List.take, List.drop, List.reverse, List.reverseAux, List.length_cons, List.length_nil, reduceCtorEq, false_implies, true_implies, forall_const, not_true_eq_false, not_false_eq_true, ite_true, ite_false, Bool.false_eq_true, I_I, J_J, Nat.add_left_cancel_iff, Nat.reduceEqDiff, Nat.add_eq_left, Nat.left_eq_add, false_and, and_false, Nat.reduceSub, Nat.sub_self, Nat.le_refl, Nat.zero_le, ge_iff_le, Nat.reduceAdd, Nat.reduceLeDiff, Nat.zero_add, Nat.reduceLT]
      have e : t = (t.natAbs : Int) := by omega
      rw [e] at hfin ⊢
      simpa using hfin
    · have e : -t = (t.natAbs : Int) := by omega
      rw [e]; exact hfin
  refine ct_X2_crankTimes (rt_X2_crankTimes_0 ?_)
  simp only [wp_c, wp_n, jj_n, v_ct, Int.reduceToNat, Int.toNat_natCast, stE, wlE, lgt, lpu, lpw, v_c2, va_s, true_and, and_true, Option.toList, List.nil_append, List.cons_append, List.take, List.drop, List.reverse, List.reverseAux, List.length_cons, List.length_nil, reduceCtorEq, false_implies, true_implies, forall_const, not_true_eq_false, not_false_eq_true, ite_true, ite_false, Bool.false_eq_true, I_I, J_J, Nat.add_left_cancel_iff, Nat.reduceEqDiff, Nat.add_eq_left, Nat.left_eq_add, false_and, and_false, Nat.reduceSub, Nat.sub_self, Nat.le_refl, Nat.zero_le, ge_iff_le, Nat.reduceAdd, Nat.reduceLeDiff, Nat.zero_add, Nat.reduceLT, oi_ge0 htR]
  refine ⟨fun h => ?_, fun h => ?_⟩
  · refine rt_X2_crankTimes_8 ?_
    simp only [wp_c, wp_n, jj_n, v_ct, Int.reduceToNat, Int.toNat_natCast, stE, wlE, lgt, lpu, lpw, v_c2, va_s, true_and, and_true, Option.toList, List.nil_append, List.cons_append, List.take, List.drop, List.reverse, List.reverseAux, List.length_cons, List.length_nil, reduceCtorEq, false_implies, true_implies, forall_const, not_true_eq_false, not_false_eq_true, ite_true, ite_false, Bool.false_eq_true, I_I, J_J, Nat.add_left_cancel_iff, Nat.reduceEqDiff, Nat.add_eq_left, Nat.left_eq_add, false_and, and_false, Nat.reduceSub, Nat.sub_self, Nat.le_refl, Nat.zero_le, ge_iff_le, Nat.reduceAdd, Nat.reduceLeDiff, Nat.zero_add, Nat.reduceLT]
    rw [if_neg (by omega)] at h9
    exact h9
  · rw [if_pos (by omega)] at h9
    exact h9
/-! rings: none, or one at the last wheel -/
theorem mv_9 (A : Row) (i : Nat) (m : Int) : a_mv A i m 9 = A 9 := by
  simp only [a_mv, up_eq]
  rw [if_neg (by omega), if_neg (by omega), if_neg (by omega)]
  split
  · rw [up_eq, if_neg (by omega)]
  · rfl
theorem tal_9 (A : Row) (k : Nat) : a_tal A k 9 = if k = 0 then A 9 + 1 else A 9 := by
  simp only [a_tal, up_eq]
  rw [if_neg (by omega)]
  by_cases h : k = 0
  · subst h; simp
  · rw [if_neg (by omega), if_neg h]
theorem lev_9 : ∀ (n : Nat) (A : Row) (wh : Nat) (c l : Int32), (wh : Int) + n = A 1 → A 1 ≤ 16 → (a_lev n A wh c l).1 9 = A 9 ∨ ((a_lev n A wh c l).1 9 = A 9 + 1 ∧ (a_lev n A wh c l).2.1 = none) := by
  intro n
  induction n with
  | zero => intro A wh c l _ _; exact Or.inl rfl
  | succ n ih =>
    intro A wh c l hn h16
    rw [a_lev]
    split
    · exact ih _ _ _ _ (by omega) h16
    · split
      · have hn0 : n = 0 := by omega
        subst hn0
        exact Or.inr ⟨by show up (a_tal A 0) (52 + wh) 0 9 = A 9 + 1; rw [up_eq, if_neg (by omega), tal_9, if_pos rfl], rfl⟩
      · split
        · have := ih (up (a_tal A 2) (52 + wh) 0) (wh + 1) (Int32.ofInt 0) l (by rw [up_eq, if_neg (by omega), tal_k _ _ _ (by omega) (by unfold kp; omega)]; omega) (by rw [up_eq, if_neg (by omega), tal_k _ _ _ (by omega) (by unfold kp; omega)]; exact h16)
          rw [up_eq, if_neg (by omega), tal_9, if_neg (by omega)] at this
          exact this
        · split
          · exact Or.inl (by show up A 17 (A 17 + 1) 9 = A 9; rw [up_eq, if_neg (by omega)])
          · generalize (if l < c + Int32.ofInt 1 then c + Int32.ofInt 1 else l) = l2
            have := ih (up (a_tal (a_mv A (wh + 1) 1) 1) (52 + wh) 0) (wh + 1) (c + Int32.ofInt 1) l2 (by rw [up_eq, if_neg (by omega), tal_k _ _ _ (by omega) (by unfold kp; omega), mv_k _ _ _ _ (by omega) (by unfold kp; omega)]; omega) (by rw [up_eq, if_neg (by omega), tal_k _ _ _ (by omega) (by unfold kp; omega), mv_k _ _ _ _ (by omega) (by unfold kp; omega)]; exact h16)
            rw [up_eq, if_neg (by omega), tal_9, if_neg (by omega), mv_9] at this
            exact this
theorem pins_9 : ∀ (n : Nat) (A : Row) (p : Nat), (a_pins n A p).1 9 = A 9 := by
  intro n
  induction n with
  | zero => intro A p; rfl
  | succ n ih =>
    intro A p
    rw [a_pins]
    split
    · exact ih _ _
    · split
      · show up A 17 (A 17 + 1) 9 = A 9; rw [up_eq, if_neg (by omega)]
      · rw [ih, mv_9]
theorem endC_9 {A : Row} (h18 : 0 ≤ A 18) : a_endC A 9 = A 9 := by
  have hB : ∀ i, (i < 44 ∨ 52 ≤ i) → (A 4).toNat + (A 2 - A 4).toNat ≤ 8 ∨ (A 2 - A 4).toNat = 0 → a_cnt (A 2 - A 4).toNat A (A 4).toNat (if 0 < A 8 then -A 7 else A 7) i = A i := fun i hi h => cnt_s _ _ _ _ _ (by omega)
  have hB9 : a_cnt (A 2 - A 4).toNat A (A 4).toNat (if 0 < A 8 then -A 7 else A 7) 9 = A 9 := cnt_s _ _ _ _ _ (by omega)
  have hB18 : a_cnt (A 2 - A 4).toNat A (A 4).toNat (if 0 < A 8 then -A 7 else A 7) 18 = A 18 := cnt_s _ _ _ _ _ (by omega)
  clear hB
  simp only [a_endC]
  generalize a_cnt (A 2 - A 4).toNat A (A 4).toNat (if 0 < A 8 then -A 7 else A 7) = B at hB9 hB18
  split
  · rw [log_s _ _ _ _ _ (by rw [up_eq, if_neg (by omega), up_eq, if_neg (by omega), hB18]; exact h18) _ (by omega), up_eq, if_neg (by omega), up_eq, if_neg (by omega), hB9]
  · rw [log_s _ _ _ _ _ (by rw [up_eq, if_neg (by omega), hB18]; exact h18) _ (by omega), up_eq, if_neg (by omega), hB9]
theorem owe_s : ∀ (n : Nat) (A : Row) (wh : Nat) (o : Int) (j : Nat), j < 116 → a_owe n A wh o j = A j := by
  intro n
  induction n with
  | zero => intro A wh o j _; rfl
  | succ n ih => intro A wh o j hj; rw [a_owe, ih _ _ _ _ hj, up_eq, if_neg (by omega)]
theorem go_9 {A : Row} {part pl : Nat} {c l : Int32} (hI : TI A) (hp : (part = 0 ∧ (pl : Int) ≤ A 0) ∨ (part = 1 ∧ (pl : Int) ≤ A 1)) (h18 : 0 ≤ A 18) :
    a_fin (a_go A part pl c l) 9 = A 9 ∨ (a_fin (a_go A part pl c l) 9 = A 9 + 1 ∧ (a_go A part pl c l).2.1 = none) := by
  have h0 := hI.1
  have key : ∀ (B : Row) (wh : Nat) (r : Row × Option (Nat × Nat) × Int32), B 1 = A 1 → B 9 = A 9 → B 18 = A 18 → TI B → (wh : Int) ≤ A 1 → (r = match a_lev ((A 1).toNat - wh) B wh c l with | (B', none, l') => (a_endC B', none, l') | (B', some k, l') => (B', some (1, k), l')) →
      a_fin r 9 = A 9 ∨ (a_fin r 9 = A 9 + 1 ∧ r.2.1 = none) := by
    intro B wh r e1 e9 e18 hB hw hr
    have h1 := lev_9 ((A 1).toNat - wh) B wh c l (by omega) (by omega)
    have h2 := lev_k ((A 1).toNat - wh) B wh c l 18 (by omega) (by omega) (by unfold kp; omega)
    generalize a_lev ((A 1).toNat - wh) B wh c l = z at hr h1 h2
    obtain ⟨B', ok, l'⟩ := z
    cases ok with
    | none =>
      subst hr
      simp only [a_fin] at h1 h2 ⊢
      rw [up_eq, if_neg (by omega), owe_s _ _ _ _ _ (by omega), endC_9 (by omega), ← e9]
      rcases h1 with h | ⟨h, -⟩
      · exact Or.inl h
      · exact Or.inr ⟨h, trivial⟩
    | some k =>
      subst hr
      simp only [a_fin] at h1 h2 ⊢
      rw [up_eq, if_neg (by omega), up_eq, if_neg (by omega), ← e9]
      rcases h1 with h | ⟨-, h⟩
      · exact Or.inl h
      · cases h
  by_cases hp0 : part = 0
  · simp only [a_go, if_pos hp0]
    have hpk := fun j hj => pins_k ((A 0).toNat - pl) A pl j (by omega) hI hj
    have hp9 := pins_9 ((A 0).toNat - pl) A pl
    generalize a_pins ((A 0).toNat - pl) A pl = z at hpk hp9
    obtain ⟨B, ok⟩ := z
    cases ok with
    | none => exact key B _ _ (hpk 1 (by unfold kp; omega)).1 hp9 (hpk 18 (by unfold kp; omega)).1 (hpk 0 (by unfold kp; omega)).2 (by omega) rfl
    | some k =>
      refine Or.inl ?_
      simp only [a_fin] at hp9 ⊢
      rw [up_eq, if_neg (by omega), up_eq, if_neg (by omega)]; exact hp9
  · simp only [a_go, if_neg hp0]
    exact key A _ _ rfl rfl rfl hI (by omega) rfl
theorem one_9 {A : Row} {way : Int} (hJ : TJ A) (hw : way = 1 ∨ way = -1) (h18 : 0 ≤ A 18) : a_fin (a_one A way) 9 = 0 ∨ (a_fin (a_one A way) 9 = 1 ∧ (a_one A way).2.1 = none) := by
  have hI := beg_TI (way := way) hJ.1 hw
  have h0 := hI.1
  have e9 : a_beg A way 9 = 0 := by simp [a_beg, up_eq, zr]
  have := go_9 (c := Int32.ofInt 0) (l := Int32.ofInt 0) (part := 0) (pl := 0) hI (Or.inl ⟨rfl, by omega⟩) (by rw [beg_k _ _ _ (by omega)]; exact h18)
  rw [e9] at this
  exact this
/-! dividing -/
def a_dh : Nat → Row → Nat → Row × Nat
  | 0, A, k => (A, k)
  | n + 1, A, k => match (a_one A (-1)).2.1 with
    | some _ => (a_fin (a_one A (-1)), k)
    | none => if 0 < a_fin (a_one A (-1)) 9 then (match (a_one (a_fin (a_one A (-1))) 1).2.1 with
        | none => (a_fin (a_one (a_fin (a_one A (-1))) 1), k + 2)
        | some _ => (a_fin (a_one (a_fin (a_one A (-1))) 1), k + 1))
      else a_dh n (a_fin (a_one A (-1))) (k + 1)
/-- a turn leaves the part 0, or a jam -/
theorem one_5 {A : Row} {way : Int} (hJ : TJ A) (hw : way = 1 ∨ way = -1) (h18 : 0 ≤ A 18) : match (a_one A way).2.1 with | none => a_fin (a_one A way) 5 = 0 | some _ => 0 < a_fin (a_one A way) 5 := by
  have hI := beg_TI (way := way) hJ.1 hw
  have h0 := hI.1
  have f4 := (fin_k (A := a_beg A way) (c := Int32.ofInt 0) (l := Int32.ofInt 0) (part := 0) (pl := 0) hI (Or.inl ⟨rfl, by omega⟩) (by rw [beg_k _ _ _ (by omega)]; exact h18) (fun j hj => by rw [beg_k _ _ _ (by omega)]; exact hJ.2 j hj)).2.2.2
  unfold a_one
  generalize a_go (a_beg A way) 0 0 (Int32.ofInt 0) (Int32.ofInt 0) = r at f4 ⊢
  obtain ⟨B, ok, l⟩ := r
  cases ok with
  | none => exact f4
  | some x => obtain ⟨p, k⟩ := x; simp only at f4 ⊢; rw [f4]; omega
/-- what holds of a row behind some turns -/
def DQ (w : mW) (b : Nat) (A0 B : Row) (w' : mW) : Prop := MS w' b B ∧ FrM b w w' ∧ TJ B ∧ B 8 = A0 8 ∧ B 4 = A0 4 ∧ B 1 = A0 1 ∧ B 0 = A0 0 ∧ 0 ≤ B 5
theorem one_50 {A : Row} {way : Int} (hJ : TJ A) (hw : way = 1 ∨ way = -1) (h18 : 0 ≤ A 18) : 0 ≤ a_fin (a_one A way) 5 := by
  have := one_5 hJ hw h18
  cases ho : (a_one A way).2.1 with
  | none => rw [ho] at this; simp only at this; omega
  | some y => rw [ho] at this; simp only at this; omega
theorem one_sz {A : Row} {way : Int} (hJ : TJ A) (hw : way = 1 ∨ way = -1) (h18 : 0 ≤ A 18) (j : Nat) (hj : j < 5) : a_fin (a_one A way) j = A j := by
  have hI := beg_TI (way := way) hJ.1 hw
  have h0 := hI.1
  have f := (fin_k (A := a_beg A way) (c := Int32.ofInt 0) (l := Int32.ofInt 0) (part := 0) (pl := 0) hI (Or.inl ⟨rfl, by omega⟩) (by rw [beg_k _ _ _ (by omega)]; exact h18) (fun j hj => by rw [beg_k _ _ _ (by omega)]; exact hJ.2 j hj)).1 j (by unfold kg; omega) (by omega) (by omega) (by omega)
  exact f.trans (beg_k _ _ _ (by omega))
theorem c_dh_82 {b : Nat} {k : Nat} {x : Value} {w : mW} {Q : mW → mO → Prop} (hq : Q w (.inl (some (.int (Int32.ofInt k))))) : RT n_X2_divideHere 82 [.ref b, .int (Int32.ofInt k), x] [] w (0, 0, false) Q := by
  refine rt_X2_divideHere_82 ?_
  simp only [wp_c, wp_n, jj_n, v_ct, Int.reduceToNat, Int.toNat_natCast, stE, wlE, lgt, lpu, lpw, v_c2, va_s, true_and, and_true, Option.toList, List.nil_append, List.cons_append, List.take, List.drop, List.reverse, List.reverseAux, List.length_cons, List.length_nil, reduceCtorEq, false_implies, true_implies, forall_const, not_true_eq_false, not_false_eq_true, ite_true, ite_false, Bool.false_eq_true, I_I, J_J, Nat.add_left_cancel_iff, Nat.reduceEqDiff, Nat.add_eq_left, Nat.left_eq_add, false_and, and_false, Nat.reduceSub, Nat.sub_self, Nat.le_refl, Nat.zero_le, ge_iff_le, Nat.reduceAdd, Nat.reduceLeDiff, Nat.zero_add, Nat.reduceLT, mr_X2_divideHere]
  exact hq
/-- the turn forth -/
theorem c_dh_54 {b k : Nat} {A : Row} {w : mW} {Q : mW → mO → Prop} (hS : MS w b A) (hJ : TJ A) (h5 : A 5 = 0) (h8 : A 8 = 1)
  (hq : ∀ w', DQ w b A (a_fin (a_one A 1)) w' → Q w' (.inl (some (.int (Int32.ofInt (match (a_one A 1).2.1 with | none => ((k + 1 : Nat) : Int) | some _ => (k : Int))))))) : RT n_X2_divideHere 54 [.ref b, .int (Int32.ofInt k), .int (Int32.ofInt 1)] [] w (0, 0, false) Q := by
  have hM := hS.1
  have s0 := hM.1.1
  have s9 := hM.1.2.2.2.2.2.2.2.2.2.1
  have r13 := hM.2.2.2.2.2.2.2.2.1
  refine rt_X2_divideHere_54 ?_
  simp only [wp_c, wp_n, jj_n, v_ct, Int.reduceToNat, Int.toNat_natCast, stE, wlE, lgt, lpu, lpw, v_c2, va_s, true_and, and_true, Option.toList, List.nil_append, List.cons_append, List.take, List.drop, List.reverse, List.reverseAux, List.length_cons, List.length_nil, reduceCtorEq, false_implies, true_implies, forall_const, not_true_eq_false, not_false_eq_true, ite_true, ite_false, Bool.false_eq_true, I_I, J_J, Nat.add_left_cancel_iff, Nat.reduceEqDiff, Nat.add_eq_left, Nat.left_eq_add, false_and, and_false, Nat.reduceSub, Nat.sub_self, Nat.le_refl, Nat.zero_le, ge_iff_le, Nat.reduceAdd, Nat.reduceLeDiff, Nat.zero_add, Nat.reduceLT, s0, s9, r13, mh_X2_divideHere]
  refine ⟨fun h => absurd h (by decide), fun _ => ?_⟩
  refine c_begin (dv := 1) hM hS.2.1 (Or.inr rfl) fun w1 g1 g2 g3 => ?_
  simp only [wp_c, wp_n, jj_n, v_ct, Int.reduceToNat, Int.toNat_natCast, stE, wlE, lgt, lpu, lpw, v_c2, va_s, true_and, and_true, Option.toList, List.nil_append, List.cons_append, List.take, List.drop, List.reverse, List.reverseAux, List.length_cons, List.length_nil, reduceCtorEq, false_implies, true_implies, forall_const, not_true_eq_false, not_false_eq_true, ite_true, ite_false, Bool.false_eq_true, I_I, J_J, Nat.add_left_cancel_iff, Nat.reduceEqDiff, Nat.add_eq_left, Nat.left_eq_add, false_and, and_false, Nat.reduceSub, Nat.sub_self, Nat.le_refl, Nat.zero_le, ge_iff_le, Nat.reduceAdd, Nat.reduceLeDiff, Nat.zero_add, Nat.reduceLT, g3.1, s0, mh_X2_divideHere]
  refine c_one hS hJ h5 (Or.inr h8) (Or.inl rfl) g1 (by rw [h8]; exact g2) g3 fun w2 k1 k2 _ => ?_
  obtain ⟨j1, j2, j3⟩ := one_TJ hJ (Or.inl rfl : (1 : Int) = 1 ∨ (1 : Int) = -1) hS.log18
  have hD : DQ w b A (a_fin (a_one A 1)) w2 := ⟨k1, k2, j1, j2, j3, one_sz hJ (Or.inl rfl) hS.log18 1 (by omega), one_sz hJ (Or.inl rfl) hS.log18 0 (by omega), one_50 hJ (Or.inl rfl) hS.log18⟩
  have hq2 := hq w2 hD
  cases ho : (a_one A 1).2.1 with
  | none =>
    rw [ho] at hq2
    simp only [wp_c, wp_n, jj_n, v_ct, Int.reduceToNat, Int.toNat_natCast, stE, wlE, lgt, lpu, lpw, v_c2, va_s, true_and, and_true, Option.toList, List.nil_append, List.cons_append, List.take, List.drop, List.reverse, List.reverseAux, List.length_cons, List.length_nil, reduceCtorEq, false_implies, true_implies, forall_const, not_true_eq_false, not_false_eq_true, ite_true, ite_false, Bool.false_eq_true, I_I, J_J, Nat.add_left_cancel_iff, Nat.reduceEqDiff, Nat.add_eq_left, Nat.left_eq_add, false_and, and_false, Nat.reduceSub, Nat.sub_self, Nat.le_refl, Nat.zero_le, ge_iff_le, Nat.reduceAdd, Nat.reduceLeDiff, Nat.zero_add, Nat.reduceLT] at hq2 ⊢
    refine ⟨fun h => absurd h (by decide), fun _ => ?_⟩
    refine rt_X2_divideHere_80 ?_
    simp only [wp_c, wp_n, jj_n, v_ct, Int.reduceToNat, Int.toNat_natCast, stE, wlE, lgt, lpu, lpw, v_c2, va_s, true_and, and_true, Option.toList, List.nil_append, List.cons_append, List.take, List.drop, List.reverse, List.reverseAux, List.length_cons, List.length_nil, reduceCtorEq, false_implies, true_implies, forall_const, not_true_eq_false, not_false_eq_true, ite_true, ite_false, Bool.false_eq_true, I_I, J_J, Nat.add_left_cancel_iff, Nat.reduceEqDiff, Nat.add_eq_left, Nat.left_eq_add, false_and, and_false, Nat.reduceSub, Nat.sub_self, Nat.le_refl, Nat.zero_le, ge_iff_le, Nat.reduceAdd, Nat.reduceLeDiff, Nat.zero_add, Nat.reduceLT, oi_add]
    have := c_dh_82 (b := b) (k := k + 1) (x := .int (Int32.ofInt 1)) (w := w2) (Q := Q) (by simpa using hq2)
    simpa using this
  | some y =>
    rw [ho] at hq2
    simp only [wp_c, wp_n, jj_n, v_ct, Int.reduceToNat, Int.toNat_natCast, stE, wlE, lgt, lpu, lpw, v_c2, va_s, true_and, and_true, Option.toList, List.nil_append, List.cons_append, List.take, List.drop, List.reverse, List.reverseAux, List.length_cons, List.length_nil, reduceCtorEq, false_implies, true_implies, forall_const, not_true_eq_false, not_false_eq_true, ite_true, ite_false, Bool.false_eq_true, I_I, J_J, Nat.add_left_cancel_iff, Nat.reduceEqDiff, Nat.add_eq_left, Nat.left_eq_add, false_and, and_false, Nat.reduceSub, Nat.sub_self, Nat.le_refl, Nat.zero_le, ge_iff_le, Nat.reduceAdd, Nat.reduceLeDiff, Nat.zero_add, Nat.reduceLT] at hq2 ⊢
    refine ⟨fun _ => ?_, fun h => absurd rfl h⟩
    refine rt_X2_divideHere_79 ?_
    simp only [wp_c, wp_n, jj_n, v_ct, Int.reduceToNat, Int.toNat_natCast, stE, wlE, lgt, lpu, lpw, v_c2, va_s, true_and, and_true, Option.toList, List.nil_append, List.cons_append, List.take, List.drop, List.reverse, List.reverseAux, List.length_cons, List.length_nil, reduceCtorEq, false_implies, true_implies, forall_const, not_true_eq_false, not_false_eq_true, ite_true, ite_false, Bool.false_eq_true, I_I, J_J, Nat.add_left_cancel_iff, Nat.reduceEqDiff, Nat.add_eq_left, Nat.left_eq_add, false_and, and_false, Nat.reduceSub, Nat.sub_self, Nat.le_refl, Nat.zero_le, ge_iff_le, Nat.reduceAdd, Nat.reduceLeDiff, Nat.zero_add, Nat.reduceLT]
    refine rt_X2_divideHere_80 ?_
    simp only [wp_c, wp_n, jj_n, v_ct, Int.reduceToNat, Int.toNat_natCast, stE, wlE, lgt, lpu, lpw, v_c2, va_s, true_and, and_true, Option.toList, List.nil_append, List.cons_append, List.take, List.drop, List.reverse, List.reverseAux, List.length_cons, List.length_nil, reduceCtorEq, false_implies, true_implies, forall_const, not_true_eq_false, not_false_eq_true, ite_true, ite_false, Bool.false_eq_true, I_I, J_J, Nat.add_left_cancel_iff, Nat.reduceEqDiff, Nat.add_eq_left, Nat.left_eq_add, false_and, and_false, Nat.reduceSub, Nat.sub_self, Nat.le_refl, Nat.zero_le, ge_iff_le, Nat.reduceAdd, Nat.reduceLeDiff, Nat.zero_add, Nat.reduceLT, oi_add, Int.add_zero]
    exact c_dh_82 hq2
theorem c_dh_4 {b : Nat} {Q : mW → mO → Prop} : ∀ (n k : Nat) (A : Row) (w : mW), k + n = 10 → MS w b A → TJ A → A 5 = 0 → A 8 = 1 →
    (∀ w', DQ w b A (a_dh n A k).1 w' → Q w' (.inl (some (.int (Int32.ofInt (a_dh n A k).2))))) → RT n_X2_divideHere 4 [.ref b, .int (Int32.ofInt k), .int (Int32.ofInt 0)] [] w (0, 0, false) Q := by
  intro n
  induction n with
  | zero =>
    intro k A w hk hS hJ h5 h8 hq
    have hR : inR (k : Int) := ⟨by omega, by omega⟩
    refine rt_X2_divideHere_4 ?_
    simp only [wp_c, wp_n, jj_n, v_ct, Int.reduceToNat, Int.toNat_natCast, stE, wlE, lgt, lpu, lpw, v_c2, va_s, true_and, and_true, Option.toList, List.nil_append, List.cons_append, List.take, List.drop, List.reverse, List.reverseAux, List.length_cons, List.length_nil, reduceCtorEq, false_implies, true_implies, forall_const, not_true_eq_false, not_false_eq_true, ite_true, ite_false, Bool.false_eq_true, I_I, J_J, Nat.add_left_cancel_iff, Nat.reduceEqDiff, Nat.add_eq_left, Nat.left_eq_add, false_and, and_false, Nat.reduceSub, Nat.sub_self, Nat.le_refl, Nat.zero_le, ge_iff_le, Nat.reduceAdd, Nat.reduceLeDiff, Nat.zero_add, Nat.reduceLT, oi_le (show inR 10 from ⟨by omega, by omega⟩) hR]
    refine ⟨fun _ => ?_, fun h => absurd (by omega) h⟩
    refine rt_X2_divideHere_54 ?_
    simp only [wp_c, wp_n, jj_n, v_ct, Int.reduceToNat, Int.toNat_natCast, stE, wlE, lgt, lpu, lpw, v_c2, va_s, true_and, and_true, Option.toList, List.nil_append, List.cons_append, List.take, List.drop, List.reverse, List.reverseAux, List.length_cons, List.length_nil, reduceCtorEq, false_implies, true_implies, forall_const, not_true_eq_false, not_false_eq_true, ite_true, ite_false, Bool.false_eq_true, I_I, J_J, Nat.add_left_cancel_iff, Nat.reduceEqDiff, Nat.add_eq_left, Nat.left_eq_add, false_and, and_false, Nat.reduceSub, Nat.sub_self, Nat.le_refl, Nat.zero_le, ge_iff_le, Nat.reduceAdd, Nat.reduceLeDiff, Nat.zero_add, Nat.reduceLT]
    refine ⟨fun _ => c_dh_82 (hq w ⟨hS, FrM.refl b w, hJ, rfl, rfl, rfl, rfl, by show 0 ≤ A 5; omega⟩), fun h => absurd rfl h⟩
  | succ n ih =>
    intro k A w hk hS hJ h5 h8 hq
    have hR : inR (k : Int) := ⟨by omega, by omega⟩
    have hM := hS.1
    have s0 := hM.1.1
    have s9 := hM.1.2.2.2.2.2.2.2.2.2.1
    have r13 := hM.2.2.2.2.2.2.2.2.1
    refine rt_X2_divideHere_4 ?_
    simp only [wp_c, wp_n, jj_n, v_ct, Int.reduceToNat, Int.toNat_natCast, stE, wlE, lgt, lpu, lpw, v_c2, va_s, true_and, and_true, Option.toList, List.nil_append, List.cons_append, List.take, List.drop, List.reverse, List.reverseAux, List.length_cons, List.length_nil, reduceCtorEq, false_implies, true_implies, forall_const, not_true_eq_false, not_false_eq_true, ite_true, ite_false, Bool.false_eq_true, I_I, J_J, Nat.add_left_cancel_iff, Nat.reduceEqDiff, Nat.add_eq_left, Nat.left_eq_add, false_and, and_false, Nat.reduceSub, Nat.sub_self, Nat.le_refl, Nat.zero_le, ge_iff_le, Nat.reduceAdd, Nat.reduceLeDiff, Nat.zero_add, Nat.reduceLT, s0, s9, r13, mh_X2_divideHere, mr_X2_divideHere, oi_le (show inR 10 from ⟨by omega, by omega⟩) hR]
    refine ⟨fun h => absurd h (by omega), fun _ => ⟨fun h => absurd rfl h, fun _ => ?_⟩⟩
    refine c_begin (dv := 1) hM hS.2.1 (Or.inr rfl) fun w1 g1 g2 g3 => ?_
    simp only [wp_c, wp_n, jj_n, v_ct, Int.reduceToNat, Int.toNat_natCast, stE, wlE, lgt, lpu, lpw, v_c2, va_s, true_and, and_true, Option.toList, List.nil_append, List.cons_append, List.take, List.drop, List.reverse, List.reverseAux, List.length_cons, List.length_nil, reduceCtorEq, false_implies, true_implies, forall_const, not_true_eq_false, not_false_eq_true, ite_true, ite_false, Bool.false_eq_true, I_I, J_J, Nat.add_left_cancel_iff, Nat.reduceEqDiff, Nat.add_eq_left, Nat.left_eq_add, false_and, and_false, Nat.reduceSub, Nat.sub_self, Nat.le_refl, Nat.zero_le, ge_iff_le, Nat.reduceAdd, Nat.reduceLeDiff, Nat.zero_add, Nat.reduceLT, g3.1, s0, mh_X2_divideHere]
    refine c_one hS hJ h5 (Or.inr h8) (Or.inr rfl) g1 (by rw [h8]; exact g2) g3 fun w2 k1 k2 _ => ?_
    obtain ⟨j1, j2, j3⟩ := one_TJ hJ (Or.inr rfl : (-1 : Int) = 1 ∨ (-1 : Int) = -1) hS.log18
    have z1 := one_sz hJ (Or.inr rfl : (-1 : Int) = 1 ∨ (-1 : Int) = -1) hS.log18 1 (by omega)
    have z0 := one_sz hJ (Or.inr rfl : (-1 : Int) = 1 ∨ (-1 : Int) = -1) hS.log18 0 (by omega)
    have h9 := one_9 hJ (Or.inr rfl : (-1 : Int) = 1 ∨ (-1 : Int) = -1) hS.log18
    have e50 := one_50 hJ (Or.inr rfl : (-1 : Int) = 1 ∨ (-1 : Int) = -1) hS.log18
    have e5 := one_5 hJ (Or.inr rfl : (-1 : Int) = 1 ∨ (-1 : Int) = -1) hS.log18
    rw [a_dh] at hq
    cases ho : (a_one A (-1)).2.1 with
    | some y =>
      rw [ho] at hq
      simp only [wp_c, wp_n, jj_n, v_ct, Int.reduceToNat, Int.toNat_natCast, stE, wlE, lgt, lpu, lpw, v_c2, va_s, true_and, and_true, Option.toList, List.nil_append, List.cons_append, List.take, List.drop, List.reverse, List.reverseAux, List.length_cons, List.length_nil, reduceCtorEq, false_implies, true_implies, forall_const, not_true_eq_false, not_false_eq_true, ite_true, ite_false, Bool.false_eq_true, I_I, J_J, Nat.add_left_cancel_iff, Nat.reduceEqDiff, Nat.add_eq_left, Nat.left_eq_add, false_and, and_false, Nat.reduceSub, Nat.sub_self, Nat.le_refl, Nat.zero_le, ge_iff_le, Nat.reduceAdd, Nat.reduceLeDiff, Nat.zero_add, Nat.reduceLT] at hq ⊢
      exact ⟨fun h => absurd rfl h, fun _ => hq w2 ⟨k1, k2, j1, j2, j3, z1, z0, e50⟩⟩
    | none =>
      rw [ho] at hq e5
      simp only at e5
      generalize a_fin (a_one A (-1)) = B at hq h9 e5 z0 z1 j1 j2 j3 k1
      have t9 : w_I w2 (b + 9) 5 = Int32.ofInt (B 9) := k1.2.1.2.2.2.2.2.2.2.1.1
      have h9R : inR (B 9) := by rcases h9 with h | ⟨h, -⟩ <;> rw [h] <;> exact ⟨by omega, by omega⟩
      simp only [wp_c, wp_n, jj_n, v_ct, Int.reduceToNat, Int.toNat_natCast, stE, wlE, lgt, lpu, lpw, v_c2, va_s, true_and, and_true, Option.toList, List.nil_append, List.cons_append, List.take, List.drop, List.reverse, List.reverseAux, List.length_cons, List.length_nil, reduceCtorEq, false_implies, true_implies, forall_const, not_true_eq_false, not_false_eq_true, ite_true, ite_false, Bool.false_eq_true, I_I, J_J, Nat.add_left_cancel_iff, Nat.reduceEqDiff, Nat.add_eq_left, Nat.left_eq_add, false_and, and_false, Nat.reduceSub, Nat.sub_self, Nat.le_refl, Nat.zero_le, ge_iff_le, Nat.reduceAdd, Nat.reduceLeDiff, Nat.zero_add, Nat.reduceLT] at hq ⊢
      refine ⟨fun _ => ?_, fun h => absurd (by decide) h⟩
      refine rt_X2_divideHere_32 ?_
      simp only [wp_c, wp_n, jj_n, v_ct, Int.reduceToNat, Int.toNat_natCast, stE, wlE, lgt, lpu, lpw, v_c2, va_s, true_and, and_true, Option.toList, List.nil_append, List.cons_append, List.take, List.drop, List.reverse, List.reverseAux, List.length_cons, List.length_nil, reduceCtorEq, false_implies, true_implies, forall_const, not_true_eq_false, not_false_eq_true, ite_true, ite_false, Bool.false_eq_true, I_I, J_J, Nat.add_left_cancel_iff, Nat.reduceEqDiff, Nat.add_eq_left, Nat.left_eq_add, false_and, and_false, Nat.reduceSub, Nat.sub_self, Nat.le_refl, Nat.zero_le, ge_iff_le, Nat.reduceAdd, Nat.reduceLeDiff, Nat.zero_add, Nat.reduceLT, k2.1, k2.2.1, s0, s9, r13, t9, oi_le0 h9R, oi_add]
      have ek : Int32.ofInt ((k : Int) + 1) = Int32.ofInt ((k + 1 : Nat) : Int) := by congr 1
      rw [ek]
      refine ⟨fun hle => ?_, fun hgt => ?_⟩
      · rw [if_neg (by omega)] at hq
        refine rt_X2_divideHere_49 ?_
        simp only [wp_c, wp_n, jj_n, v_ct, Int.reduceToNat, Int.toNat_natCast, stE, wlE, lgt, lpu, lpw, v_c2, va_s, true_and, and_true, Option.toList, List.nil_append, List.cons_append, List.take, List.drop, List.reverse, List.reverseAux, List.length_cons, List.length_nil, reduceCtorEq, false_implies, true_implies, forall_const, not_true_eq_false, not_false_eq_true, ite_true, ite_false, Bool.false_eq_true, I_I, J_J, Nat.add_left_cancel_iff, Nat.reduceEqDiff, Nat.add_eq_left, Nat.left_eq_add, false_and, and_false, Nat.reduceSub, Nat.sub_self, Nat.le_refl, Nat.zero_le, ge_iff_le, Nat.reduceAdd, Nat.reduceLeDiff, Nat.zero_add, Nat.reduceLT]
        refine rt_X2_divideHere_50 ?_
        simp only [wp_c, wp_n, jj_n, v_ct, Int.reduceToNat, Int.toNat_natCast, stE, wlE, lgt, lpu, lpw, v_c2, va_s, true_and, and_true, Option.toList, List.nil_append, List.cons_append, List.take, List.drop, List.reverse, List.reverseAux, List.length_cons, List.length_nil, reduceCtorEq, false_implies, true_implies, forall_const, not_true_eq_false, not_false_eq_true, ite_true, ite_false, Bool.false_eq_true, I_I, J_J, Nat.add_left_cancel_iff, Nat.reduceEqDiff, Nat.add_eq_left, Nat.left_eq_add, false_and, and_false, Nat.reduceSub, Nat.sub_self, Nat.le_refl, Nat.zero_le, ge_iff_le, Nat.reduceAdd, Nat.reduceLeDiff, Nat.zero_add, Nat.reduceLT]
        refine ih (k + 1) B w2 (by omega) k1 j1 e5 (by rw [j2]; exact h8) fun w' q => ?_
        exact hq w' ⟨q.1, k2.trans q.2.1, q.2.2.1, q.2.2.2.1.trans j2, q.2.2.2.2.1.trans j3, q.2.2.2.2.2.1.trans z1, q.2.2.2.2.2.2.1.trans z0, q.2.2.2.2.2.2.2⟩
      · rw [if_pos (by omega)] at hq
        refine rt_X2_divideHere_50 ?_
        simp only [wp_c, wp_n, jj_n, v_ct, Int.reduceToNat, Int.toNat_natCast, stE, wlE, lgt, lpu, lpw, v_c2, va_s, true_and, and_true, Option.toList, List.nil_append, List.cons_append, List.take, List.drop, List.reverse, List.reverseAux, List.length_cons, List.length_nil, reduceCtorEq, false_implies, true_implies, forall_const, not_true_eq_false, not_false_eq_true, ite_true, ite_false, Bool.false_eq_true, I_I, J_J, Nat.add_left_cancel_iff, Nat.reduceEqDiff, Nat.add_eq_left, Nat.left_eq_add, false_and, and_false, Nat.reduceSub, Nat.sub_self, Nat.le_refl, Nat.zero_le, ge_iff_le, Nat.reduceAdd, Nat.reduceLeDiff, Nat.zero_add, Nat.reduceLT]
        have hR1 : inR ((k + 1 : Nat) : Int) := ⟨by omega, by omega⟩
        -- the loop's head again: it has rung
        refine rt_X2_divideHere_4 ?_
        simp only [wp_c, wp_n, jj_n, v_ct, Int.reduceToNat, Int.toNat_natCast, stE, wlE, lgt, lpu, lpw, v_c2, va_s, true_and, and_true, Option.toList, List.nil_append, List.cons_append, List.take, List.drop, List.reverse, List.reverseAux, List.length_cons, List.length_nil, reduceCtorEq, false_implies, true_implies, forall_const, not_true_eq_false, not_false_eq_true, ite_true, ite_false, Bool.false_eq_true, I_I, J_J, Nat.add_left_cancel_iff, Nat.reduceEqDiff, Nat.add_eq_left, Nat.left_eq_add, false_and, and_false, Nat.reduceSub, Nat.sub_self, Nat.le_refl, Nat.zero_le, ge_iff_le, Nat.reduceAdd, Nat.reduceLeDiff, Nat.zero_add, Nat.reduceLT, oi_le (show inR 10 from ⟨by omega, by omega⟩) hR1]
        have h54 := c_dh_54 (k := k + 1) (Q := Q) k1 j1 e5 (by rw [j2]; exact h8) fun w' q => by
          have q' : DQ w b A (a_fin (a_one B 1)) w' := ⟨q.1, k2.trans q.2.1, q.2.2.1, q.2.2.2.1.trans j2, q.2.2.2.2.1.trans j3, q.2.2.2.2.2.1.trans z1, q.2.2.2.2.2.2.1.trans z0, q.2.2.2.2.2.2.2⟩
          cases ho2 : (a_one B 1).2.1 with
          | none => rw [ho2] at hq; exact hq w' q'
          | some y => rw [ho2] at hq; exact hq w' q'
        exact ⟨fun _ => h54, fun _ => ⟨fun _ => h54, fun h => absurd (by decide) h⟩⟩
theorem c_divideHere {b : Nat} {A : Row} {w : mW} {Q : mW → mO → Prop} (hS : MS w b A) (hJ : TJ A) (h5 : A 5 = 0) (h8 : A 8 = 1) (hq : ∀ w', DQ w b A (a_dh 10 A 0).1 w' → Q w' (.inl (some (.int (Int32.ofInt (a_dh 10 A 0).2))))) : CT n_X2_divideHere [.ref b] w Q := by
  refine ct_X2_divideHere (rt_X2_divideHere_0 ?_)
  simp only [wp_c, wp_n, jj_n, v_ct, Int.reduceToNat, Int.toNat_natCast, stE, wlE, lgt, lpu, lpw, v_c2, va_s, true_and, and_true, Option.toList, List.nil_append, List.cons_append, List.take, List.drop, List.reverse, List.reverseAux, List.length_cons, List.length_nil, reduceCtorEq, false_implies, true_implies, forall_const, not_true_eq_false, not_false_eq_true, ite_true, ite_false, Bool.false_eq_true, I_I, J_J, Nat.add_left_cancel_iff, Nat.reduceEqDiff, Nat.add_eq_left, Nat.left_eq_add, false_and, and_false, Nat.reduceSub, Nat.sub_self, Nat.le_refl, Nat.zero_le, ge_iff_le, Nat.reduceAdd, Nat.reduceLeDiff, Nat.zero_add, Nat.reduceLT]
  exact c_dh_4 10 0 A w (by omega) hS hJ h5 h8 hq
