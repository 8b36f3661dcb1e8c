theorem z_num_7 {o r n N : Nat} {f : Nat → Int} {w : mW} {Q : mW → mO → Prop} (hs : w_sh w r = (1, N)) (hn0 : n ≤ N) (hN : N < 1000) (hf : ∀ i, i < n → w_I w r i = Int32.ofInt (f i) ∧ inR (f i)) : ∀ (k : Nat) (v : Int), k ≤ n → Q w (.inl (some (.long (Int64.ofInt (hn f k v))))) →
    RT n_X10_number 7 [.ref o, .ref r, .int (Int32.ofInt n), .long (Int64.ofInt v), .null, .int (Int32.ofInt ((k : Int) - 1))] [] w (0, 0, false) Q := by
  intro k
  induction k with
  | zero =>
    intro v hk hq
    have hR : inR ((0 : Nat) - 1 : Int) := ⟨by omega, by omega⟩
    refine rt_X10_number_7 ?_
    simp only [wp_c, wp_n, jj_n, v_ct, Int.reduceToNat, Int.toNat_natCast, stE, wlE, lgt, lpu, lpw, v_c2, va_s, true_and, and_true, Option.toList, List.nil_append, List.cons_append, List.take, List.drop, List.reverse, List.reverseAux, List.length_cons, List.length_nil, reduceCtorEq, false_implies, true_implies, forall_const, not_true_eq_false, not_false_eq_true, ite_true, ite_false, Bool.false_eq_true, I_I, J_J, Nat.add_left_cancel_iff, Nat.reduceEqDiff, Nat.add_eq_left, Nat.left_eq_add, false_and, and_false, Nat.reduceSub, Nat.sub_self, Nat.le_refl, Nat.zero_le, ge_iff_le, Nat.reduceAdd, Nat.reduceLeDiff, Nat.zero_add, Nat.reduceLT, oi_l0 hR]
    refine ⟨fun _ => ?_, fun h => absurd (by omega) h⟩
    refine rt_X10_number_30 ?_
    simp only [wp_c, wp_n, jj_n, v_ct, Int.reduceToNat, Int.toNat_natCast, stE, wlE, lgt, lpu, lpw, v_c2, va_s, true_and, and_true, Option.toList, List.nil_append, List.cons_append, List.take, List.drop, List.reverse, List.reverseAux, List.length_cons, List.length_nil, reduceCtorEq, false_implies, true_implies, forall_const, not_true_eq_false, not_false_eq_true, ite_true, ite_false, Bool.false_eq_true, I_I, J_J, Nat.add_left_cancel_iff, Nat.reduceEqDiff, Nat.add_eq_left, Nat.left_eq_add, false_and, and_false, Nat.reduceSub, Nat.sub_self, Nat.le_refl, Nat.zero_le, ge_iff_le, Nat.reduceAdd, Nat.reduceLeDiff, Nat.zero_add, Nat.reduceLT, mr_X10_number]
    exact hq
  | succ k ih =>
    intro v hk hq
    have hk1 : (((k + 1 : Nat) : Int) - 1) = (k : Int) := by omega
    have hR1 : inR (k : Int) := ⟨by omega, by omega⟩
    obtain ⟨e1, e2⟩ := hf k (by omega)
    refine rt_X10_number_7 ?_
    rw [hk1]
    simp only [wp_c, wp_n, jj_n, v_ct, Int.reduceToNat, Int.toNat_natCast, stE, wlE, lgt, lpu, lpw, v_c2, va_s, true_and, and_true, Option.toList, List.nil_append, List.cons_append, List.take, List.drop, List.reverse, List.reverseAux, List.length_cons, List.length_nil, reduceCtorEq, false_implies, true_implies, forall_const, not_true_eq_false, not_false_eq_true, ite_true, ite_false, Bool.false_eq_true, I_I, J_J, Nat.add_left_cancel_iff, Nat.reduceEqDiff, Nat.add_eq_left, Nat.left_eq_add, false_and, and_false, Nat.reduceSub, Nat.sub_self, Nat.le_refl, Nat.zero_le, ge_iff_le, Nat.reduceAdd, Nat.reduceLeDiff, Nat.zero_add, Nat.reduceLT, oi_l0 hR1, hs, vp_oi hR1, oi_nc hR1, e1, lo_i e2, lo_nat, lo_mul, lo_add, oi_add]
    refine ⟨fun h => absurd h (by omega), fun _ => ⟨by omega, ?_⟩⟩
    have e : ((10 : Nat) : Int) * v + f k = v * 10 + f k := by omega
    rw [e]
    exact ih _ (by omega) hq
theorem z_num {o r N : Nat} {n : Int} {f : Nat → Int} {w : mW} {Q : mW → mO → Prop} (hs : w_sh w r = (1, N)) (hn0 : 0 ≤ n ∧ n ≤ N) (hN : N < 1000) (hf : ∀ i, i < n.toNat → w_I w r i = Int32.ofInt (f i) ∧ inR (f i)) (hq : Q w (.inl (some (.long (Int64.ofInt (hn f n.toNat 0)))))) : CT n_X10_number [.ref o, .ref r, .int (Int32.ofInt n)] w Q := by
  obtain ⟨m, rfl⟩ : ∃ m : Nat, n = m := ⟨n.toNat, by omega⟩
  refine ct_X10_number (rt_X10_number_0 ?_)
  simp only [wp_c, wp_n, jj_n, v_ct, Int.reduceToNat, Int.toNat_natCast, stE, wlE, lgt, lpu, lpw, v_c2, va_s, true_and, and_true, Option.toList, List.nil_append, List.cons_append, List.take, List.drop, List.reverse, List.reverseAux, List.length_cons, List.length_nil, reduceCtorEq, false_implies, true_implies, forall_const, not_true_eq_false, not_false_eq_true, ite_true, ite_false, Bool.false_eq_true, I_I, J_J, Nat.add_left_cancel_iff, Nat.reduceEqDiff, Nat.add_eq_left, Nat.left_eq_add, false_and, and_false, Nat.reduceSub, Nat.sub_self, Nat.le_refl, Nat.zero_le, ge_iff_le, Nat.reduceAdd, Nat.reduceLeDiff, Nat.zero_add, Nat.reduceLT, oi_sub, lo_0, lo_nat]
  exact z_num_7 hs (by omega) hN hf m 0 (by omega) hq
/-- what every own row keeps -/
def OS (B : Row) : Prop := (2 ≤ B 0 ∧ B 0 ≤ 8 ∧ B 0 ≤ B 1 ∧ B 1 ≤ 16 ∧ 2 ≤ B 2 ∧ B 2 ≤ 8 ∧ 0 ≤ B 3 ∧ B 3 ≤ 16 ∧ 0 ≤ B 4 ∧ B 4 + B 0 ≤ B 1) ∧ (∀ j, j < 8 → 0 ≤ B (20 + j) ∧ B (20 + j) ≤ 9) ∧ (∀ j, j < 16 → 0 ≤ B (28 + j) ∧ B (28 + j) ≤ 9) ∧ (∀ j, j < 16 → 0 ≤ B (68 + j) ∧ B (68 + j) ≤ 3)
theorem z_pins {b o : Nat} {P : Nat → Nat} {B : Row} {w : mW} {Q : mW → mO → Prop} (h : OW w b o P B) (hS : OS B) (hq : Q w (.inl (some (.int (Int32.ofInt (p_num B)))))) : CT n_X10_pins [.ref o] w Q := by
  have hF := h.F
  have hV := h.V
  have h0 := hS.1
  refine ct_X10_pins (rt_X10_pins_0 ?_)
  simp (disch := omega) only [wp_c, wp_n, jj_n, v_ct, Int.reduceToNat, Int.toNat_natCast, stE, wlE, lgt, lpu, lpw, v_c2, va_s, true_and, and_true, Option.toList, List.nil_append, List.cons_append, List.take, List.drop, List.reverse, List.reverseAux, List.length_cons, List.length_nil, reduceCtorEq, false_implies, true_implies, forall_const, not_true_eq_false, not_false_eq_true, ite_true, ite_false, Bool.false_eq_true, I_I, J_J, Nat.add_left_cancel_iff, Nat.reduceEqDiff, Nat.add_eq_left, Nat.left_eq_add, false_and, and_false, Nat.reduceSub, Nat.sub_self, Nat.le_refl, Nat.zero_le, ge_iff_le, Nat.reduceAdd, Nat.reduceLeDiff, Nat.zero_add, Nat.reduceLT, z_lt, z_le, z_eq, z_l0, z_g0, z_le0, z_ge0, z_e0, z_e1, z_vp, z_nc, z_rem, z_div, i_ltT, i_ltF, i_leT, i_leF, i_eqT, i_eqF, n_ltT, n_ltF, n_leT, n_leF, n_eqT, n_eqF, tn_9, tn_12, tn_14, tn_20, tn_28, tn_44, tn_52, tn_68, tn_84, tn_100, tn_116, tn_132, fu_e, up_eq, ob_0, ob_b, oi_add, oi_sub, oi_mul, oi_neg, Int.add_zero, Int.zero_add, or_true, true_or, or_false, false_or, and_self, z_i2l, z_l2i, lo_nat, lo_add, lo_sub, lo_mul, lo_0, e_rem, hF, hV, mh_X10_pins]
  refine z_num (f := fun i => B (20 + i)) hF.1.2.1 ⟨by omega, by omega⟩ (by omega) (fun i hi => ⟨hV.2.2.1 i (by omega), ?_⟩) ?_
  · have := hS.2.1 i (by omega)
    exact ⟨by omega, by omega⟩
  · simp (disch := omega) only [wp_c, wp_n, jj_n, v_ct, Int.reduceToNat, Int.toNat_natCast, stE, wlE, lgt, lpu, lpw, v_c2, va_s, true_and, and_true, Option.toList, List.nil_append, List.cons_append, List.take, List.drop, List.reverse, List.reverseAux, List.length_cons, List.length_nil, reduceCtorEq, false_implies, true_implies, forall_const, not_true_eq_false, not_false_eq_true, ite_true, ite_false, Bool.false_eq_true, I_I, J_J, Nat.add_left_cancel_iff, Nat.reduceEqDiff, Nat.add_eq_left, Nat.left_eq_add, false_and, and_false, Nat.reduceSub, Nat.sub_self, Nat.le_refl, Nat.zero_le, ge_iff_le, Nat.reduceAdd, Nat.reduceLeDiff, Nat.zero_add, Nat.reduceLT, z_lt, z_le, z_eq, z_l0, z_g0, z_le0, z_ge0, z_e0, z_e1, z_vp, z_nc, z_rem, z_div, i_ltT, i_ltF, i_leT, i_leF, i_eqT, i_eqF, n_ltT, n_ltF, n_leT, n_leF, n_eqT, n_eqF, tn_9, tn_12, tn_14, tn_20, tn_28, tn_44, tn_52, tn_68, tn_84, tn_100, tn_116, tn_132, fu_e, up_eq, ob_0, ob_b, oi_add, oi_sub, oi_mul, oi_neg, Int.add_zero, Int.zero_add, or_true, true_or, or_false, false_or, and_self, z_i2l, z_l2i, lo_nat, lo_add, lo_sub, lo_mul, lo_0, e_rem, mr_X10_pins]
    exact hq
theorem z_ten_4 {n : Nat} {w : mW} {Q : mW → mO → Prop} (hn : n ≤ 18) (hq : Q w (.inl (some (.long (Int64.ofInt (10 ^ n)))))) : ∀ (k i : Nat), i + k = n → RT n_L_ten 4 [.int (Int32.ofInt n), .long (Int64.ofInt (10 ^ i)), .null, .int (Int32.ofInt i)] [] w (0, 0, false) Q := by
  intro k
  induction k with
  | zero =>
    intro i hi
    have e : i = n := by omega
    subst e
    refine rt_L_ten_4 ?_
    simp (disch := omega) only [wp_c, wp_n, jj_n, v_ct, Int.reduceToNat, Int.toNat_natCast, stE, wlE, lgt, lpu, lpw, v_c2, va_s, true_and, and_true, Option.toList, List.nil_append, List.cons_append, List.take, List.drop, List.reverse, List.reverseAux, List.length_cons, List.length_nil, reduceCtorEq, false_implies, true_implies, forall_const, not_true_eq_false, not_false_eq_true, ite_true, ite_false, Bool.false_eq_true, I_I, J_J, Nat.add_left_cancel_iff, Nat.reduceEqDiff, Nat.add_eq_left, Nat.left_eq_add, false_and, and_false, Nat.reduceSub, Nat.sub_self, Nat.le_refl, Nat.zero_le, ge_iff_le, Nat.reduceAdd, Nat.reduceLeDiff, Nat.zero_add, Nat.reduceLT, z_lt, z_le, z_eq, z_l0, z_g0, z_le0, z_ge0, z_e0, z_e1, z_vp, z_nc, z_rem, z_div, i_ltT, i_ltF, i_leT, i_leF, i_eqT, i_eqF, n_ltT, n_ltF, n_leT, n_leF, n_eqT, n_eqF, tn_9, tn_12, tn_14, tn_20, tn_28, tn_44, tn_52, tn_68, tn_84, tn_100, tn_116, tn_132, fu_e, up_eq, ob_0, ob_b, oi_add, oi_sub, oi_mul, oi_neg, Int.add_zero, Int.zero_add, or_true, true_or, or_false, false_or, and_self, z_i2l, z_l2i, lo_nat, lo_add, lo_sub, lo_mul, lo_0, e_rem]
    refine rt_L_ten_21 ?_
    simp (disch := omega) only [wp_c, wp_n, jj_n, v_ct, Int.reduceToNat, Int.toNat_natCast, stE, wlE, lgt, lpu, lpw, v_c2, va_s, true_and, and_true, Option.toList, List.nil_append, List.cons_append, List.take, List.drop, List.reverse, List.reverseAux, List.length_cons, List.length_nil, reduceCtorEq, false_implies, true_implies, forall_const, not_true_eq_false, not_false_eq_true, ite_true, ite_false, Bool.false_eq_true, I_I, J_J, Nat.add_left_cancel_iff, Nat.reduceEqDiff, Nat.add_eq_left, Nat.left_eq_add, false_and, and_false, Nat.reduceSub, Nat.sub_self, Nat.le_refl, Nat.zero_le, ge_iff_le, Nat.reduceAdd, Nat.reduceLeDiff, Nat.zero_add, Nat.reduceLT, z_lt, z_le, z_eq, z_l0, z_g0, z_le0, z_ge0, z_e0, z_e1, z_vp, z_nc, z_rem, z_div, i_ltT, i_ltF, i_leT, i_leF, i_eqT, i_eqF, n_ltT, n_ltF, n_leT, n_leF, n_eqT, n_eqF, tn_9, tn_12, tn_14, tn_20, tn_28, tn_44, tn_52, tn_68, tn_84, tn_100, tn_116, tn_132, fu_e, up_eq, ob_0, ob_b, oi_add, oi_sub, oi_mul, oi_neg, Int.add_zero, Int.zero_add, or_true, true_or, or_false, false_or, and_self, z_i2l, z_l2i, lo_nat, lo_add, lo_sub, lo_mul, lo_0, e_rem, mr_L_ten]
    exact hq
  | succ k ih =>
    intro i hi
    refine rt_L_ten_4 ?_
    simp (disch := omega) only [wp_c, wp_n, jj_n, v_ct, Int.reduceToNat, Int.toNat_natCast, stE, wlE, lgt, lpu, lpw, v_c2, va_s, true_and, and_true, Option.toList, List.nil_append, List.cons_append, List.take, List.drop, List.reverse, List.reverseAux, List.length_cons, List.length_nil, reduceCtorEq, false_implies, true_implies, forall_const, not_true_eq_false, not_false_eq_true, ite_true, ite_false, Bool.false_eq_true, I_I, J_J, Nat.add_left_cancel_iff, Nat.reduceEqDiff, Nat.add_eq_left, Nat.left_eq_add, false_and, and_false, Nat.reduceSub, Nat.sub_self, Nat.le_refl, Nat.zero_le, ge_iff_le, Nat.reduceAdd, Nat.reduceLeDiff, Nat.zero_add, Nat.reduceLT, z_lt, z_le, z_eq, z_l0, z_g0, z_le0, z_ge0, z_e0, z_e1, z_vp, z_nc, z_rem, z_div, i_ltT, i_ltF, i_leT, i_leF, i_eqT, i_eqF, n_ltT, n_ltF, n_leT, n_leF, n_eqT, n_eqF, tn_9, tn_12, tn_14, tn_20, tn_28, tn_44, tn_52, tn_68, tn_84, tn_100, tn_116, tn_132, fu_e, up_eq, ob_0, ob_b, oi_add, oi_sub, oi_mul, oi_neg, Int.add_zero, Int.zero_add, or_true, true_or, or_false, false_or, and_self, z_i2l, z_l2i, lo_nat, lo_add, lo_sub, lo_mul, lo_0, e_rem]
    have := ih (i + 1) (by omega)
    rw [Int.pow_succ] at this
    exact this
theorem z_ten {n : Int} {w : mW} {Q : mW → mO → Prop} (hn : 0 ≤ n ∧ n ≤ 18) (hq : Q w (.inl (some (.long (Int64.ofInt (10 ^ n.toNat)))))) : CT n_L_ten [.int (Int32.ofInt n)] w Q := by
  obtain ⟨m, rfl⟩ : ∃ m : Nat, n = m := ⟨n.toNat, by omega⟩
  refine ct_L_ten (rt_L_ten_0 ?_)
  simp only [wp_c, wp_n, jj_n, v_ct, Int.reduceToNat, Int.toNat_natCast, stE, wlE, lgt, lpu, lpw, v_c2, va_s, true_and, and_true, Option.toList, List.nil_append, List.cons_append, List.take, List.drop, List.reverse, List.reverseAux, List.length_cons, List.length_nil, reduceCtorEq, false_implies, true_implies, forall_const, not_true_eq_false, not_false_eq_true, ite_true, ite_false, Bool.false_eq_true, I_I, J_J, Nat.add_left_cancel_iff, Nat.reduceEqDiff, Nat.add_eq_left, Nat.left_eq_add, false_and, and_false, Nat.reduceSub, Nat.sub_self, Nat.le_refl, Nat.zero_le, ge_iff_le, Nat.reduceAdd, Nat.reduceLeDiff, Nat.zero_add, Nat.reduceLT, lo_nat]
  exact z_ten_4 (n := m) (by omega) hq m 0 (by omega)
theorem z_within {a m : Int} {w : mW} {Q : mW → mO → Prop} (ha : inL a) (hm : 0 < m ∧ m ≤ 1000000000000000000) (hq : Q w (.inl (some (.long (Int64.ofInt (a % m)))))) : CT n_L_within [.long (Int64.ofInt a), .long (Int64.ofInt m)] w Q := by
  have hmL : inL m := ⟨by omega, by omega⟩
  have hm0 : ¬ Int64.ofInt m = 0 := by rw [lo_0, lo_eq hmL ⟨by omega, by omega⟩]; omega
  have hr : Int64.ofInt a - Int64.ofInt a / Int64.ofInt m * Int64.ofInt m = Int64.ofInt (a.tmod m) := by
    rw [lo_div ha hmL hm.1, lo_mul, lo_sub, Int.tmod_def, Int.mul_comm m]
  have t1 : - m < a.tmod m := Int.lt_tmod_of_pos a hm.1
  have t2 : a.tmod m < m := Int.tmod_lt_of_pos a hm.1
  have hr2 : Int64.ofInt (a.tmod m + m) - Int64.ofInt (a.tmod m + m) / Int64.ofInt m * Int64.ofInt m = Int64.ofInt (a % m) := by
    rw [lo_remp ⟨by omega, by omega⟩ hmL (by omega) hm.1]
    congr 1
    rw [Int.add_emod_right, Int.tmod_eq_emod]
    split
    · rw [show a % m - ((0 : Nat) : Int) = a % m by simp]
      exact Int.emod_emod_of_dvd a (Int.dvd_refl m)
    · rw [Int.natAbs_of_nonneg (by omega), Int.sub_emod, Int.emod_self, Int.sub_zero, Int.emod_emod_of_dvd _ (Int.dvd_refl m), Int.emod_emod_of_dvd _ (Int.dvd_refl m)]
  refine ct_L_within (rt_L_within_0 ?_)
  simp only [wp_c, wp_n, jj_n, v_ct, Int.reduceToNat, Int.toNat_natCast, stE, wlE, lgt, lpu, lpw, v_c2, va_s, true_and, and_true, Option.toList, List.nil_append, List.cons_append, List.take, List.drop, List.reverse, List.reverseAux, List.length_cons, List.length_nil, reduceCtorEq, false_implies, true_implies, forall_const, not_true_eq_false, not_false_eq_true, ite_true, ite_false, Bool.false_eq_true, I_I, J_J, Nat.add_left_cancel_iff, Nat.reduceEqDiff, Nat.add_eq_left, Nat.left_eq_add, false_and, and_false, Nat.reduceSub, Nat.sub_self, Nat.le_refl, Nat.zero_le, ge_iff_le, Nat.reduceAdd, Nat.reduceLeDiff, Nat.zero_add, Nat.reduceLT, hr, lo_add, hr2, mr_L_within]
  exact ⟨hm0, hm0, hq⟩
theorem z_wheel {b o : Nat} {P : Nat → Nat} {B : Row} {w : mW} {Q : mW → mO → Prop} (h : OW w b o P B) (h5 : B 5 = 1 ∨ B 5 = 2) (hq : Q w (.inl (some (.int (Int32.ofInt (if B 5 = 1 then B 4 + B 6 else B 6 + 1)))))) : CT n_X10_wheel [.ref o] w Q := by
  have hF := h.F
  have hV := h.V
  refine ct_X10_wheel (rt_X10_wheel_0 ?_)
  rcases h5 with h5 | h5
  · simp (disch := omega) only [wp_c, wp_n, jj_n, v_ct, Int.reduceToNat, Int.toNat_natCast, stE, wlE, lgt, lpu, lpw, v_c2, va_s, true_and, and_true, Option.toList, List.nil_append, List.cons_append, List.take, List.drop, List.reverse, List.reverseAux, List.length_cons, List.length_nil, reduceCtorEq, false_implies, true_implies, forall_const, not_true_eq_false, not_false_eq_true, ite_true, ite_false, Bool.false_eq_true, I_I, J_J, Nat.add_left_cancel_iff, Nat.reduceEqDiff, Nat.add_eq_left, Nat.left_eq_add, false_and, and_false, Nat.reduceSub, Nat.sub_self, Nat.le_refl, Nat.zero_le, ge_iff_le, Nat.reduceAdd, Nat.reduceLeDiff, Nat.zero_add, Nat.reduceLT, z_lt, z_le, z_eq, z_l0, z_g0, z_le0, z_ge0, z_e0, z_e1, z_vp, z_nc, z_rem, z_div, i_ltT, i_ltF, i_leT, i_leF, i_eqT, i_eqF, n_ltT, n_ltF, n_leT, n_leF, n_eqT, n_eqF, tn_9, tn_12, tn_14, tn_20, tn_28, tn_44, tn_52, tn_68, tn_84, tn_100, tn_116, tn_132, fu_e, up_eq, ob_0, ob_b, oi_add, oi_sub, oi_mul, oi_neg, Int.add_zero, Int.zero_add, or_true, true_or, or_false, false_or, and_self, z_i2l, z_l2i, lo_nat, lo_add, lo_sub, lo_mul, lo_0, e_rem, hF, hV, h5]
    refine rt_X10_wheel_26 ?_
    simp (disch := omega) only [wp_c, wp_n, jj_n, v_ct, Int.reduceToNat, Int.toNat_natCast, stE, wlE, lgt, lpu, lpw, v_c2, va_s, true_and, and_true, Option.toList, List.nil_append, List.cons_append, List.take, List.drop, List.reverse, List.reverseAux, List.length_cons, List.length_nil, reduceCtorEq, false_implies, true_implies, forall_const, not_true_eq_false, not_false_eq_true, ite_true, ite_false, Bool.false_eq_true, I_I, J_J, Nat.add_left_cancel_iff, Nat.reduceEqDiff, Nat.add_eq_left, Nat.left_eq_add, false_and, and_false, Nat.reduceSub, Nat.sub_self, Nat.le_refl, Nat.zero_le, ge_iff_le, Nat.reduceAdd, Nat.reduceLeDiff, Nat.zero_add, Nat.reduceLT, z_lt, z_le, z_eq, z_l0, z_g0, z_le0, z_ge0, z_e0, z_e1, z_vp, z_nc, z_rem, z_div, i_ltT, i_ltF, i_leT, i_leF, i_eqT, i_eqF, n_ltT, n_ltF, n_leT, n_leF, n_eqT, n_eqF, tn_9, tn_12, tn_14, tn_20, tn_28, tn_44, tn_52, tn_68, tn_84, tn_100, tn_116, tn_132, fu_e, up_eq, ob_0, ob_b, oi_add, oi_sub, oi_mul, oi_neg, Int.add_zero, Int.zero_add, or_true, true_or, or_false, false_or, and_self, z_i2l, z_l2i, lo_nat, lo_add, lo_sub, lo_mul, lo_0, e_rem, mr_X10_wheel]
    rw [if_pos h5] at hq
    exact hq
  · simp (disch := omega) only [wp_c, wp_n, jj_n, v_ct, Int.reduceToNat, Int.toNat_natCast, stE, wlE, lgt, lpu, lpw, v_c2, va_s, true_and, and_true, Option.toList, List.nil_append, List.cons_append, List.take, List.drop, List.reverse, List.reverseAux, List.length_cons, List.length_nil, reduceCtorEq, false_implies, true_implies, forall_const, not_true_eq_false, not_false_eq_true, ite_true, ite_false, Bool.false_eq_true, I_I, J_J, Nat.add_left_cancel_iff, Nat.reduceEqDiff, Nat.add_eq_left, Nat.left_eq_add, false_and, and_false, Nat.reduceSub, Nat.sub_self, Nat.le_refl, Nat.zero_le, ge_iff_le, Nat.reduceAdd, Nat.reduceLeDiff, Nat.zero_add, Nat.reduceLT, z_lt, z_le, z_eq, z_l0, z_g0, z_le0, z_ge0, z_e0, z_e1, z_vp, z_nc, z_rem, z_div, i_ltT, i_ltF, i_leT, i_leF, i_eqT, i_eqF, n_ltT, n_ltF, n_leT, n_leF, n_eqT, n_eqF, tn_9, tn_12, tn_14, tn_20, tn_28, tn_44, tn_52, tn_68, tn_84, tn_100, tn_116, tn_132, fu_e, up_eq, ob_0, ob_b, oi_add, oi_sub, oi_mul, oi_neg, Int.add_zero, Int.zero_add, or_true, true_or, or_false, false_or, and_self, z_i2l, z_l2i, lo_nat, lo_add, lo_sub, lo_mul, lo_0, e_rem, hF, hV, h5]
    refine rt_X10_wheel_20 ?_
    simp (disch := omega) only [wp_c, wp_n, jj_n, v_ct, Int.reduceToNat, Int.toNat_natCast, stE, wlE, lgt, lpu, lpw, v_c2, va_s, true_and, and_true, Option.toList, List.nil_append, List.cons_append, List.take, List.drop, List.reverse, List.reverseAux, List.length_cons, List.length_nil, reduceCtorEq, false_implies, true_implies, forall_const, not_true_eq_false, not_false_eq_true, ite_true, ite_false, Bool.false_eq_true, I_I, J_J, Nat.add_left_cancel_iff, Nat.reduceEqDiff, Nat.add_eq_left, Nat.left_eq_add, false_and, and_false, Nat.reduceSub, Nat.sub_self, Nat.le_refl, Nat.zero_le, ge_iff_le, Nat.reduceAdd, Nat.reduceLeDiff, Nat.zero_add, Nat.reduceLT, z_lt, z_le, z_eq, z_l0, z_g0, z_le0, z_ge0, z_e0, z_e1, z_vp, z_nc, z_rem, z_div, i_ltT, i_ltF, i_leT, i_leF, i_eqT, i_eqF, n_ltT, n_ltF, n_leT, n_leF, n_eqT, n_eqF, tn_9, tn_12, tn_14, tn_20, tn_28, tn_44, tn_52, tn_68, tn_84, tn_100, tn_116, tn_132, fu_e, up_eq, ob_0, ob_b, oi_add, oi_sub, oi_mul, oi_neg, Int.add_zero, Int.zero_add, or_true, true_or, or_false, false_or, and_self, z_i2l, z_l2i, lo_nat, lo_add, lo_sub, lo_mul, lo_0, e_rem, hF, hV]
    refine rt_X10_wheel_26 ?_
    simp (disch := omega) only [wp_c, wp_n, jj_n, v_ct, Int.reduceToNat, Int.toNat_natCast, stE, wlE, lgt, lpu, lpw, v_c2, va_s, true_and, and_true, Option.toList, List.nil_append, List.cons_append, List.take, List.drop, List.reverse, List.reverseAux, List.length_cons, List.length_nil, reduceCtorEq, false_implies, true_implies, forall_const, not_true_eq_false, not_false_eq_true, ite_true, ite_false, Bool.false_eq_true, I_I, J_J, Nat.add_left_cancel_iff, Nat.reduceEqDiff, Nat.add_eq_left, Nat.left_eq_add, false_and, and_false, Nat.reduceSub, Nat.sub_self, Nat.le_refl, Nat.zero_le, ge_iff_le, Nat.reduceAdd, Nat.reduceLeDiff, Nat.zero_add, Nat.reduceLT, z_lt, z_le, z_eq, z_l0, z_g0, z_le0, z_ge0, z_e0, z_e1, z_vp, z_nc, z_rem, z_div, i_ltT, i_ltF, i_leT, i_leF, i_eqT, i_eqF, n_ltT, n_ltF, n_leT, n_leF, n_eqT, n_eqF, tn_9, tn_12, tn_14, tn_20, tn_28, tn_44, tn_52, tn_68, tn_84, tn_100, tn_116, tn_132, fu_e, up_eq, ob_0, ob_b, oi_add, oi_sub, oi_mul, oi_neg, Int.add_zero, Int.zero_add, or_true, true_or, or_false, false_or, and_self, z_i2l, z_l2i, lo_nat, lo_add, lo_sub, lo_mul, lo_0, e_rem, mr_X10_wheel]
    rw [if_neg (by omega)] at hq
    exact hq
theorem bct_e (x : Int) (h : 0 ≤ x ∧ x ≤ 3) : x % 2 + x / 2 = b_ct x := by
  rcases (show x = 0 ∨ x = 1 ∨ x = 2 ∨ x = 3 by omega) with rfl | rfl | rfl | rfl <;> decide
theorem z_faults_4 {b o : Nat} {P : Nat → Nat} {B : Row} {w : mW} {Q : mW → mO → Prop} (h : OW w b o P B) (hS : OS B) (hq : Q w (.inl (some (.int (Int32.ofInt (f_tot B (B 1).toNat)))))) : ∀ (n j : Nat), (j : Int) + n = B 1 → RT n_X10_faults 4 [.ref o, .int (Int32.ofInt (f_tot B j)), .int (Int32.ofInt j)] [] w (0, 0, false) Q := by
  have hF := h.F
  have hV := h.V
  have h0 := hS.1
  intro n
  induction n with
  | zero =>
    intro j hj
    refine rt_X10_faults_4 ?_
    simp (disch := omega) only [wp_c, wp_n, jj_n, v_ct, Int.reduceToNat, Int.toNat_natCast, stE, wlE, lgt, lpu, lpw, v_c2, va_s, true_and, and_true, Option.toList, List.nil_append, List.cons_append, List.take, List.drop, List.reverse, List.reverseAux, List.length_cons, List.length_nil, reduceCtorEq, false_implies, true_implies, forall_const, not_true_eq_false, not_false_eq_true, ite_true, ite_false, Bool.false_eq_true, I_I, J_J, Nat.add_left_cancel_iff, Nat.reduceEqDiff, Nat.add_eq_left, Nat.left_eq_add, false_and, and_false, Nat.reduceSub, Nat.sub_self, Nat.le_refl, Nat.zero_le, ge_iff_le, Nat.reduceAdd, Nat.reduceLeDiff, Nat.zero_add, Nat.reduceLT, z_lt, z_le, z_eq, z_l0, z_g0, z_le0, z_ge0, z_e0, z_e1, z_vp, z_nc, z_rem, z_div, i_ltT, i_ltF, i_leT, i_leF, i_eqT, i_eqF, n_ltT, n_ltF, n_leT, n_leF, n_eqT, n_eqF, tn_9, tn_12, tn_14, tn_20, tn_28, tn_44, tn_52, tn_68, tn_84, tn_100, tn_116, tn_132, fu_e, up_eq, ob_0, ob_b, oi_add, oi_sub, oi_mul, oi_neg, Int.add_zero, Int.zero_add, or_true, true_or, or_false, false_or, and_self, z_i2l, z_l2i, lo_nat, lo_add, lo_sub, lo_mul, lo_0, e_rem, hF, hV]
    refine rt_X10_faults_38 ?_
    simp (disch := omega) only [wp_c, wp_n, jj_n, v_ct, Int.reduceToNat, Int.toNat_natCast, stE, wlE, lgt, lpu, lpw, v_c2, va_s, true_and, and_true, Option.toList, List.nil_append, List.cons_append, List.take, List.drop, List.reverse, List.reverseAux, List.length_cons, List.length_nil, reduceCtorEq, false_implies, true_implies, forall_const, not_true_eq_false, not_false_eq_true, ite_true, ite_false, Bool.false_eq_true, I_I, J_J, Nat.add_left_cancel_iff, Nat.reduceEqDiff, Nat.add_eq_left, Nat.left_eq_add, false_and, and_false, Nat.reduceSub, Nat.sub_self, Nat.le_refl, Nat.zero_le, ge_iff_le, Nat.reduceAdd, Nat.reduceLeDiff, Nat.zero_add, Nat.reduceLT, z_lt, z_le, z_eq, z_l0, z_g0, z_le0, z_ge0, z_e0, z_e1, z_vp, z_nc, z_rem, z_div, i_ltT, i_ltF, i_leT, i_leF, i_eqT, i_eqF, n_ltT, n_ltF, n_leT, n_leF, n_eqT, n_eqF, tn_9, tn_12, tn_14, tn_20, tn_28, tn_44, tn_52, tn_68, tn_84, tn_100, tn_116, tn_132, fu_e, up_eq, ob_0, ob_b, oi_add, oi_sub, oi_mul, oi_neg, Int.add_zero, Int.zero_add, or_true, true_or, or_false, false_or, and_self, z_i2l, z_l2i, lo_nat, lo_add, lo_sub, lo_mul, lo_0, e_rem, mr_X10_faults]
    rw [show (B 1).toNat = j by omega] at hq
    exact hq
  | succ n ih =>
    intro j hj
    have hf := hS.2.2.2 j (by omega)
    refine rt_X10_faults_4 ?_
    simp (disch := omega) only [wp_c, wp_n, jj_n, v_ct, Int.reduceToNat, Int.toNat_natCast, stE, wlE, lgt, lpu, lpw, v_c2, va_s, true_and, and_true, Option.toList, List.nil_append, List.cons_append, List.take, List.drop, List.reverse, List.reverseAux, List.length_cons, List.length_nil, reduceCtorEq, false_implies, true_implies, forall_const, not_true_eq_false, not_false_eq_true, ite_true, ite_false, Bool.false_eq_true, I_I, J_J, Nat.add_left_cancel_iff, Nat.reduceEqDiff, Nat.add_eq_left, Nat.left_eq_add, false_and, and_false, Nat.reduceSub, Nat.sub_self, Nat.le_refl, Nat.zero_le, ge_iff_le, Nat.reduceAdd, Nat.reduceLeDiff, Nat.zero_add, Nat.reduceLT, z_lt, z_le, z_eq, z_l0, z_g0, z_le0, z_ge0, z_e0, z_e1, z_vp, z_nc, z_rem, z_div, i_ltT, i_ltF, i_leT, i_leF, i_eqT, i_eqF, n_ltT, n_ltF, n_leT, n_leF, n_eqT, n_eqF, tn_9, tn_12, tn_14, tn_20, tn_28, tn_44, tn_52, tn_68, tn_84, tn_100, tn_116, tn_132, fu_e, up_eq, ob_0, ob_b, oi_add, oi_sub, oi_mul, oi_neg, Int.add_zero, Int.zero_add, or_true, true_or, or_false, false_or, and_self, z_i2l, z_l2i, lo_nat, lo_add, lo_sub, lo_mul, lo_0, e_rem, hF, hV]
    have := ih (j + 1) (by omega)
    rw [f_tot, ← bct_e _ hf] at this
    simpa using this
theorem z_faults {b o : Nat} {P : Nat → Nat} {B : Row} {w : mW} {Q : mW → mO → Prop} (h : OW w b o P B) (hS : OS B) (hq : Q w (.inl (some (.int (Int32.ofInt (f_tot B (B 1).toNat)))))) : CT n_X10_faults [.ref o] w Q := by
  have h0 := hS.1
  refine ct_X10_faults (rt_X10_faults_0 ?_)
  simp only [wp_c, wp_n, jj_n, v_ct, Int.reduceToNat, Int.toNat_natCast, stE, wlE, lgt, lpu, lpw, v_c2, va_s, true_and, and_true, Option.toList, List.nil_append, List.cons_append, List.take, List.drop, List.reverse, List.reverseAux, List.length_cons, List.length_nil, reduceCtorEq, false_implies, true_implies, forall_const, not_true_eq_false, not_false_eq_true, ite_true, ite_false, Bool.false_eq_true, I_I, J_J, Nat.add_left_cancel_iff, Nat.reduceEqDiff, Nat.add_eq_left, Nat.left_eq_add, false_and, and_false, Nat.reduceSub, Nat.sub_self, Nat.le_refl, Nat.zero_le, ge_iff_le, Nat.reduceAdd, Nat.reduceLeDiff, Nat.zero_add, Nat.reduceLT]
  exact z_faults_4 h hS hq (B 1).toNat 0 (by omega)
theorem sh16 (a : Int32) : ∃ r : Int, 0 ≤ r ∧ r ≤ 65535 ∧ (a.toUInt32 >>> ((Int32.ofInt 16).toUInt32 &&& Int32.toUInt32 31)).toInt32 = Int32.ofInt r := by
  have e : (Int32.ofInt 16).toUInt32 &&& Int32.toUInt32 31 = 16 := by decide
  rw [e]
  generalize hv : a.toUInt32 >>> 16 = v
  have hl : v.toNat ≤ 65535 := by
    have h1 := a.toUInt32.toNat_lt
    rw [← hv, UInt32.toNat_shiftRight]
    show a.toUInt32.toNat >>> 16 ≤ 65535
    rw [Nat.shiftRight_eq_div_pow]
    omega
  refine ⟨v.toNat, by omega, by omega, ?_⟩
  rw [← Int32.toBitVec_inj]
  show v.toBitVec = BitVec.ofInt 32 (v.toNat : Int)
  rw [BitVec.ofInt_natCast]
  apply BitVec.eq_of_toNat_eq
  rw [BitVec.toNat_ofNat]
  show v.toNat = _
  omega
theorem z_draw {b o : Nat} {P : Nat → Nat} {B : Row} {m : Int} {w : mW} {Q : mW → mO → Prop} (h : OW w b o P B) (hm : 0 < m ∧ m ≤ 1000000000) (hq : ∀ (w' : mW) (y r : Int), OW w' b o P (up B 1000 y) → FO b w w' → 0 ≤ r → r < m → Q w' (.inl (some (.int (Int32.ofInt r))))) : CT n_X10_draw [.ref o, .int (Int32.ofInt m)] w Q := by
  have hF := h.F
  have hV := h.V
  have hg := h.ge
  have hm0 : ¬ Int32.ofInt m = 0 := by rw [oi_e0 ⟨by omega, by omega⟩]; omega
  refine ct_X10_draw (rt_X10_draw_0 ?_)
  simp only [wp_c, wp_n, jj_n, v_ct, Int.reduceToNat, Int.toNat_natCast, stE, wlE, lgt, lpu, lpw, v_c2, va_s, true_and, and_true, Option.toList, List.nil_append, List.cons_append, List.take, List.drop, List.reverse, List.reverseAux, List.length_cons, List.length_nil, reduceCtorEq, false_implies, true_implies, forall_const, not_true_eq_false, not_false_eq_true, ite_true, ite_false, Bool.false_eq_true, I_I, J_J, Nat.add_left_cancel_iff, Nat.reduceEqDiff, Nat.add_eq_left, Nat.left_eq_add, false_and, and_false, Nat.reduceSub, Nat.sub_self, Nat.le_refl, Nat.zero_le, ge_iff_le, Nat.reduceAdd, Nat.reduceLeDiff, Nat.zero_add, Nat.reduceLT, hF, hV, mr_X10_draw]
  generalize hy : Int32.ofInt (B 1000) * Int32.ofNat 1103515245 + Int32.ofInt 12345 = Y
  obtain ⟨y, hyy⟩ : ∃ y : Int, Y = Int32.ofInt y := ⟨Y.toInt, (Int32.ofInt_toInt Y).symm⟩
  rw [hyy]
  obtain ⟨r, h1, h2, h3⟩ := sh16 (Int32.ofInt y)
  simp only [h3]
  rw [oi_rem ⟨by omega, by omega⟩ ⟨by omega, by omega⟩ h1 hm.1]
  exact ⟨hm0, hq _ y (r % m) h.sx ((FO.refl _ _).I hg.1) (Int.emod_nonneg _ (by omega)) (Int.emod_lt_of_pos _ hm.1)⟩
