theorem c_rnum_7 {r n f : Nat} {x : Int32} {w : mW} {A : Row} {F : Nat → Int32} {Q : mW → mO → Prop} (hR : Rb w r) (hf : f + n ≤ 252) (hd : ∀ i, i < n → -1000 ≤ A (f + i) ∧ A (f + i) ≤ 1000) : ∀ (k : Nat) (v : Int), k ≤ n → Q (rs r w A F) (.inl (some (.long (Int64.ofInt (hn (fun i => A (f + i)) k v))))) →
    RT n_X10_numberOf 7 [.ref r, .int (Int32.ofInt f), .int x, .long (Int64.ofInt v), .null, .int (Int32.ofInt ((k : Int) - 1))] [] (rs r w A F) (0, 0, false) Q := by
  obtain ⟨sh, rf⟩ := hR
  intro k
  induction k with
  | zero =>
    intro v hk hq
    refine rt_X10_numberOf_7 ?_
    simp (disch := omega) only [wp_c, wp_n, jj_n, Int.reduceToNat, Int.toNat_natCast, stE, wlE, lgt, lpu, lpw, v_c2, va_s, true_and, and_true, Option.toList, List.nil_append, List.cons_append, List.take, List.drop, List.reverse, List.reverseAux, List.length_cons, List.length_nil, reduceCtorEq, false_implies, true_implies, forall_const, not_true_eq_false, not_false_eq_true, ite_true, ite_false, Bool.false_eq_true, I_I, J_J, Nat.add_left_cancel_iff, Nat.reduceEqDiff, Nat.add_eq_left, Nat.left_eq_add, false_and, and_false, Nat.reduceSub, Nat.sub_self, Nat.le_refl, Nat.zero_le, ge_iff_le, Nat.reduceAdd, Nat.reduceLeDiff, Nat.zero_add, Nat.reduceLT, z_lt, z_le, z_eq, z_l0, z_g0, z_le0, z_ge0, z_e0, z_e1, z_vp, z_nc, z_rem, z_div, i_ltT, i_ltF, i_leT, i_leF, i_eqT, i_eqF, n_ltT, n_ltF, n_leT, n_leF, n_eqT, n_eqF, tn_9, tn_12, tn_14, tn_20, tn_28, tn_44, tn_52, tn_68, tn_84, tn_100, tn_116, tn_132, fu_e, up_eq, ob_0, ob_b, oi_add, oi_sub, oi_mul, oi_neg, rs_sh, rs_R, rs_N, rs_J, rs_F, rs_A, rs_o, rs_wA, rs_wF, rs_w, Int.add_zero, Int.zero_add, or_true, true_or, or_false, false_or, and_self, z_i2l, z_l2i, lo_nat, lo_add, lo_sub, lo_mul, lo_0, e_rem, mr_X10_numberOf, mh_X10_numberOf, sh, rf]
    repeat' (first | (with_reducible refine And.intro ?_ ?_) | (with_reducible intro _) | ((first | refine rt_X10_numberOf_35 ?_); simp (disch := omega) only [wp_c, wp_n, jj_n, Int.reduceToNat, Int.toNat_natCast, stE, wlE, lgt, lpu, lpw, v_c2, va_s, true_and, and_true, Option.toList, List.nil_append, List.cons_append, List.take, List.drop, List.reverse, List.reverseAux, List.length_cons, List.length_nil, reduceCtorEq, false_implies, true_implies, forall_const, not_true_eq_false, not_false_eq_true, ite_true, ite_false, Bool.false_eq_true, I_I, J_J, Nat.add_left_cancel_iff, Nat.reduceEqDiff, Nat.add_eq_left, Nat.left_eq_add, false_and, and_false, Nat.reduceSub, Nat.sub_self, Nat.le_refl, Nat.zero_le, ge_iff_le, Nat.reduceAdd, Nat.reduceLeDiff, Nat.zero_add, Nat.reduceLT, z_lt, z_le, z_eq, z_l0, z_g0, z_le0, z_ge0, z_e0, z_e1, z_vp, z_nc, z_rem, z_div, i_ltT, i_ltF, i_leT, i_leF, i_eqT, i_eqF, n_ltT, n_ltF, n_leT, n_leF, n_eqT, n_eqF, tn_9, tn_12, tn_14, tn_20, tn_28, tn_44, tn_52, tn_68, tn_84, tn_100, tn_116, tn_132, fu_e, up_eq, ob_0, ob_b, oi_add, oi_sub, oi_mul, oi_neg, rs_sh, rs_R, rs_N, rs_J, rs_F, rs_A, rs_o, rs_wA, rs_wF, rs_w, Int.add_zero, Int.zero_add, or_true, true_or, or_false, false_or, and_self, z_i2l, z_l2i, lo_nat, lo_add, lo_sub, lo_mul, lo_0, e_rem, mr_X10_numberOf, mh_X10_numberOf, sh, rf]))
    exact hq
  | succ k ih =>
    intro v hk hq
    have e1 : (((k + 1 : Nat) : Int) - 1) = (k : Int) := by omega
    have e2 : ((f : Int) + (k : Int)).toNat = f + k := by omega
    have hdk := hd k (by omega)
    refine rt_X10_numberOf_7 ?_
    rw [e1]
    simp (disch := omega) only [wp_c, wp_n, jj_n, Int.reduceToNat, Int.toNat_natCast, stE, wlE, lgt, lpu, lpw, v_c2, va_s, true_and, and_true, Option.toList, List.nil_append, List.cons_append, List.take, List.drop, List.reverse, List.reverseAux, List.length_cons, List.length_nil, reduceCtorEq, false_implies, true_implies, forall_const, not_true_eq_false, not_false_eq_true, ite_true, ite_false, Bool.false_eq_true, I_I, J_J, Nat.add_left_cancel_iff, Nat.reduceEqDiff, Nat.add_eq_left, Nat.left_eq_add, false_and, and_false, Nat.reduceSub, Nat.sub_self, Nat.le_refl, Nat.zero_le, ge_iff_le, Nat.reduceAdd, Nat.reduceLeDiff, Nat.zero_add, Nat.reduceLT, z_lt, z_le, z_eq, z_l0, z_g0, z_le0, z_ge0, z_e0, z_e1, z_vp, z_nc, z_rem, z_div, i_ltT, i_ltF, i_leT, i_leF, i_eqT, i_eqF, n_ltT, n_ltF, n_leT, n_leF, n_eqT, n_eqF, tn_9, tn_12, tn_14, tn_20, tn_28, tn_44, tn_52, tn_68, tn_84, tn_100, tn_116, tn_132, fu_e, up_eq, ob_0, ob_b, oi_add, oi_sub, oi_mul, oi_neg, rs_sh, rs_R, rs_N, rs_J, rs_F, rs_A, rs_o, rs_wA, rs_wF, rs_w, Int.add_zero, Int.zero_add, or_true, true_or, or_false, false_or, and_self, z_i2l, z_l2i, lo_nat, lo_add, lo_sub, lo_mul, lo_0, e_rem, mr_X10_numberOf, mh_X10_numberOf, sh, rf, e2]
    have e3 : ((10 : Nat) : Int) * v + A (f + k) = v * 10 + A (f + k) := by omega
    rw [e3]
    exact ih _ (by omega) hq
theorem c_numberOf {r n f : Nat} {u v : Int} {w : mW} {A : Row} {F : Nat → Int32} {Q : mW → mO → Prop} (hR : Rb w r) (hu : u = (f : Int)) (hv : v = (n : Int)) (hf : f + n ≤ 252) (hd : ∀ i, i < n → -1000 ≤ A (f + i) ∧ A (f + i) ≤ 1000) (hq : Q (rs r w A F) (.inl (some (.long (Int64.ofInt (hn (fun i => A (f + i)) n 0)))))) : CT n_X10_numberOf [.ref r, .int (Int32.ofInt u), .int (Int32.ofInt v)] (rs r w A F) Q := by
  subst hu; subst hv
  refine ct_X10_numberOf (rt_X10_numberOf_0 ?_)
  simp (disch := omega) only [wp_c, wp_n, jj_n, Int.reduceToNat, Int.toNat_natCast, stE, wlE, lgt, lpu, lpw, v_c2, va_s, true_and, and_true, Option.toList, List.nil_append, List.cons_append, List.take, List.drop, List.reverse, List.reverseAux, List.length_cons, List.length_nil, reduceCtorEq, false_implies, true_implies, forall_const, not_true_eq_false, not_false_eq_true, ite_true, ite_false, Bool.false_eq_true, I_I, J_J, Nat.add_left_cancel_iff, Nat.reduceEqDiff, Nat.add_eq_left, Nat.left_eq_add, false_and, and_false, Nat.reduceSub, Nat.sub_self, Nat.le_refl, Nat.zero_le, ge_iff_le, Nat.reduceAdd, Nat.reduceLeDiff, Nat.zero_add, Nat.reduceLT, z_lt, z_le, z_eq, z_l0, z_g0, z_le0, z_ge0, z_e0, z_e1, z_vp, z_nc, z_rem, z_div, i_ltT, i_ltF, i_leT, i_leF, i_eqT, i_eqF, n_ltT, n_ltF, n_leT, n_leF, n_eqT, n_eqF, tn_9, tn_12, tn_14, tn_20, tn_28, tn_44, tn_52, tn_68, tn_84, tn_100, tn_116, tn_132, fu_e, up_eq, ob_0, ob_b, oi_add, oi_sub, oi_mul, oi_neg, rs_sh, rs_R, rs_N, rs_J, rs_F, rs_A, rs_o, rs_wA, rs_wF, rs_w, Int.add_zero, Int.zero_add, or_true, true_or, or_false, false_or, and_self, z_i2l, z_l2i, lo_nat, lo_add, lo_sub, lo_mul, lo_0, e_rem, mr_X10_numberOf, mh_X10_numberOf]
  exact c_rnum_7 hR hf hd n 0 (Nat.le_refl _) hq
theorem c_rpins {r : Nat} {w : mW} {A : Row} {F : Nat → Int32} {Q : mW → mO → Prop} (hR : Rb w r) (h0 : 0 ≤ A 0 ∧ A 0 ≤ 8) (hd : ∀ j, j < 8 → 0 ≤ A (20 + j) ∧ A (20 + j) ≤ 9) (hq : Q (rs r w A F) (.inl (some (.int (Int32.ofInt (p_num A)))))) : CT n_X10_numberOfPins [.ref r] (rs r w A F) Q := by
  have hR0 := hR
  obtain ⟨sh, rf⟩ := hR
  refine ct_X10_numberOfPins (rt_X10_numberOfPins_0 ?_)
  simp (disch := omega) only [wp_c, wp_n, jj_n, Int.reduceToNat, Int.toNat_natCast, stE, wlE, lgt, lpu, lpw, v_c2, va_s, true_and, and_true, Option.toList, List.nil_append, List.cons_append, List.take, List.drop, List.reverse, List.reverseAux, List.length_cons, List.length_nil, reduceCtorEq, false_implies, true_implies, forall_const, not_true_eq_false, not_false_eq_true, ite_true, ite_false, Bool.false_eq_true, I_I, J_J, Nat.add_left_cancel_iff, Nat.reduceEqDiff, Nat.add_eq_left, Nat.left_eq_add, false_and, and_false, Nat.reduceSub, Nat.sub_self, Nat.le_refl, Nat.zero_le, ge_iff_le, Nat.reduceAdd, Nat.reduceLeDiff, Nat.zero_add, Nat.reduceLT, z_lt, z_le, z_eq, z_l0, z_g0, z_le0, z_ge0, z_e0, z_e1, z_vp, z_nc, z_rem, z_div, i_ltT, i_ltF, i_leT, i_leF, i_eqT, i_eqF, n_ltT, n_ltF, n_leT, n_leF, n_eqT, n_eqF, tn_9, tn_12, tn_14, tn_20, tn_28, tn_44, tn_52, tn_68, tn_84, tn_100, tn_116, tn_132, fu_e, up_eq, ob_0, ob_b, oi_add, oi_sub, oi_mul, oi_neg, rs_sh, rs_R, rs_N, rs_J, rs_F, rs_A, rs_o, rs_wA, rs_wF, rs_w, Int.add_zero, Int.zero_add, or_true, true_or, or_false, false_or, and_self, z_i2l, z_l2i, lo_nat, lo_add, lo_sub, lo_mul, lo_0, e_rem, mr_X10_numberOfPins, mh_X10_numberOfPins, sh, rf]
  refine c_numberOf (n := (A 0).toNat) hR0 (f := 20) rfl (by omega) (by omega) (fun i hi => by have := hd i (by omega); omega) ?_
  simp (disch := omega) only [wp_c, wp_n, jj_n, Int.reduceToNat, Int.toNat_natCast, stE, wlE, lgt, lpu, lpw, v_c2, va_s, true_and, and_true, Option.toList, List.nil_append, List.cons_append, List.take, List.drop, List.reverse, List.reverseAux, List.length_cons, List.length_nil, reduceCtorEq, false_implies, true_implies, forall_const, not_true_eq_false, not_false_eq_true, ite_true, ite_false, Bool.false_eq_true, I_I, J_J, Nat.add_left_cancel_iff, Nat.reduceEqDiff, Nat.add_eq_left, Nat.left_eq_add, false_and, and_false, Nat.reduceSub, Nat.sub_self, Nat.le_refl, Nat.zero_le, ge_iff_le, Nat.reduceAdd, Nat.reduceLeDiff, Nat.zero_add, Nat.reduceLT, z_lt, z_le, z_eq, z_l0, z_g0, z_le0, z_ge0, z_e0, z_e1, z_vp, z_nc, z_rem, z_div, i_ltT, i_ltF, i_leT, i_leF, i_eqT, i_eqF, n_ltT, n_ltF, n_leT, n_leF, n_eqT, n_eqF, tn_9, tn_12, tn_14, tn_20, tn_28, tn_44, tn_52, tn_68, tn_84, tn_100, tn_116, tn_132, fu_e, up_eq, ob_0, ob_b, oi_add, oi_sub, oi_mul, oi_neg, rs_sh, rs_R, rs_N, rs_J, rs_F, rs_A, rs_o, rs_wA, rs_wF, rs_w, Int.add_zero, Int.zero_add, or_true, true_or, or_false, false_or, and_self, z_i2l, z_l2i, lo_nat, lo_add, lo_sub, lo_mul, lo_0, e_rem, mr_X10_numberOfPins, mh_X10_numberOfPins, sh, rf]
  exact hq
theorem pw_b (n : Nat) (h : n ≤ 8) : 0 < (10 : Int) ^ n ∧ (10 : Int) ^ n ≤ 100000000 := ⟨Int.pow_pos (by decide), p10 n h⟩
theorem c_power_4 {n : Nat} {w : mW} {Q : mW → mO → Prop} (hn : n ≤ 8) (hq : Q w (.inl (some (.int (Int32.ofInt (10 ^ n)))))) : ∀ (d k : Nat), k + d = n → RT n_X10_power 4 [.int (Int32.ofInt n), .int (Int32.ofInt (10 ^ k)), .int (Int32.ofInt k)] [] w (0, 0, false) Q := by
  intro d
  induction d with
  | zero =>
    intro k hk
    have e : k = n := by omega
    subst e
    refine rt_X10_power_4 ?_
    simp (disch := omega) only [wp_c, wp_n, jj_n, Int.reduceToNat, Int.toNat_natCast, stE, wlE, lgt, lpu, lpw, v_c2, va_s, true_and, and_true, Option.toList, List.nil_append, List.cons_append, List.take, List.drop, List.reverse, List.reverseAux, List.length_cons, List.length_nil, reduceCtorEq, false_implies, true_implies, forall_const, not_true_eq_false, not_false_eq_true, ite_true, ite_false, Bool.false_eq_true, I_I, J_J, Nat.add_left_cancel_iff, Nat.reduceEqDiff, Nat.add_eq_left, Nat.left_eq_add, false_and, and_false, Nat.reduceSub, Nat.sub_self, Nat.le_refl, Nat.zero_le, ge_iff_le, Nat.reduceAdd, Nat.reduceLeDiff, Nat.zero_add, Nat.reduceLT, z_lt, z_le, z_eq, z_l0, z_g0, z_le0, z_ge0, z_e0, z_e1, z_vp, z_nc, z_rem, z_div, i_ltT, i_ltF, i_leT, i_leF, i_eqT, i_eqF, n_ltT, n_ltF, n_leT, n_leF, n_eqT, n_eqF, tn_9, tn_12, tn_14, tn_20, tn_28, tn_44, tn_52, tn_68, tn_84, tn_100, tn_116, tn_132, fu_e, up_eq, ob_0, ob_b, oi_add, oi_sub, oi_mul, oi_neg, rs_sh, rs_R, rs_N, rs_J, rs_F, rs_A, rs_o, rs_wA, rs_wF, rs_w, Int.add_zero, Int.zero_add, or_true, true_or, or_false, false_or, and_self, z_i2l, z_l2i, lo_nat, lo_add, lo_sub, lo_mul, lo_0, e_rem, mr_X10_power, mh_X10_power]
    repeat' (first | (with_reducible refine And.intro ?_ ?_) | (with_reducible intro _) | ((first | refine rt_X10_power_20 ?_); simp (disch := omega) only [wp_c, wp_n, jj_n, Int.reduceToNat, Int.toNat_natCast, stE, wlE, lgt, lpu, lpw, v_c2, va_s, true_and, and_true, Option.toList, List.nil_append, List.cons_append, List.take, List.drop, List.reverse, List.reverseAux, List.length_cons, List.length_nil, reduceCtorEq, false_implies, true_implies, forall_const, not_true_eq_false, not_false_eq_true, ite_true, ite_false, Bool.false_eq_true, I_I, J_J, Nat.add_left_cancel_iff, Nat.reduceEqDiff, Nat.add_eq_left, Nat.left_eq_add, false_and, and_false, Nat.reduceSub, Nat.sub_self, Nat.le_refl, Nat.zero_le, ge_iff_le, Nat.reduceAdd, Nat.reduceLeDiff, Nat.zero_add, Nat.reduceLT, z_lt, z_le, z_eq, z_l0, z_g0, z_le0, z_ge0, z_e0, z_e1, z_vp, z_nc, z_rem, z_div, i_ltT, i_ltF, i_leT, i_leF, i_eqT, i_eqF, n_ltT, n_ltF, n_leT, n_leF, n_eqT, n_eqF, tn_9, tn_12, tn_14, tn_20, tn_28, tn_44, tn_52, tn_68, tn_84, tn_100, tn_116, tn_132, fu_e, up_eq, ob_0, ob_b, oi_add, oi_sub, oi_mul, oi_neg, rs_sh, rs_R, rs_N, rs_J, rs_F, rs_A, rs_o, rs_wA, rs_wF, rs_w, Int.add_zero, Int.zero_add, or_true, true_or, or_false, false_or, and_self, z_i2l, z_l2i, lo_nat, lo_add, lo_sub, lo_mul, lo_0, e_rem, mr_X10_power, mh_X10_power]))
    exact hq
  | succ d ih =>
    intro k hk
    refine rt_X10_power_4 ?_
    simp (disch := omega) only [wp_c, wp_n, jj_n, Int.reduceToNat, Int.toNat_natCast, stE, wlE, lgt, lpu, lpw, v_c2, va_s, true_and, and_true, Option.toList, List.nil_append, List.cons_append, List.take, List.drop, List.reverse, List.reverseAux, List.length_cons, List.length_nil, reduceCtorEq, false_implies, true_implies, forall_const, not_true_eq_false, not_false_eq_true, ite_true, ite_false, Bool.false_eq_true, I_I, J_J, Nat.add_left_cancel_iff, Nat.reduceEqDiff, Nat.add_eq_left, Nat.left_eq_add, false_and, and_false, Nat.reduceSub, Nat.sub_self, Nat.le_refl, Nat.zero_le, ge_iff_le, Nat.reduceAdd, Nat.reduceLeDiff, Nat.zero_add, Nat.reduceLT, z_lt, z_le, z_eq, z_l0, z_g0, z_le0, z_ge0, z_e0, z_e1, z_vp, z_nc, z_rem, z_div, i_ltT, i_ltF, i_leT, i_leF, i_eqT, i_eqF, n_ltT, n_ltF, n_leT, n_leF, n_eqT, n_eqF, tn_9, tn_12, tn_14, tn_20, tn_28, tn_44, tn_52, tn_68, tn_84, tn_100, tn_116, tn_132, fu_e, up_eq, ob_0, ob_b, oi_add, oi_sub, oi_mul, oi_neg, rs_sh, rs_R, rs_N, rs_J, rs_F, rs_A, rs_o, rs_wA, rs_wF, rs_w, Int.add_zero, Int.zero_add, or_true, true_or, or_false, false_or, and_self, z_i2l, z_l2i, lo_nat, lo_add, lo_sub, lo_mul, lo_0, e_rem, mr_X10_power, mh_X10_power]
    have := ih (k + 1) (by omega)
    rw [Int.pow_succ] at this
    exact this
theorem c_power {n : Nat} {v : Int} {w : mW} {Q : mW → mO → Prop} (hv : v = (n : Int)) (hn : n ≤ 8) (hq : Q w (.inl (some (.int (Int32.ofInt (10 ^ n)))))) : CT n_X10_power [.int (Int32.ofInt v)] w Q := by
  subst hv
  refine ct_X10_power (rt_X10_power_0 ?_)
  simp (disch := omega) only [wp_c, wp_n, jj_n, Int.reduceToNat, Int.toNat_natCast, stE, wlE, lgt, lpu, lpw, v_c2, va_s, true_and, and_true, Option.toList, List.nil_append, List.cons_append, List.take, List.drop, List.reverse, List.reverseAux, List.length_cons, List.length_nil, reduceCtorEq, false_implies, true_implies, forall_const, not_true_eq_false, not_false_eq_true, ite_true, ite_false, Bool.false_eq_true, I_I, J_J, Nat.add_left_cancel_iff, Nat.reduceEqDiff, Nat.add_eq_left, Nat.left_eq_add, false_and, and_false, Nat.reduceSub, Nat.sub_self, Nat.le_refl, Nat.zero_le, ge_iff_le, Nat.reduceAdd, Nat.reduceLeDiff, Nat.zero_add, Nat.reduceLT, z_lt, z_le, z_eq, z_l0, z_g0, z_le0, z_ge0, z_e0, z_e1, z_vp, z_nc, z_rem, z_div, i_ltT, i_ltF, i_leT, i_leF, i_eqT, i_eqF, n_ltT, n_ltF, n_leT, n_leF, n_eqT, n_eqF, tn_9, tn_12, tn_14, tn_20, tn_28, tn_44, tn_52, tn_68, tn_84, tn_100, tn_116, tn_132, fu_e, up_eq, ob_0, ob_b, oi_add, oi_sub, oi_mul, oi_neg, rs_sh, rs_R, rs_N, rs_J, rs_F, rs_A, rs_o, rs_wA, rs_wF, rs_w, Int.add_zero, Int.zero_add, or_true, true_or, or_false, false_or, and_self, z_i2l, z_l2i, lo_nat, lo_add, lo_sub, lo_mul, lo_0, e_rem, mr_X10_power, mh_X10_power]
  exact c_power_4 hn hq n 0 (by omega)
theorem c_counts_52 {r : Nat} {way : Int} {w : mW} {F : Nat → Int32} {Q : mW → mO → Prop} (hR : Rb w r) (hway : way = 1 ∨ way = -1) : ∀ (n : Nat) (A : Row) (wh : Nat) (y : Value), (n = 0 ∨ (wh : Int) + n = A 2) → TI A → Q (rs r w (a_cnt n A wh way) F) (.inl none) →
    RT n_X10_counts 52 [.ref r, .int (Int32.ofInt way), .int (Int32.ofInt wh), .int (Int32.ofInt (if 0 < n then 1 else 0)), y] [] (rs r w A F) (0, 0, false) Q := by
  obtain ⟨sh, rf⟩ := hR
  intro n
  induction n with
  | zero =>
    intro A wh y hn hI hq
    refine rt_X10_counts_52 ?_
    simp (disch := omega) only [wp_c, wp_n, jj_n, Int.reduceToNat, Int.toNat_natCast, stE, wlE, lgt, lpu, lpw, v_c2, va_s, true_and, and_true, Option.toList, List.nil_append, List.cons_append, List.take, List.drop, List.reverse, List.reverseAux, List.length_cons, List.length_nil, reduceCtorEq, false_implies, true_implies, forall_const, not_true_eq_false, not_false_eq_true, ite_true, ite_false, Bool.false_eq_true, I_I, J_J, Nat.add_left_cancel_iff, Nat.reduceEqDiff, Nat.add_eq_left, Nat.left_eq_add, false_and, and_false, Nat.reduceSub, Nat.sub_self, Nat.le_refl, Nat.zero_le, ge_iff_le, Nat.reduceAdd, Nat.reduceLeDiff, Nat.zero_add, Nat.reduceLT, z_lt, z_le, z_eq, z_l0, z_g0, z_le0, z_ge0, z_e0, z_e1, z_vp, z_nc, z_rem, z_div, i_ltT, i_ltF, i_leT, i_leF, i_eqT, i_eqF, n_ltT, n_ltF, n_leT, n_leF, n_eqT, n_eqF, tn_9, tn_12, tn_14, tn_20, tn_28, tn_44, tn_52, tn_68, tn_84, tn_100, tn_116, tn_132, fu_e, up_eq, ob_0, ob_b, oi_add, oi_sub, oi_mul, oi_neg, rs_sh, rs_R, rs_N, rs_J, rs_F, rs_A, rs_o, rs_wA, rs_wF, rs_w, Int.add_zero, Int.zero_add, or_true, true_or, or_false, false_or, and_self, z_i2l, z_l2i, lo_nat, lo_add, lo_sub, lo_mul, lo_0, e_rem, mr_X10_counts, mh_X10_counts, sh, rf]
    repeat' (first | (with_reducible refine And.intro ?_ ?_) | (with_reducible intro _) | ((first | refine rt_X10_counts_21 ?_ | refine rt_X10_counts_28 ?_ | refine rt_X10_counts_50 ?_ | refine rt_X10_counts_51 ?_ | refine rt_X10_counts_81 ?_ | refine rt_X10_counts_97 ?_ | refine rt_X10_counts_98 ?_ | refine rt_X10_counts_118 ?_ | refine rt_X10_counts_128 ?_ | refine rt_X10_counts_130 ?_ | refine rt_X10_counts_137 ?_); simp (disch := omega) only [wp_c, wp_n, jj_n, Int.reduceToNat, Int.toNat_natCast, stE, wlE, lgt, lpu, lpw, v_c2, va_s, true_and, and_true, Option.toList, List.nil_append, List.cons_append, List.take, List.drop, List.reverse, List.reverseAux, List.length_cons, List.length_nil, reduceCtorEq, false_implies, true_implies, forall_const, not_true_eq_false, not_false_eq_true, ite_true, ite_false, Bool.false_eq_true, I_I, J_J, Nat.add_left_cancel_iff, Nat.reduceEqDiff, Nat.add_eq_left, Nat.left_eq_add, false_and, and_false, Nat.reduceSub, Nat.sub_self, Nat.le_refl, Nat.zero_le, ge_iff_le, Nat.reduceAdd, Nat.reduceLeDiff, Nat.zero_add, Nat.reduceLT, z_lt, z_le, z_eq, z_l0, z_g0, z_le0, z_ge0, z_e0, z_e1, z_vp, z_nc, z_rem, z_div, i_ltT, i_ltF, i_leT, i_leF, i_eqT, i_eqF, n_ltT, n_ltF, n_leT, n_leF, n_eqT, n_eqF, tn_9, tn_12, tn_14, tn_20, tn_28, tn_44, tn_52, tn_68, tn_84, tn_100, tn_116, tn_132, fu_e, up_eq, ob_0, ob_b, oi_add, oi_sub, oi_mul, oi_neg, rs_sh, rs_R, rs_N, rs_J, rs_F, rs_A, rs_o, rs_wA, rs_wF, rs_w, Int.add_zero, Int.zero_add, or_true, true_or, or_false, false_or, and_self, z_i2l, z_l2i, lo_nat, lo_add, lo_sub, lo_mul, lo_0, e_rem, mr_X10_counts, mh_X10_counts, sh, rf]))
    exact hq
  | succ n ih =>
    intro A wh y hn hI hq
    have h0 := hI.1
    have h44 := hI.2.2.2.2.1 wh (by omega)
    have hg : ∀ (g : Int) (y' : Value), 0 < n ∧ g = 1 ∨ n = 0 ∧ g = 0 → (A (44 + wh) + way < 0 ∨ 9 < A (44 + wh) + way) → RT n_X10_counts 52 [.ref r, .int (Int32.ofInt way), .int (Int32.ofInt ((wh : Int) + 1)), .int (Int32.ofInt g), y'] [] (rs r w (up A (44 + wh) ((A (44 + wh) + way + 10) % 10)) F) (0, 0, false) Q := by
      intro g y' hg hp
      simp only [a_cnt, if_pos hp] at hq
      have := ih (up A (44 + wh) ((A (44 + wh) + way + 10) % 10)) (wh + 1) y' (by rw [up_eq, if_neg (by omega)]; omega) (hI.cnt ⟨by omega, by omega⟩ (by omega)) hq
      rcases hg with ⟨h1, rfl⟩ | ⟨h1, rfl⟩
      · rw [if_pos h1] at this; exact this
      · rw [if_neg (by omega)] at this; exact this
    have hs : ¬ (A (44 + wh) + way < 0 ∨ 9 < A (44 + wh) + way) → ∀ y', RT n_X10_counts 52 [.ref r, .int (Int32.ofInt way), .int (Int32.ofInt ((wh : Int) + 1)), .int (Int32.ofInt 0), y'] [] (rs r w (up A (44 + wh) (A (44 + wh) + way)) F) (0, 0, false) Q := by
      intro hp y'
      simp only [a_cnt, if_neg hp] at hq
      have e : (A (44 + wh) + way + 10) % 10 = A (44 + wh) + way := by omega
      rw [e] at hq
      refine rt_X10_counts_52 ?_
      simp (disch := omega) only [wp_c, wp_n, jj_n, Int.reduceToNat, Int.toNat_natCast, stE, wlE, lgt, lpu, lpw, v_c2, va_s, true_and, and_true, Option.toList, List.nil_append, List.cons_append, List.take, List.drop, List.reverse, List.reverseAux, List.length_cons, List.length_nil, reduceCtorEq, false_implies, true_implies, forall_const, not_true_eq_false, not_false_eq_true, ite_true, ite_false, Bool.false_eq_true, I_I, J_J, Nat.add_left_cancel_iff, Nat.reduceEqDiff, Nat.add_eq_left, Nat.left_eq_add, false_and, and_false, Nat.reduceSub, Nat.sub_self, Nat.le_refl, Nat.zero_le, ge_iff_le, Nat.reduceAdd, Nat.reduceLeDiff, Nat.zero_add, Nat.reduceLT, z_lt, z_le, z_eq, z_l0, z_g0, z_le0, z_ge0, z_e0, z_e1, z_vp, z_nc, z_rem, z_div, i_ltT, i_ltF, i_leT, i_leF, i_eqT, i_eqF, n_ltT, n_ltF, n_leT, n_leF, n_eqT, n_eqF, tn_9, tn_12, tn_14, tn_20, tn_28, tn_44, tn_52, tn_68, tn_84, tn_100, tn_116, tn_132, fu_e, up_eq, ob_0, ob_b, oi_add, oi_sub, oi_mul, oi_neg, rs_sh, rs_R, rs_N, rs_J, rs_F, rs_A, rs_o, rs_wA, rs_wF, rs_w, Int.add_zero, Int.zero_add, or_true, true_or, or_false, false_or, and_self, z_i2l, z_l2i, lo_nat, lo_add, lo_sub, lo_mul, lo_0, e_rem, mr_X10_counts, mh_X10_counts, sh, rf]
      repeat' (first | (with_reducible refine And.intro ?_ ?_) | (with_reducible intro _) | ((first | refine rt_X10_counts_21 ?_ | refine rt_X10_counts_28 ?_ | refine rt_X10_counts_50 ?_ | refine rt_X10_counts_51 ?_ | refine rt_X10_counts_81 ?_ | refine rt_X10_counts_97 ?_ | refine rt_X10_counts_98 ?_ | refine rt_X10_counts_118 ?_ | refine rt_X10_counts_128 ?_ | refine rt_X10_counts_130 ?_ | refine rt_X10_counts_137 ?_); simp (disch := omega) only [wp_c, wp_n, jj_n, Int.reduceToNat, Int.toNat_natCast, stE, wlE, lgt, lpu, lpw, v_c2, va_s, true_and, and_true, Option.toList, List.nil_append, List.cons_append, List.take, List.drop, List.reverse, List.reverseAux, List.length_cons, List.length_nil, reduceCtorEq, false_implies, true_implies, forall_const, not_true_eq_false, not_false_eq_true, ite_true, ite_false, Bool.false_eq_true, I_I, J_J, Nat.add_left_cancel_iff, Nat.reduceEqDiff, Nat.add_eq_left, Nat.left_eq_add, false_and, and_false, Nat.reduceSub, Nat.sub_self, Nat.le_refl, Nat.zero_le, ge_iff_le, Nat.reduceAdd, Nat.reduceLeDiff, Nat.zero_add, Nat.reduceLT, z_lt, z_le, z_eq, z_l0, z_g0, z_le0, z_ge0, z_e0, z_e1, z_vp, z_nc, z_rem, z_div, i_ltT, i_ltF, i_leT, i_leF, i_eqT, i_eqF, n_ltT, n_ltF, n_leT, n_leF, n_eqT, n_eqF, tn_9, tn_12, tn_14, tn_20, tn_28, tn_44, tn_52, tn_68, tn_84, tn_100, tn_116, tn_132, fu_e, up_eq, ob_0, ob_b, oi_add, oi_sub, oi_mul, oi_neg, rs_sh, rs_R, rs_N, rs_J, rs_F, rs_A, rs_o, rs_wA, rs_wF, rs_w, Int.add_zero, Int.zero_add, or_true, true_or, or_false, false_or, and_self, z_i2l, z_l2i, lo_nat, lo_add, lo_sub, lo_mul, lo_0, e_rem, mr_X10_counts, mh_X10_counts, sh, rf]))
      exact hq
    have e9 : A (44 + wh) + way < 0 → (A (44 + wh) + way + 10) % 10 = 9 := by omega
    have e0 : 9 < A (44 + wh) + way → (A (44 + wh) + way + 10) % 10 = 0 := by omega
    have hwh : wh < 8 := by omega
    have hvb : -1 ≤ A (44 + wh) + way ∧ A (44 + wh) + way ≤ 10 := by omega
    have hA2 : (wh : Int) + n + 1 = A 2 := by omega
    clear hn
    generalize hvv : A (44 + wh) + way = v at hg hs e9 e0 hvb
    refine rt_X10_counts_52 ?_
    simp (disch := omega) only [wp_c, wp_n, jj_n, Int.reduceToNat, Int.toNat_natCast, stE, wlE, lgt, lpu, lpw, v_c2, va_s, true_and, and_true, Option.toList, List.nil_append, List.cons_append, List.take, List.drop, List.reverse, List.reverseAux, List.length_cons, List.length_nil, reduceCtorEq, false_implies, true_implies, forall_const, not_true_eq_false, not_false_eq_true, ite_true, ite_false, Bool.false_eq_true, I_I, J_J, Nat.add_left_cancel_iff, Nat.reduceEqDiff, Nat.add_eq_left, Nat.left_eq_add, false_and, and_false, Nat.reduceSub, Nat.sub_self, Nat.le_refl, Nat.zero_le, ge_iff_le, Nat.reduceAdd, Nat.reduceLeDiff, Nat.zero_add, Nat.reduceLT, z_lt, z_le, z_eq, z_l0, z_g0, z_le0, z_ge0, z_e0, z_e1, z_vp, z_nc, z_rem, z_div, i_ltT, i_ltF, i_leT, i_leF, i_eqT, i_eqF, n_ltT, n_ltF, n_leT, n_leF, n_eqT, n_eqF, tn_9, tn_12, tn_14, tn_20, tn_28, tn_44, tn_52, tn_68, tn_84, tn_100, tn_116, tn_132, fu_e, up_eq, ob_0, ob_b, oi_add, oi_sub, oi_mul, oi_neg, rs_sh, rs_R, rs_N, rs_J, rs_F, rs_A, rs_o, rs_wA, rs_wF, rs_w, Int.add_zero, Int.zero_add, or_true, true_or, or_false, false_or, and_self, z_i2l, z_l2i, lo_nat, lo_add, lo_sub, lo_mul, lo_0, e_rem, mr_X10_counts, mh_X10_counts, sh, rf, hvv]
    repeat' (first | (with_reducible refine And.intro ?_ ?_) | (with_reducible intro _) | ((first | refine rt_X10_counts_21 ?_ | refine rt_X10_counts_28 ?_ | refine rt_X10_counts_50 ?_ | refine rt_X10_counts_51 ?_ | refine rt_X10_counts_81 ?_ | refine rt_X10_counts_97 ?_ | refine rt_X10_counts_98 ?_ | refine rt_X10_counts_118 ?_ | refine rt_X10_counts_128 ?_ | refine rt_X10_counts_130 ?_ | refine rt_X10_counts_137 ?_); simp (disch := omega) only [wp_c, wp_n, jj_n, Int.reduceToNat, Int.toNat_natCast, stE, wlE, lgt, lpu, lpw, v_c2, va_s, true_and, and_true, Option.toList, List.nil_append, List.cons_append, List.take, List.drop, List.reverse, List.reverseAux, List.length_cons, List.length_nil, reduceCtorEq, false_implies, true_implies, forall_const, not_true_eq_false, not_false_eq_true, ite_true, ite_false, Bool.false_eq_true, I_I, J_J, Nat.add_left_cancel_iff, Nat.reduceEqDiff, Nat.add_eq_left, Nat.left_eq_add, false_and, and_false, Nat.reduceSub, Nat.sub_self, Nat.le_refl, Nat.zero_le, ge_iff_le, Nat.reduceAdd, Nat.reduceLeDiff, Nat.zero_add, Nat.reduceLT, z_lt, z_le, z_eq, z_l0, z_g0, z_le0, z_ge0, z_e0, z_e1, z_vp, z_nc, z_rem, z_div, i_ltT, i_ltF, i_leT, i_leF, i_eqT, i_eqF, n_ltT, n_ltF, n_leT, n_leF, n_eqT, n_eqF, tn_9, tn_12, tn_14, tn_20, tn_28, tn_44, tn_52, tn_68, tn_84, tn_100, tn_116, tn_132, fu_e, up_eq, ob_0, ob_b, oi_add, oi_sub, oi_mul, oi_neg, rs_sh, rs_R, rs_N, rs_J, rs_F, rs_A, rs_o, rs_wA, rs_wF, rs_w, Int.add_zero, Int.zero_add, or_true, true_or, or_false, false_or, and_self, z_i2l, z_l2i, lo_nat, lo_add, lo_sub, lo_mul, lo_0, e_rem, mr_X10_counts, mh_X10_counts, sh, rf, hvv]))
    all_goals first | (rw [e9 (by omega)] at hg; exact hg _ _ (by omega) (by omega)) | (rw [e0 (by omega)] at hg; exact hg _ _ (by omega) (by omega)) | exact hs (by omega) _
theorem c_counts {r : Nat} {w : mW} {A : Row} {F : Nat → Int32} {Q : mW → mO → Prop} (hR : Rb w r) (hI : TI A) (h8 : A 8 = 0 ∨ A 8 = 1) (hq : Q (rs r w (a_cnt (A 2 - A 4).toNat A (A 4).toNat (if 0 < A 8 then -A 7 else A 7)) F) (.inl none)) : CT n_X10_counts [.ref r] (rs r w A F) Q := by
  have hR0 := hR
  have h0 := hI.1
  have h7 := hI.2.1
  obtain ⟨sh, rf⟩ := hR
  have hway : (if 0 < A 8 then -A 7 else A 7) = 1 ∨ (if 0 < A 8 then -A 7 else A 7) = -1 := by split <;> omega
  have h51 : ∀ g : Int, (A 4 < A 2 ∧ g = 1) ∨ (A 2 ≤ A 4 ∧ g = 0) → RT n_X10_counts 51 [.ref r, .int (Int32.ofInt (if 0 < A 8 then -A 7 else A 7)), .int (Int32.ofInt (A 4)), .null, .null] [.int (Int32.ofInt g)] (rs r w A F) (0, 0, false) Q := by
    intro g hg
    refine rt_X10_counts_51 ?_
    simp (disch := omega) only [wp_c, wp_n, jj_n, Int.reduceToNat, Int.toNat_natCast, stE, wlE, lgt, lpu, lpw, v_c2, va_s, true_and, and_true, Option.toList, List.nil_append, List.cons_append, List.take, List.drop, List.reverse, List.reverseAux, List.length_cons, List.length_nil, reduceCtorEq, false_implies, true_implies, forall_const, not_true_eq_false, not_false_eq_true, ite_true, ite_false, Bool.false_eq_true, I_I, J_J, Nat.add_left_cancel_iff, Nat.reduceEqDiff, Nat.add_eq_left, Nat.left_eq_add, false_and, and_false, Nat.reduceSub, Nat.sub_self, Nat.le_refl, Nat.zero_le, ge_iff_le, Nat.reduceAdd, Nat.reduceLeDiff, Nat.zero_add, Nat.reduceLT, z_lt, z_le, z_eq, z_l0, z_g0, z_le0, z_ge0, z_e0, z_e1, z_vp, z_nc, z_rem, z_div, i_ltT, i_ltF, i_leT, i_leF, i_eqT, i_eqF, n_ltT, n_ltF, n_leT, n_leF, n_eqT, n_eqF, tn_9, tn_12, tn_14, tn_20, tn_28, tn_44, tn_52, tn_68, tn_84, tn_100, tn_116, tn_132, fu_e, up_eq, ob_0, ob_b, oi_add, oi_sub, oi_mul, oi_neg, rs_sh, rs_R, rs_N, rs_J, rs_F, rs_A, rs_o, rs_wA, rs_wF, rs_w, Int.add_zero, Int.zero_add, or_true, true_or, or_false, false_or, and_self, z_i2l, z_l2i, lo_nat, lo_add, lo_sub, lo_mul, lo_0, e_rem, mr_X10_counts, mh_X10_counts, sh, rf]
    have := c_counts_52 (Q := Q) hR0 hway (A 2 - A 4).toNat A (A 4).toNat .null (by omega) hI hq
    have e4 : (((A 4).toNat : Nat) : Int) = A 4 := by omega
    rw [e4] at this
    rcases hg with ⟨h1, rfl⟩ | ⟨h1, rfl⟩
    · rw [if_pos (by omega : 0 < (A 2 - A 4).toNat)] at this; exact this
    · rw [if_neg (by omega : ¬ 0 < (A 2 - A 4).toNat)] at this; exact this
  refine ct_X10_counts (rt_X10_counts_0 ?_)
  simp (disch := omega) only [wp_c, wp_n, jj_n, Int.reduceToNat, Int.toNat_natCast, stE, wlE, lgt, lpu, lpw, v_c2, va_s, true_and, and_true, Option.toList, List.nil_append, List.cons_append, List.take, List.drop, List.reverse, List.reverseAux, List.length_cons, List.length_nil, reduceCtorEq, false_implies, true_implies, forall_const, not_true_eq_false, not_false_eq_true, ite_true, ite_false, Bool.false_eq_true, I_I, J_J, Nat.add_left_cancel_iff, Nat.reduceEqDiff, Nat.add_eq_left, Nat.left_eq_add, false_and, and_false, Nat.reduceSub, Nat.sub_self, Nat.le_refl, Nat.zero_le, ge_iff_le, Nat.reduceAdd, Nat.reduceLeDiff, Nat.zero_add, Nat.reduceLT, z_lt, z_le, z_eq, z_l0, z_g0, z_le0, z_ge0, z_e0, z_e1, z_vp, z_nc, z_rem, z_div, i_ltT, i_ltF, i_leT, i_leF, i_eqT, i_eqF, n_ltT, n_ltF, n_leT, n_leF, n_eqT, n_eqF, tn_9, tn_12, tn_14, tn_20, tn_28, tn_44, tn_52, tn_68, tn_84, tn_100, tn_116, tn_132, fu_e, up_eq, ob_0, ob_b, oi_add, oi_sub, oi_mul, oi_neg, rs_sh, rs_R, rs_N, rs_J, rs_F, rs_A, rs_o, rs_wA, rs_wF, rs_w, Int.add_zero, Int.zero_add, or_true, true_or, or_false, false_or, and_self, z_i2l, z_l2i, lo_nat, lo_add, lo_sub, lo_mul, lo_0, e_rem, mr_X10_counts, mh_X10_counts, sh, rf]
  rcases h8 with h8 | h8
  · rw [if_neg (by omega)] at h51
    repeat' (first | (with_reducible refine And.intro ?_ ?_) | (with_reducible intro _) | ((first | refine rt_X10_counts_21 ?_ | refine rt_X10_counts_28 ?_ | refine rt_X10_counts_50 ?_ | refine rt_X10_counts_81 ?_ | refine rt_X10_counts_97 ?_ | refine rt_X10_counts_98 ?_ | refine rt_X10_counts_118 ?_ | refine rt_X10_counts_128 ?_ | refine rt_X10_counts_130 ?_ | refine rt_X10_counts_137 ?_); simp (disch := omega) only [wp_c, wp_n, jj_n, Int.reduceToNat, Int.toNat_natCast, stE, wlE, lgt, lpu, lpw, v_c2, va_s, true_and, and_true, Option.toList, List.nil_append, List.cons_append, List.take, List.drop, List.reverse, List.reverseAux, List.length_cons, List.length_nil, reduceCtorEq, false_implies, true_implies, forall_const, not_true_eq_false, not_false_eq_true, ite_true, ite_false, Bool.false_eq_true, I_I, J_J, Nat.add_left_cancel_iff, Nat.reduceEqDiff, Nat.add_eq_left, Nat.left_eq_add, false_and, and_false, Nat.reduceSub, Nat.sub_self, Nat.le_refl, Nat.zero_le, ge_iff_le, Nat.reduceAdd, Nat.reduceLeDiff, Nat.zero_add, Nat.reduceLT, z_lt, z_le, z_eq, z_l0, z_g0, z_le0, z_ge0, z_e0, z_e1, z_vp, z_nc, z_rem, z_div, i_ltT, i_ltF, i_leT, i_leF, i_eqT, i_eqF, n_ltT, n_ltF, n_leT, n_leF, n_eqT, n_eqF, tn_9, tn_12, tn_14, tn_20, tn_28, tn_44, tn_52, tn_68, tn_84, tn_100, tn_116, tn_132, fu_e, up_eq, ob_0, ob_b, oi_add, oi_sub, oi_mul, oi_neg, rs_sh, rs_R, rs_N, rs_J, rs_F, rs_A, rs_o, rs_wA, rs_wF, rs_w, Int.add_zero, Int.zero_add, or_true, true_or, or_false, false_or, and_self, z_i2l, z_l2i, lo_nat, lo_add, lo_sub, lo_mul, lo_0, e_rem, mr_X10_counts, mh_X10_counts, sh, rf]))
    all_goals first | (exfalso; omega) | exact h51 _ (by omega)
  · rw [if_pos (by omega)] at h51
    repeat' (first | (with_reducible refine And.intro ?_ ?_) | (with_reducible intro _) | ((first | refine rt_X10_counts_21 ?_ | refine rt_X10_counts_28 ?_ | refine rt_X10_counts_50 ?_ | refine rt_X10_counts_81 ?_ | refine rt_X10_counts_97 ?_ | refine rt_X10_counts_98 ?_ | refine rt_X10_counts_118 ?_ | refine rt_X10_counts_128 ?_ | refine rt_X10_counts_130 ?_ | refine rt_X10_counts_137 ?_); simp (disch := omega) only [wp_c, wp_n, jj_n, Int.reduceToNat, Int.toNat_natCast, stE, wlE, lgt, lpu, lpw, v_c2, va_s, true_and, and_true, Option.toList, List.nil_append, List.cons_append, List.take, List.drop, List.reverse, List.reverseAux, List.length_cons, List.length_nil, reduceCtorEq, false_implies, true_implies, forall_const, not_true_eq_false, not_false_eq_true, ite_true, ite_false, Bool.false_eq_true, I_I, J_J, Nat.add_left_cancel_iff, Nat.reduceEqDiff, Nat.add_eq_left, Nat.left_eq_add, false_and, and_false, Nat.reduceSub, Nat.sub_self, Nat.le_refl, Nat.zero_le, ge_iff_le, Nat.reduceAdd, Nat.reduceLeDiff, Nat.zero_add, Nat.reduceLT, z_lt, z_le, z_eq, z_l0, z_g0, z_le0, z_ge0, z_e0, z_e1, z_vp, z_nc, z_rem, z_div, i_ltT, i_ltF, i_leT, i_leF, i_eqT, i_eqF, n_ltT, n_ltF, n_leT, n_leF, n_eqT, n_eqF, tn_9, tn_12, tn_14, tn_20, tn_28, tn_44, tn_52, tn_68, tn_84, tn_100, tn_116, tn_132, fu_e, up_eq, ob_0, ob_b, oi_add, oi_sub, oi_mul, oi_neg, rs_sh, rs_R, rs_N, rs_J, rs_F, rs_A, rs_o, rs_wA, rs_wF, rs_w, Int.add_zero, Int.zero_add, or_true, true_or, or_false, false_or, and_self, z_i2l, z_l2i, lo_nat, lo_add, lo_sub, lo_mul, lo_0, e_rem, mr_X10_counts, mh_X10_counts, sh, rf]))
    all_goals first | (exfalso; omega) | exact h51 _ (by omega)
theorem c_owes_9 {r : Nat} {w : mW} {F : Nat → Int32} {Q : mW → mO → Prop} (hR : Rb w r) : ∀ (n : Nat) (A : Row) (wh : Nat) (o : Int) (y z : Value), (wh : Int) + n = A 1 → A 4 ≤ wh → (o = 0 ∨ o = 1 ∨ o = -1) → TI A → (∀ j, j < 16 → 0 ≤ A (116 + j) ∧ A (116 + j) ≤ 9) → Q (rs r w (a_owe n A wh o) F) (.inl none) →
    RT n_X10_owes 9 [.ref r, .int (Int32.ofInt o), .int (Int32.ofInt wh), y, z] [] (rs r w A F) (0, 0, false) Q := by
  obtain ⟨sh, rf⟩ := hR
  intro n
  induction n with
  | zero =>
    intro A wh o y z hn hp ho hI hd hq
    have h0 := hI.1
    refine rt_X10_owes_9 ?_
    simp (disch := omega) only [wp_c, wp_n, jj_n, Int.reduceToNat, Int.toNat_natCast, stE, wlE, lgt, lpu, lpw, v_c2, va_s, true_and, and_true, Option.toList, List.nil_append, List.cons_append, List.take, List.drop, List.reverse, List.reverseAux, List.length_cons, List.length_nil, reduceCtorEq, false_implies, true_implies, forall_const, not_true_eq_false, not_false_eq_true, ite_true, ite_false, Bool.false_eq_true, I_I, J_J, Nat.add_left_cancel_iff, Nat.reduceEqDiff, Nat.add_eq_left, Nat.left_eq_add, false_and, and_false, Nat.reduceSub, Nat.sub_self, Nat.le_refl, Nat.zero_le, ge_iff_le, Nat.reduceAdd, Nat.reduceLeDiff, Nat.zero_add, Nat.reduceLT, z_lt, z_le, z_eq, z_l0, z_g0, z_le0, z_ge0, z_e0, z_e1, z_vp, z_nc, z_rem, z_div, i_ltT, i_ltF, i_leT, i_leF, i_eqT, i_eqF, n_ltT, n_ltF, n_leT, n_leF, n_eqT, n_eqF, tn_9, tn_12, tn_14, tn_20, tn_28, tn_44, tn_52, tn_68, tn_84, tn_100, tn_116, tn_132, fu_e, up_eq, ob_0, ob_b, oi_add, oi_sub, oi_mul, oi_neg, rs_sh, rs_R, rs_N, rs_J, rs_F, rs_A, rs_o, rs_wA, rs_wF, rs_w, Int.add_zero, Int.zero_add, or_true, true_or, or_false, false_or, and_self, z_i2l, z_l2i, lo_nat, lo_add, lo_sub, lo_mul, lo_0, e_rem, mr_X10_owes, mh_X10_owes, sh, rf]
    repeat' (first | (with_reducible refine And.intro ?_ ?_) | (with_reducible intro _) | ((first | refine rt_X10_owes_66 ?_ | refine rt_X10_owes_67 ?_ | refine rt_X10_owes_84 ?_ | refine rt_X10_owes_93 ?_ | refine rt_X10_owes_94 ?_ | refine rt_X10_owes_117 ?_); simp (disch := omega) only [wp_c, wp_n, jj_n, Int.reduceToNat, Int.toNat_natCast, stE, wlE, lgt, lpu, lpw, v_c2, va_s, true_and, and_true, Option.toList, List.nil_append, List.cons_append, List.take, List.drop, List.reverse, List.reverseAux, List.length_cons, List.length_nil, reduceCtorEq, false_implies, true_implies, forall_const, not_true_eq_false, not_false_eq_true, ite_true, ite_false, Bool.false_eq_true, I_I, J_J, Nat.add_left_cancel_iff, Nat.reduceEqDiff, Nat.add_eq_left, Nat.left_eq_add, false_and, and_false, Nat.reduceSub, Nat.sub_self, Nat.le_refl, Nat.zero_le, ge_iff_le, Nat.reduceAdd, Nat.reduceLeDiff, Nat.zero_add, Nat.reduceLT, z_lt, z_le, z_eq, z_l0, z_g0, z_le0, z_ge0, z_e0, z_e1, z_vp, z_nc, z_rem, z_div, i_ltT, i_ltF, i_leT, i_leF, i_eqT, i_eqF, n_ltT, n_ltF, n_leT, n_leF, n_eqT, n_eqF, tn_9, tn_12, tn_14, tn_20, tn_28, tn_44, tn_52, tn_68, tn_84, tn_100, tn_116, tn_132, fu_e, up_eq, ob_0, ob_b, oi_add, oi_sub, oi_mul, oi_neg, rs_sh, rs_R, rs_N, rs_J, rs_F, rs_A, rs_o, rs_wA, rs_wF, rs_w, Int.add_zero, Int.zero_add, or_true, true_or, or_false, false_or, and_self, z_i2l, z_l2i, lo_nat, lo_add, lo_sub, lo_mul, lo_0, e_rem, mr_X10_owes, mh_X10_owes, sh, rf]))
    exact hq
  | succ n ih =>
    intro A wh o y z hn hp ho hI hd hq
    have h0 := hI.1
    have h7 := hI.2.1
    have hdw := hd wh (by omega)
    have hwh : wh < 16 := by omega
    obtain ⟨p, hp4⟩ : ∃ p : Nat, A 4 = p := ⟨(A 4).toNat, by omega⟩
    have hp4' : (A 4).toNat = p := by omega
    obtain ⟨i, hi⟩ : ∃ i : Nat, wh - p = i := ⟨_, rfl⟩
    have ei : (wh : Int) - A 4 = (i : Int) := by omega
    have hi16 : i < 16 := by omega
    have hn1 : (wh : Int) + n + 1 = A 1 := by omega
    rw [a_owe, hp4', hi] at hq
    -- behind the pin
    have h67 : RT n_X10_owes 67 [.ref r, .int (Int32.ofInt o), .int (Int32.ofInt wh), .int (Int32.ofInt (i : Int)), z] [.int (Int32.ofInt (p_at A i)), .int (Int32.ofInt (A 7)), .int (Int32.ofInt (A (116 + wh)))] (rs r w A F) (0, 0, false) Q := by
      have hP : 0 ≤ p_at A i ∧ p_at A i ≤ 9 := by
        unfold p_at; split
        · exact hI.2.2.1 i (by omega)
        · omega
      obtain ⟨v, hv⟩ : ∃ v, A (116 + wh) + A 7 * p_at A i + o = v := ⟨_, rfl⟩
      have hvb : -10 ≤ v ∧ v ≤ 19 := by rcases h7 with h | h <;> rw [h] at hv <;> omega
      rw [hv] at hq
      have hm : ∀ o' : Int, (o' = 0 ∨ o' = 1 ∨ o' = -1) → 0 ≤ v - 10 * o' ∧ v - 10 * o' ≤ 9 → Q (rs r w (a_owe n (up A (116 + wh) (v - 10 * o')) (wh + 1) o') F) (.inl none) → RT n_X10_owes 94 [.ref r, .int (Int32.ofInt o), .int (Int32.ofInt wh), .int (Int32.ofInt (i : Int)), .int (Int32.ofInt v)] [.int (Int32.ofInt o')] (rs r w A F) (0, 0, false) Q := by
        intro o' ho' hvo hq'
        refine rt_X10_owes_94 ?_
        simp (disch := omega) only [wp_c, wp_n, jj_n, Int.reduceToNat, Int.toNat_natCast, stE, wlE, lgt, lpu, lpw, v_c2, va_s, true_and, and_true, Option.toList, List.nil_append, List.cons_append, List.take, List.drop, List.reverse, List.reverseAux, List.length_cons, List.length_nil, reduceCtorEq, false_implies, true_implies, forall_const, not_true_eq_false, not_false_eq_true, ite_true, ite_false, Bool.false_eq_true, I_I, J_J, Nat.add_left_cancel_iff, Nat.reduceEqDiff, Nat.add_eq_left, Nat.left_eq_add, false_and, and_false, Nat.reduceSub, Nat.sub_self, Nat.le_refl, Nat.zero_le, ge_iff_le, Nat.reduceAdd, Nat.reduceLeDiff, Nat.zero_add, Nat.reduceLT, z_lt, z_le, z_eq, z_l0, z_g0, z_le0, z_ge0, z_e0, z_e1, z_vp, z_nc, z_rem, z_div, i_ltT, i_ltF, i_leT, i_leF, i_eqT, i_eqF, n_ltT, n_ltF, n_leT, n_leF, n_eqT, n_eqF, tn_9, tn_12, tn_14, tn_20, tn_28, tn_44, tn_52, tn_68, tn_84, tn_100, tn_116, tn_132, fu_e, up_eq, ob_0, ob_b, oi_add, oi_sub, oi_mul, oi_neg, rs_sh, rs_R, rs_N, rs_J, rs_F, rs_A, rs_o, rs_wA, rs_wF, rs_w, Int.add_zero, Int.zero_add, or_true, true_or, or_false, false_or, and_self, z_i2l, z_l2i, lo_nat, lo_add, lo_sub, lo_mul, lo_0, e_rem, mr_X10_owes, mh_X10_owes, sh, rf]
        refine ih (up A (116 + wh) (v - 10 * o')) (wh + 1) o' _ _ ?_ ?_ ho' (hI.up (by omega)) (fun j hj => ?_) hq'
        · rw [up_eq, if_neg (by omega)]; omega
        · rw [up_eq, if_neg (by omega)]; omega
        · rw [up_eq]; split
          · exact hvo
          · exact hd j hj
      clear h7 ho
      refine rt_X10_owes_67 ?_
      simp (disch := omega) only [wp_c, wp_n, jj_n, Int.reduceToNat, Int.toNat_natCast, stE, wlE, lgt, lpu, lpw, v_c2, va_s, true_and, and_true, Option.toList, List.nil_append, List.cons_append, List.take, List.drop, List.reverse, List.reverseAux, List.length_cons, List.length_nil, reduceCtorEq, false_implies, true_implies, forall_const, not_true_eq_false, not_false_eq_true, ite_true, ite_false, Bool.false_eq_true, I_I, J_J, Nat.add_left_cancel_iff, Nat.reduceEqDiff, Nat.add_eq_left, Nat.left_eq_add, false_and, and_false, Nat.reduceSub, Nat.sub_self, Nat.le_refl, Nat.zero_le, ge_iff_le, Nat.reduceAdd, Nat.reduceLeDiff, Nat.zero_add, Nat.reduceLT, z_lt, z_le, z_eq, z_l0, z_g0, z_le0, z_ge0, z_e0, z_e1, z_vp, z_nc, z_rem, z_div, i_ltT, i_ltF, i_leT, i_leF, i_eqT, i_eqF, n_ltT, n_ltF, n_leT, n_leF, n_eqT, n_eqF, tn_9, tn_12, tn_14, tn_20, tn_28, tn_44, tn_52, tn_68, tn_84, tn_100, tn_116, tn_132, fu_e, up_eq, ob_0, ob_b, oi_add, oi_sub, oi_mul, oi_neg, rs_sh, rs_R, rs_N, rs_J, rs_F, rs_A, rs_o, rs_wA, rs_wF, rs_w, Int.add_zero, Int.zero_add, or_true, true_or, or_false, false_or, and_self, z_i2l, z_l2i, lo_nat, lo_add, lo_sub, lo_mul, lo_0, e_rem, mr_X10_owes, mh_X10_owes, sh, rf, hv]
      repeat' (first | (with_reducible refine And.intro ?_ ?_) | (with_reducible intro _) | ((first | refine rt_X10_owes_66 ?_ | refine rt_X10_owes_67 ?_ | refine rt_X10_owes_84 ?_ | refine rt_X10_owes_93 ?_ | refine rt_X10_owes_117 ?_); simp (disch := omega) only [wp_c, wp_n, jj_n, Int.reduceToNat, Int.toNat_natCast, stE, wlE, lgt, lpu, lpw, v_c2, va_s, true_and, and_true, Option.toList, List.nil_append, List.cons_append, List.take, List.drop, List.reverse, List.reverseAux, List.length_cons, List.length_nil, reduceCtorEq, false_implies, true_implies, forall_const, not_true_eq_false, not_false_eq_true, ite_true, ite_false, Bool.false_eq_true, I_I, J_J, Nat.add_left_cancel_iff, Nat.reduceEqDiff, Nat.add_eq_left, Nat.left_eq_add, false_and, and_false, Nat.reduceSub, Nat.sub_self, Nat.le_refl, Nat.zero_le, ge_iff_le, Nat.reduceAdd, Nat.reduceLeDiff, Nat.zero_add, Nat.reduceLT, z_lt, z_le, z_eq, z_l0, z_g0, z_le0, z_ge0, z_e0, z_e1, z_vp, z_nc, z_rem, z_div, i_ltT, i_ltF, i_leT, i_leF, i_eqT, i_eqF, n_ltT, n_ltF, n_leT, n_leF, n_eqT, n_eqF, tn_9, tn_12, tn_14, tn_20, tn_28, tn_44, tn_52, tn_68, tn_84, tn_100, tn_116, tn_132, fu_e, up_eq, ob_0, ob_b, oi_add, oi_sub, oi_mul, oi_neg, rs_sh, rs_R, rs_N, rs_J, rs_F, rs_A, rs_o, rs_wA, rs_wF, rs_w, Int.add_zero, Int.zero_add, or_true, true_or, or_false, false_or, and_self, z_i2l, z_l2i, lo_nat, lo_add, lo_sub, lo_mul, lo_0, e_rem, mr_X10_owes, mh_X10_owes, sh, rf, hv]))
      all_goals first | (rw [if_pos (by omega)] at hq; exact hm _ (by omega) (by omega) hq) | (rw [if_neg (by omega), if_pos (by omega)] at hq; exact hm _ (by omega) (by omega) hq) | (rw [if_neg (by omega), if_neg (by omega)] at hq; exact hm _ (by omega) (by omega) hq)
    refine rt_X10_owes_9 ?_
    simp (disch := omega) only [wp_c, wp_n, jj_n, Int.reduceToNat, Int.toNat_natCast, stE, wlE, lgt, lpu, lpw, v_c2, va_s, true_and, and_true, Option.toList, List.nil_append, List.cons_append, List.take, List.drop, List.reverse, List.reverseAux, List.length_cons, List.length_nil, reduceCtorEq, false_implies, true_implies, forall_const, not_true_eq_false, not_false_eq_true, ite_true, ite_false, Bool.false_eq_true, I_I, J_J, Nat.add_left_cancel_iff, Nat.reduceEqDiff, Nat.add_eq_left, Nat.left_eq_add, false_and, and_false, Nat.reduceSub, Nat.sub_self, Nat.le_refl, Nat.zero_le, ge_iff_le, Nat.reduceAdd, Nat.reduceLeDiff, Nat.zero_add, Nat.reduceLT, z_lt, z_le, z_eq, z_l0, z_g0, z_le0, z_ge0, z_e0, z_e1, z_vp, z_nc, z_rem, z_div, i_ltT, i_ltF, i_leT, i_leF, i_eqT, i_eqF, n_ltT, n_ltF, n_leT, n_leF, n_eqT, n_eqF, tn_9, tn_12, tn_14, tn_20, tn_28, tn_44, tn_52, tn_68, tn_84, tn_100, tn_116, tn_132, fu_e, up_eq, ob_0, ob_b, oi_add, oi_sub, oi_mul, oi_neg, rs_sh, rs_R, rs_N, rs_J, rs_F, rs_A, rs_o, rs_wA, rs_wF, rs_w, Int.add_zero, Int.zero_add, or_true, true_or, or_false, false_or, and_self, z_i2l, z_l2i, lo_nat, lo_add, lo_sub, lo_mul, lo_0, e_rem, mr_X10_owes, mh_X10_owes, sh, rf, ei]
    unfold p_at at h67
    by_cases hin : (i : Int) < A 0
    · rw [if_pos hin] at h67
      repeat' (first | (with_reducible refine And.intro ?_ ?_) | (with_reducible intro _) | ((first | refine rt_X10_owes_66 ?_ | refine rt_X10_owes_84 ?_ | refine rt_X10_owes_93 ?_ | refine rt_X10_owes_94 ?_ | refine rt_X10_owes_117 ?_); simp (disch := omega) only [wp_c, wp_n, jj_n, Int.reduceToNat, Int.toNat_natCast, stE, wlE, lgt, lpu, lpw, v_c2, va_s, true_and, and_true, Option.toList, List.nil_append, List.cons_append, List.take, List.drop, List.reverse, List.reverseAux, List.length_cons, List.length_nil, reduceCtorEq, false_implies, true_implies, forall_const, not_true_eq_false, not_false_eq_true, ite_true, ite_false, Bool.false_eq_true, I_I, J_J, Nat.add_left_cancel_iff, Nat.reduceEqDiff, Nat.add_eq_left, Nat.left_eq_add, false_and, and_false, Nat.reduceSub, Nat.sub_self, Nat.le_refl, Nat.zero_le, ge_iff_le, Nat.reduceAdd, Nat.reduceLeDiff, Nat.zero_add, Nat.reduceLT, z_lt, z_le, z_eq, z_l0, z_g0, z_le0, z_ge0, z_e0, z_e1, z_vp, z_nc, z_rem, z_div, i_ltT, i_ltF, i_leT, i_leF, i_eqT, i_eqF, n_ltT, n_ltF, n_leT, n_leF, n_eqT, n_eqF, tn_9, tn_12, tn_14, tn_20, tn_28, tn_44, tn_52, tn_68, tn_84, tn_100, tn_116, tn_132, fu_e, up_eq, ob_0, ob_b, oi_add, oi_sub, oi_mul, oi_neg, rs_sh, rs_R, rs_N, rs_J, rs_F, rs_A, rs_o, rs_wA, rs_wF, rs_w, Int.add_zero, Int.zero_add, or_true, true_or, or_false, false_or, and_self, z_i2l, z_l2i, lo_nat, lo_add, lo_sub, lo_mul, lo_0, e_rem, mr_X10_owes, mh_X10_owes, sh, rf, ei]))
      all_goals first | exact h67 | (exfalso; omega)
    · rw [if_neg hin] at h67
      repeat' (first | (with_reducible refine And.intro ?_ ?_) | (with_reducible intro _) | ((first | refine rt_X10_owes_66 ?_ | refine rt_X10_owes_84 ?_ | refine rt_X10_owes_93 ?_ | refine rt_X10_owes_94 ?_ | refine rt_X10_owes_117 ?_); simp (disch := omega) only [wp_c, wp_n, jj_n, Int.reduceToNat, Int.toNat_natCast, stE, wlE, lgt, lpu, lpw, v_c2, va_s, true_and, and_true, Option.toList, List.nil_append, List.cons_append, List.take, List.drop, List.reverse, List.reverseAux, List.length_cons, List.length_nil, reduceCtorEq, false_implies, true_implies, forall_const, not_true_eq_false, not_false_eq_true, ite_true, ite_false, Bool.false_eq_true, I_I, J_J, Nat.add_left_cancel_iff, Nat.reduceEqDiff, Nat.add_eq_left, Nat.left_eq_add, false_and, and_false, Nat.reduceSub, Nat.sub_self, Nat.le_refl, Nat.zero_le, ge_iff_le, Nat.reduceAdd, Nat.reduceLeDiff, Nat.zero_add, Nat.reduceLT, z_lt, z_le, z_eq, z_l0, z_g0, z_le0, z_ge0, z_e0, z_e1, z_vp, z_nc, z_rem, z_div, i_ltT, i_ltF, i_leT, i_leF, i_eqT, i_eqF, n_ltT, n_ltF, n_leT, n_leF, n_eqT, n_eqF, tn_9, tn_12, tn_14, tn_20, tn_28, tn_44, tn_52, tn_68, tn_84, tn_100, tn_116, tn_132, fu_e, up_eq, ob_0, ob_b, oi_add, oi_sub, oi_mul, oi_neg, rs_sh, rs_R, rs_N, rs_J, rs_F, rs_A, rs_o, rs_wA, rs_wF, rs_w, Int.add_zero, Int.zero_add, or_true, true_or, or_false, false_or, and_self, z_i2l, z_l2i, lo_nat, lo_add, lo_sub, lo_mul, lo_0, e_rem, mr_X10_owes, mh_X10_owes, sh, rf, ei]))
      all_goals first | exact h67 | (exfalso; omega)
theorem c_owes {r : Nat} {w : mW} {A : Row} {F : Nat → Int32} {Q : mW → mO → Prop} (hR : Rb w r) (hI : TI A) (hd : ∀ j, j < 16 → 0 ≤ A (116 + j) ∧ A (116 + j) ≤ 9) (hq : Q (rs r w (a_owe (A 1 - A 4).toNat A (A 4).toNat 0) F) (.inl none)) : CT n_X10_owes [.ref r] (rs r w A F) Q := by
  have hR0 := hR
  have h0 := hI.1
  obtain ⟨sh, rf⟩ := hR
  refine ct_X10_owes (rt_X10_owes_0 ?_)
  simp (disch := omega) only [wp_c, wp_n, jj_n, Int.reduceToNat, Int.toNat_natCast, stE, wlE, lgt, lpu, lpw, v_c2, va_s, true_and, and_true, Option.toList, List.nil_append, List.cons_append, List.take, List.drop, List.reverse, List.reverseAux, List.length_cons, List.length_nil, reduceCtorEq, false_implies, true_implies, forall_const, not_true_eq_false, not_false_eq_true, ite_true, ite_false, Bool.false_eq_true, I_I, J_J, Nat.add_left_cancel_iff, Nat.reduceEqDiff, Nat.add_eq_left, Nat.left_eq_add, false_and, and_false, Nat.reduceSub, Nat.sub_self, Nat.le_refl, Nat.zero_le, ge_iff_le, Nat.reduceAdd, Nat.reduceLeDiff, Nat.zero_add, Nat.reduceLT, z_lt, z_le, z_eq, z_l0, z_g0, z_le0, z_ge0, z_e0, z_e1, z_vp, z_nc, z_rem, z_div, i_ltT, i_ltF, i_leT, i_leF, i_eqT, i_eqF, n_ltT, n_ltF, n_leT, n_leF, n_eqT, n_eqF, tn_9, tn_12, tn_14, tn_20, tn_28, tn_44, tn_52, tn_68, tn_84, tn_100, tn_116, tn_132, fu_e, up_eq, ob_0, ob_b, oi_add, oi_sub, oi_mul, oi_neg, rs_sh, rs_R, rs_N, rs_J, rs_F, rs_A, rs_o, rs_wA, rs_wF, rs_w, Int.add_zero, Int.zero_add, or_true, true_or, or_false, false_or, and_self, z_i2l, z_l2i, lo_nat, lo_add, lo_sub, lo_mul, lo_0, e_rem, mr_X10_owes, mh_X10_owes, sh, rf]
  have := c_owes_9 hR0 (A 1 - A 4).toNat A (A 4).toNat 0 .null .null (by omega) (by omega) (Or.inl rfl) hI hd hq
  have e4 : (((A 4).toNat : Nat) : Int) = A 4 := by omega
  rw [e4] at this
  exact this
theorem num_e {A B : Row} (h : ∀ j, j < 28 → B j = A j) (h8 : A 0 ≤ 8) : p_num B = p_num A := by
  unfold p_num
  rw [h 0 (by omega)]
  exact hn_c _ _ (fun i hi => h _ (by omega))
def sft (A : Row) (k : Nat) : Row := fun j => if 132 ≤ j ∧ j < 132 + k then A (j + 4) else A j
theorem sft_s (A : Row) (k : Nat) : up (sft A k) (132 + k) (sft A k (132 + k + 4)) = sft A (k + 1) := by
  funext j
  simp only [up_eq, sft]
  by_cases h : j = 132 + k
  · subst h; rw [if_pos rfl, if_neg (by omega), if_pos (by omega)]
  · rw [if_neg h]
    by_cases h2 : 132 ≤ j ∧ j < 132 + k
    · rw [if_pos h2, if_pos (by omega)]
    · rw [if_neg h2, if_neg (by omega)]
theorem c_logs_16 {r : Nat} {w : mW} {A : Row} {F : Nat → Int32} {Q : mW → mO → Prop} (hR : Rb w r) (hq : RT n_X10_logs 43 [.ref r, .int (Int32.ofInt 248)] [] (rs r w (sft A 116) F) (0, 0, false) Q) : ∀ (n k : Nat), k + n = 116 → RT n_X10_logs 16 [.ref r, .int (Int32.ofInt ((132 + k : Nat) : Int))] [] (rs r w (sft A k) F) (0, 0, false) Q := by
  obtain ⟨sh, rf⟩ := hR
  intro n
  induction n with
  | zero =>
    intro k hk
    have e : k = 116 := by omega
    subst e
    refine rt_X10_logs_16 ?_
    simp (disch := omega) only [wp_c, wp_n, jj_n, Int.reduceToNat, Int.toNat_natCast, stE, wlE, lgt, lpu, lpw, v_c2, va_s, true_and, and_true, Option.toList, List.nil_append, List.cons_append, List.take, List.drop, List.reverse, List.reverseAux, List.length_cons, List.length_nil, reduceCtorEq, false_implies, true_implies, forall_const, not_true_eq_false, not_false_eq_true, ite_true, ite_false, Bool.false_eq_true, I_I, J_J, Nat.add_left_cancel_iff, Nat.reduceEqDiff, Nat.add_eq_left, Nat.left_eq_add, false_and, and_false, Nat.reduceSub, Nat.sub_self, Nat.le_refl, Nat.zero_le, ge_iff_le, Nat.reduceAdd, Nat.reduceLeDiff, Nat.zero_add, Nat.reduceLT, z_lt, z_le, z_eq, z_l0, z_g0, z_le0, z_ge0, z_e0, z_e1, z_vp, z_nc, z_rem, z_div, i_ltT, i_ltF, i_leT, i_leF, i_eqT, i_eqF, n_ltT, n_ltF, n_leT, n_leF, n_eqT, n_eqF, tn_9, tn_12, tn_14, tn_20, tn_28, tn_44, tn_52, tn_68, tn_84, tn_100, tn_116, tn_132, fu_e, up_eq, ob_0, ob_b, oi_add, oi_sub, oi_mul, oi_neg, rs_sh, rs_R, rs_N, rs_J, rs_F, rs_A, rs_o, rs_wA, rs_wF, rs_w, Int.add_zero, Int.zero_add, or_true, true_or, or_false, false_or, and_self, z_i2l, z_l2i, lo_nat, lo_add, lo_sub, lo_mul, lo_0, e_rem, mr_X10_logs, mh_X10_logs, sh, rf]
    exact hq
  | succ n ih =>
    intro k hk
    refine rt_X10_logs_16 ?_
    have e1 : (((132 + k : Nat) : Int) + 4).toNat = 132 + k + 4 := by omega
    simp (disch := omega) only [wp_c, wp_n, jj_n, Int.reduceToNat, Int.toNat_natCast, stE, wlE, lgt, lpu, lpw, v_c2, va_s, true_and, and_true, Option.toList, List.nil_append, List.cons_append, List.take, List.drop, List.reverse, List.reverseAux, List.length_cons, List.length_nil, reduceCtorEq, false_implies, true_implies, forall_const, not_true_eq_false, not_false_eq_true, ite_true, ite_false, Bool.false_eq_true, I_I, J_J, Nat.add_left_cancel_iff, Nat.reduceEqDiff, Nat.add_eq_left, Nat.left_eq_add, false_and, and_false, Nat.reduceSub, Nat.sub_self, Nat.le_refl, Nat.zero_le, ge_iff_le, Nat.reduceAdd, Nat.reduceLeDiff, Nat.zero_add, Nat.reduceLT, z_lt, z_le, z_eq, z_l0, z_g0, z_le0, z_ge0, z_e0, z_e1, z_vp, z_nc, z_rem, z_div, i_ltT, i_ltF, i_leT, i_leF, i_eqT, i_eqF, n_ltT, n_ltF, n_leT, n_leF, n_eqT, n_eqF, tn_9, tn_12, tn_14, tn_20, tn_28, tn_44, tn_52, tn_68, tn_84, tn_100, tn_116, tn_132, fu_e, up_eq, ob_0, ob_b, oi_add, oi_sub, oi_mul, oi_neg, rs_sh, rs_R, rs_N, rs_J, rs_F, rs_A, rs_o, rs_wA, rs_wF, rs_w, Int.add_zero, Int.zero_add, or_true, true_or, or_false, false_or, and_self, z_i2l, z_l2i, lo_nat, lo_add, lo_sub, lo_mul, lo_0, e_rem, mr_X10_logs, mh_X10_logs, sh, rf, e1]
    rw [sft_s]
    have := ih (k + 1) (by omega)
    rw [show ((132 + (k + 1) : Nat) : Int) = ((132 + k : Nat) : Int) + 1 by omega] at this
    exact this
theorem c_logs_54 {r : Nat} {w : mW} {B : Row} {x : Value} {F : Nat → Int32} {Q : mW → mO → Prop} (hR : Rb w r) (h0 : 0 ≤ B 0 ∧ B 0 ≤ 8) (hd : ∀ j, j < 8 → 0 ≤ B (20 + j) ∧ B (20 + j) ≤ 9) (h18 : 0 ≤ B 18 ∧ B 18 < 30) (h9 : 0 ≤ B 9 ∧ B 9 ≤ 100)
  (hq : Q (rs r w (up (up (up (up (up B (132 + 4 * (B 18).toNat) (B 7)) (132 + 4 * (B 18).toNat + 1) (B 4)) (132 + 4 * (B 18).toNat + 2) (p_num B)) (132 + 4 * (B 18).toNat + 3) (if 0 < B 9 then 1 else 0)) 18 (B 18 + 1)) F) (.inl none)) : RT n_X10_logs 54 [.ref r, x] [] (rs r w B F) (0, 0, false) Q := by
  have hR0 := hR
  obtain ⟨sh, rf⟩ := hR
  obtain ⟨s, hs⟩ : ∃ s : Nat, B 18 = s := ⟨(B 18).toNat, by omega⟩
  have hs' : (B 18).toNat = s := by omega
  rw [hs'] at hq
  have e0 : 132 + 4 * B 18 = ((132 + 4 * s : Nat) : Int) := by omega
  generalize ht : 132 + 4 * s = t at hq e0
  have t1 : ((t : Int) + 1).toNat = t + 1 := by omega
  have t2 : ((t : Int) + 2).toNat = t + 2 := by omega
  have t3 : ((t : Int) + 3).toNat = t + 3 := by omega
  refine rt_X10_logs_54 ?_
  simp (disch := omega) only [wp_c, wp_n, jj_n, Int.reduceToNat, Int.toNat_natCast, stE, wlE, lgt, lpu, lpw, v_c2, va_s, true_and, and_true, Option.toList, List.nil_append, List.cons_append, List.take, List.drop, List.reverse, List.reverseAux, List.length_cons, List.length_nil, reduceCtorEq, false_implies, true_implies, forall_const, not_true_eq_false, not_false_eq_true, ite_true, ite_false, Bool.false_eq_true, I_I, J_J, Nat.add_left_cancel_iff, Nat.reduceEqDiff, Nat.add_eq_left, Nat.left_eq_add, false_and, and_false, Nat.reduceSub, Nat.sub_self, Nat.le_refl, Nat.zero_le, ge_iff_le, Nat.reduceAdd, Nat.reduceLeDiff, Nat.zero_add, Nat.reduceLT, z_lt, z_le, z_eq, z_l0, z_g0, z_le0, z_ge0, z_e0, z_e1, z_vp, z_nc, z_rem, z_div, i_ltT, i_ltF, i_leT, i_leF, i_eqT, i_eqF, n_ltT, n_ltF, n_leT, n_leF, n_eqT, n_eqF, tn_9, tn_12, tn_14, tn_20, tn_28, tn_44, tn_52, tn_68, tn_84, tn_100, tn_116, tn_132, fu_e, up_eq, ob_0, ob_b, oi_add, oi_sub, oi_mul, oi_neg, rs_sh, rs_R, rs_N, rs_J, rs_F, rs_A, rs_o, rs_wA, rs_wF, rs_w, Int.add_zero, Int.zero_add, or_true, true_or, or_false, false_or, and_self, z_i2l, z_l2i, lo_nat, lo_add, lo_sub, lo_mul, lo_0, e_rem, mr_X10_logs, mh_X10_logs, sh, rf, e0, t1, t2, t3]
  have hn : p_num (up (up B t (B 7)) (t + 1) (B 4)) = p_num B := num_e (fun j hj => by rw [up_eq, if_neg (by omega), up_eq, if_neg (by omega)]) (by omega)
  refine c_rpins hR0 (by rw [up_eq, if_neg (by omega), up_eq, if_neg (by omega)]; exact h0) (fun j hj => by rw [up_eq, if_neg (by omega), up_eq, if_neg (by omega)]; exact hd j hj) ?_
  rw [hn]
  have hpb := hn_b (fun i => B (20 + i)) (B 0).toNat 0 (fun i hi => hd i (by omega)) (by omega)
  simp (disch := omega) only [wp_c, wp_n, jj_n, Int.reduceToNat, Int.toNat_natCast, stE, wlE, lgt, lpu, lpw, v_c2, va_s, true_and, and_true, Option.toList, List.nil_append, List.cons_append, List.take, List.drop, List.reverse, List.reverseAux, List.length_cons, List.length_nil, reduceCtorEq, false_implies, true_implies, forall_const, not_true_eq_false, not_false_eq_true, ite_true, ite_false, Bool.false_eq_true, I_I, J_J, Nat.add_left_cancel_iff, Nat.reduceEqDiff, Nat.add_eq_left, Nat.left_eq_add, false_and, and_false, Nat.reduceSub, Nat.sub_self, Nat.le_refl, Nat.zero_le, ge_iff_le, Nat.reduceAdd, Nat.reduceLeDiff, Nat.zero_add, Nat.reduceLT, z_lt, z_le, z_eq, z_l0, z_g0, z_le0, z_ge0, z_e0, z_e1, z_vp, z_nc, z_rem, z_div, i_ltT, i_ltF, i_leT, i_leF, i_eqT, i_eqF, n_ltT, n_ltF, n_leT, n_leF, n_eqT, n_eqF, tn_9, tn_12, tn_14, tn_20, tn_28, tn_44, tn_52, tn_68, tn_84, tn_100, tn_116, tn_132, fu_e, up_eq, ob_0, ob_b, oi_add, oi_sub, oi_mul, oi_neg, rs_sh, rs_R, rs_N, rs_J, rs_F, rs_A, rs_o, rs_wA, rs_wF, rs_w, Int.add_zero, Int.zero_add, or_true, true_or, or_false, false_or, and_self, z_i2l, z_l2i, lo_nat, lo_add, lo_sub, lo_mul, lo_0, e_rem, mr_X10_logs, mh_X10_logs, sh, rf, e0, t1, t2, t3]
  repeat' (first | (with_reducible refine And.intro ?_ ?_) | (with_reducible intro _) | ((first | refine rt_X10_logs_16 ?_ | refine rt_X10_logs_43 ?_ | refine rt_X10_logs_54 ?_ | refine rt_X10_logs_128 ?_ | refine rt_X10_logs_129 ?_); simp (disch := omega) only [wp_c, wp_n, jj_n, Int.reduceToNat, Int.toNat_natCast, stE, wlE, lgt, lpu, lpw, v_c2, va_s, true_and, and_true, Option.toList, List.nil_append, List.cons_append, List.take, List.drop, List.reverse, List.reverseAux, List.length_cons, List.length_nil, reduceCtorEq, false_implies, true_implies, forall_const, not_true_eq_false, not_false_eq_true, ite_true, ite_false, Bool.false_eq_true, I_I, J_J, Nat.add_left_cancel_iff, Nat.reduceEqDiff, Nat.add_eq_left, Nat.left_eq_add, false_and, and_false, Nat.reduceSub, Nat.sub_self, Nat.le_refl, Nat.zero_le, ge_iff_le, Nat.reduceAdd, Nat.reduceLeDiff, Nat.zero_add, Nat.reduceLT, z_lt, z_le, z_eq, z_l0, z_g0, z_le0, z_ge0, z_e0, z_e1, z_vp, z_nc, z_rem, z_div, i_ltT, i_ltF, i_leT, i_leF, i_eqT, i_eqF, n_ltT, n_ltF, n_leT, n_leF, n_eqT, n_eqF, tn_9, tn_12, tn_14, tn_20, tn_28, tn_44, tn_52, tn_68, tn_84, tn_100, tn_116, tn_132, fu_e, up_eq, ob_0, ob_b, oi_add, oi_sub, oi_mul, oi_neg, rs_sh, rs_R, rs_N, rs_J, rs_F, rs_A, rs_o, rs_wA, rs_wF, rs_w, Int.add_zero, Int.zero_add, or_true, true_or, or_false, false_or, and_self, z_i2l, z_l2i, lo_nat, lo_add, lo_sub, lo_mul, lo_0, e_rem, mr_X10_logs, mh_X10_logs, sh, rf, e0, t1, t2, t3]))
  · rw [if_neg (by omega)] at hq; exact hq
  · rw [if_pos (by omega)] at hq; exact hq
theorem c_logs {r : Nat} {w : mW} {A : Row} {F : Nat → Int32} {Q : mW → mO → Prop} (hR : Rb w r) (h0 : 0 ≤ A 0 ∧ A 0 ≤ 8) (hd : ∀ j, j < 8 → 0 ≤ A (20 + j) ∧ A (20 + j) ≤ 9) (h18 : 0 ≤ A 18 ∧ A 18 ≤ 30) (h9 : 0 ≤ A 9 ∧ A 9 ≤ 100)
  (hq : Q (rs r w (a_log A (A 7) (A 4) (p_num A) (if 0 < A 9 then 1 else 0)) F) (.inl none)) : CT n_X10_logs [.ref r] (rs r w A F) Q := by
  have hR0 := hR
  obtain ⟨sh, rf⟩ := hR
  refine ct_X10_logs (rt_X10_logs_0 ?_)
  simp (disch := omega) only [wp_c, wp_n, jj_n, Int.reduceToNat, Int.toNat_natCast, stE, wlE, lgt, lpu, lpw, v_c2, va_s, true_and, and_true, Option.toList, List.nil_append, List.cons_append, List.take, List.drop, List.reverse, List.reverseAux, List.length_cons, List.length_nil, reduceCtorEq, false_implies, true_implies, forall_const, not_true_eq_false, not_false_eq_true, ite_true, ite_false, Bool.false_eq_true, I_I, J_J, Nat.add_left_cancel_iff, Nat.reduceEqDiff, Nat.add_eq_left, Nat.left_eq_add, false_and, and_false, Nat.reduceSub, Nat.sub_self, Nat.le_refl, Nat.zero_le, ge_iff_le, Nat.reduceAdd, Nat.reduceLeDiff, Nat.zero_add, Nat.reduceLT, z_lt, z_le, z_eq, z_l0, z_g0, z_le0, z_ge0, z_e0, z_e1, z_vp, z_nc, z_rem, z_div, i_ltT, i_ltF, i_leT, i_leF, i_eqT, i_eqF, n_ltT, n_ltF, n_leT, n_leF, n_eqT, n_eqF, tn_9, tn_12, tn_14, tn_20, tn_28, tn_44, tn_52, tn_68, tn_84, tn_100, tn_116, tn_132, fu_e, up_eq, ob_0, ob_b, oi_add, oi_sub, oi_mul, oi_neg, rs_sh, rs_R, rs_N, rs_J, rs_F, rs_A, rs_o, rs_wA, rs_wF, rs_w, Int.add_zero, Int.zero_add, or_true, true_or, or_false, false_or, and_self, z_i2l, z_l2i, lo_nat, lo_add, lo_sub, lo_mul, lo_0, e_rem, mr_X10_logs, mh_X10_logs, sh, rf]
  refine ⟨fun hne => ?_, fun hf => ?_⟩
  · have hne' : ¬ A 18 = 30 := hne
    simp only [a_log, if_neg hne'] at hq
    exact c_logs_54 hR0 h0 hd (by omega) h9 hq
  · have hf' : A 18 = 30 := by omega
    simp only [a_log, if_pos hf'] at hq
    have := c_logs_16 (A := A) (F := F) (Q := Q) hR0 ?_ 116 0 rfl
    · have e0 : sft A 0 = A := by funext j; simp only [sft]; rw [if_neg (by omega)]
      rw [e0] at this
      exact this
    · refine rt_X10_logs_43 ?_
      have e18 : sft A 116 18 = 30 := by simp only [sft]; rw [if_neg (by omega)]; exact hf'
      simp (disch := omega) only [wp_c, wp_n, jj_n, Int.reduceToNat, Int.toNat_natCast, stE, wlE, lgt, lpu, lpw, v_c2, va_s, true_and, and_true, Option.toList, List.nil_append, List.cons_append, List.take, List.drop, List.reverse, List.reverseAux, List.length_cons, List.length_nil, reduceCtorEq, false_implies, true_implies, forall_const, not_true_eq_false, not_false_eq_true, ite_true, ite_false, Bool.false_eq_true, I_I, J_J, Nat.add_left_cancel_iff, Nat.reduceEqDiff, Nat.add_eq_left, Nat.left_eq_add, false_and, and_false, Nat.reduceSub, Nat.sub_self, Nat.le_refl, Nat.zero_le, ge_iff_le, Nat.reduceAdd, Nat.reduceLeDiff, Nat.zero_add, Nat.reduceLT, z_lt, z_le, z_eq, z_l0, z_g0, z_le0, z_ge0, z_e0, z_e1, z_vp, z_nc, z_rem, z_div, i_ltT, i_ltF, i_leT, i_leF, i_eqT, i_eqF, n_ltT, n_ltF, n_leT, n_leF, n_eqT, n_eqF, tn_9, tn_12, tn_14, tn_20, tn_28, tn_44, tn_52, tn_68, tn_84, tn_100, tn_116, tn_132, fu_e, up_eq, ob_0, ob_b, oi_add, oi_sub, oi_mul, oi_neg, rs_sh, rs_R, rs_N, rs_J, rs_F, rs_A, rs_o, rs_wA, rs_wF, rs_w, Int.add_zero, Int.zero_add, or_true, true_or, or_false, false_or, and_self, z_i2l, z_l2i, lo_nat, lo_add, lo_sub, lo_mul, lo_0, e_rem, mr_X10_logs, mh_X10_logs, sh, rf, e18]
      have ej : ∀ j, j < 132 → j ≠ 18 → up (sft A 116) 18 29 j = A j := fun j h1 h2 => by rw [up_eq, if_neg h2]; simp only [sft]; rw [if_neg (by omega)]
      have en : p_num (up (sft A 116) 18 29) = p_num A := num_g (fun j hj => ej j (by unfold kg at hj; omega) (by unfold kg at hj; omega)) (by omega)
      have e29 : up (sft A 116) 18 29 18 = 29 := by rw [up_eq, if_pos rfl]
      refine c_logs_54 (B := up (sft A 116) 18 29) hR0 (by rw [ej _ (by omega) (by omega)]; exact h0) (fun j hj => by rw [ej _ (by omega) (by omega)]; exact hd j hj) (by rw [e29]; omega) (by rw [ej _ (by omega) (by omega)]; exact h9) ?_
      rw [en, ej 7 (by omega) (by omega), ej 4 (by omega) (by omega), ej 9 (by omega) (by omega)]
      exact hq
/-! a turn of the reference leaves the same row -/
theorem log_c {A B : Row} {x y z r : Int} (h : ∀ i, i = 18 ∨ 132 ≤ i → A i = B i) (j : Nat) (hj : j = 18 ∨ 132 ≤ j) : a_log A x y z r j = a_log B x y z r j := by
  have h18 := h 18 (Or.inl rfl)
  simp only [a_log]
  rw [h18]
  by_cases hf : B 18 = 30
  · rw [if_pos hf, if_pos hf]
    have e : ∀ i, i = 18 ∨ 132 ≤ i → up (fun j => if 132 ≤ j ∧ j < 248 then A (j + 4) else A j) 18 29 i = up (fun j => if 132 ≤ j ∧ j < 248 then B (j + 4) else B j) 18 29 i := by
      intro i hi
      simp only [up_eq]
      by_cases h1 : i = 18
      · rw [if_pos h1, if_pos h1]
      · rw [if_neg h1, if_neg h1]
        by_cases h2 : 132 ≤ i ∧ i < 248
        · rw [if_pos h2, if_pos h2, h _ (by omega)]
        · rw [if_neg h2, if_neg h2, h _ (by omega)]
    have e18 := e 18 (Or.inl rfl)
    generalize up (fun j => if 132 ≤ j ∧ j < 248 then A (j + 4) else A j) 18 29 = A1 at e e18
    generalize up (fun j => if 132 ≤ j ∧ j < 248 then B (j + 4) else B j) 18 29 = B1 at e e18
    rw [e18]
    simp only [up_eq, e j hj]
  · rw [if_neg hf, if_neg hf]
    simp only [up_eq, h j hj, h18]
theorem owe_c : ∀ (n : Nat) (A B : Row) (wh : Nat) (o : Int), A 4 = B 4 → A 7 = B 7 → A 0 = B 0 → A 0 ≤ 8 → (∀ j, j < 8 → A (20 + j) = B (20 + j)) → wh + n ≤ 16 → (∀ j, j < 16 → A (116 + j) = B (116 + j)) → ∀ j, j < 16 → a_owe n A wh o (116 + j) = a_owe n B wh o (116 + j) := by
  intro n
  induction n with
  | zero => intro A B wh o _ _ _ _ _ _ h j hj; exact h j hj
  | succ n ih =>
    intro A B wh o h4 h7 h0 h8 h20 hw h j hj
    have hp : p_at A (wh - (A 4).toNat) = p_at B (wh - (B 4).toNat) := by
      unfold p_at
      rw [h4, h0]
      split
      · exact h20 _ (by omega)
      · rfl
    rw [a_owe, a_owe, hp, h7, h wh (by omega)]
    refine ih _ _ _ _ ?_ ?_ ?_ ?_ (fun i hi => ?_) (by omega) (fun i hi => ?_) j hj
    · rw [up_eq, if_neg (by omega), up_eq, if_neg (by omega)]; exact h4
    · rw [up_eq, if_neg (by omega), up_eq, if_neg (by omega)]; exact h7
    · rw [up_eq, if_neg (by omega), up_eq, if_neg (by omega)]; exact h0
    · rw [up_eq, if_neg (by omega)]; exact h8
    · rw [up_eq, if_neg (by omega), up_eq, if_neg (by omega)]; exact h20 i hi
    · simp only [up_eq]
      split
      · rfl
      · exact h i hi
theorem owe_s2 : ∀ (n : Nat) (A : Row) (wh : Nat) (o : Int) (j : Nat), wh + n ≤ 16 → (j < 116 ∨ 132 ≤ j) → a_owe n A wh o j = A j := by
  intro n
  induction n with
  | zero => intro A wh o j _ _; rfl
  | succ n ih => intro A wh o j hw hj; rw [a_owe, ih _ _ _ _ (by omega) hj, up_eq, if_neg (by omega)]
/-- the end of the reference's turn, in its order -/
def r_end (A : Row) : Row :=
  let C := a_cnt (A 2 - A 4).toNat A (A 4).toNat (if 0 < A 8 then -A 7 else A 7)
  let O := up (a_owe (C 1 - C 4).toNat C (C 4).toNat 0) 5 0
  let P := up O 12 (O 12 + 1)
  let D := up P 13 (P 13 + (if P 7 < 0 then 1 else 0))
  a_log D (D 7) (D 4) (p_num D) (if 0 < D 9 then 1 else 0)
theorem end_eq {A : Row} (hI : TI A) (h18 : 0 ≤ A 18) (h9 : A 9 = 0 ∨ A 9 = 1) : r_end A = up (a_owe (a_endC A 1 - a_endC A 4).toNat (a_endC A) (a_endC A 4).toNat 0) 5 0 := by
  have h0 := hI.1
  have h7 := hI.2.1
  have hC : ∀ i, (i < 44 ∨ 52 ≤ i) → a_cnt (A 2 - A 4).toNat A (A 4).toNat (if 0 < A 8 then -A 7 else A 7) i = A i := fun i hi => cnt_s _ _ _ _ _ (by omega)
  have k1 : a_endC A 1 = A 1 := endC_k hI h18 (by unfold kg; omega)
  have k4 : a_endC A 4 = A 4 := endC_k hI h18 (by unfold kg; omega)
  rw [k1, k4]
  simp only [r_end]
  have hE : a_endC A = a_log (if A 7 = -1 then up (up (a_cnt (A 2 - A 4).toNat A (A 4).toNat (if 0 < A 8 then -A 7 else A 7)) 12 (a_cnt (A 2 - A 4).toNat A (A 4).toNat (if 0 < A 8 then -A 7 else A 7) 12 + 1)) 13 (up (a_cnt (A 2 - A 4).toNat A (A 4).toNat (if 0 < A 8 then -A 7 else A 7)) 12 (a_cnt (A 2 - A 4).toNat A (A 4).toNat (if 0 < A 8 then -A 7 else A 7) 12 + 1) 13 + 1) else up (a_cnt (A 2 - A 4).toNat A (A 4).toNat (if 0 < A 8 then -A 7 else A 7)) 12 (a_cnt (A 2 - A 4).toNat A (A 4).toNat (if 0 < A 8 then -A 7 else A 7) 12 + 1)) (A 7) (A 4) (p_num A) (A 9) := rfl
  rw [hE]
  clear hE k1 k4
  generalize a_cnt (A 2 - A 4).toNat A (A 4).toNat (if 0 < A 8 then -A 7 else A 7) = C at hC
  rw [hC 1 (by omega), hC 4 (by omega)]
  obtain ⟨n, hn⟩ : ∃ n : Nat, (A 1 - A 4).toNat = n := ⟨_, rfl⟩
  obtain ⟨p, hp⟩ : ∃ p : Nat, (A 4).toNat = p := ⟨_, rfl⟩
  rw [hn, hp]
  have hO : ∀ j, (j < 116 ∨ 132 ≤ j) → a_owe n C p 0 j = C j := fun j hj => owe_s2 n C p 0 j (by omega) hj
  -- the row behind the counts, on the reference's side
  have e12 : up (a_owe n C p 0) 5 0 12 = C 12 := by rw [up_eq, if_neg (by omega), hO _ (by omega)]
  rw [e12]
  have e7 : up (up (a_owe n C p 0) 5 0) 12 (C 12 + 1) 7 = A 7 := by rw [up_eq, if_neg (by omega), up_eq, if_neg (by omega), hO _ (by omega), hC _ (by omega)]
  have e13 : up (up (a_owe n C p 0) 5 0) 12 (C 12 + 1) 13 = C 13 := by rw [up_eq, if_neg (by omega), up_eq, if_neg (by omega), hO _ (by omega)]
  rw [e7, e13]
  generalize hD : up (up (up (a_owe n C p 0) 5 0) 12 (C 12 + 1)) 13 (C 13 + if A 7 < 0 then 1 else 0) = D
  have hDj : ∀ j, j ≠ 13 → j ≠ 12 → j ≠ 5 → D j = a_owe n C p 0 j := fun j h1 h2 h3 => by rw [← hD, up_eq, if_neg h1, up_eq, if_neg h2, up_eq, if_neg h3]
  have d7 : D 7 = A 7 := by rw [hDj _ (by omega) (by omega) (by omega), hO _ (by omega), hC _ (by omega)]
  have d4 : D 4 = A 4 := by rw [hDj _ (by omega) (by omega) (by omega), hO _ (by omega), hC _ (by omega)]
  have d9 : D 9 = A 9 := by rw [hDj _ (by omega) (by omega) (by omega), hO _ (by omega), hC _ (by omega)]
  have d18 : D 18 = A 18 := by rw [hDj _ (by omega) (by omega) (by omega), hO _ (by omega), hC _ (by omega)]
  have dn : p_num D = p_num A := by
    unfold p_num
    rw [hDj 0 (by omega) (by omega) (by omega), hO _ (by omega), hC _ (by omega)]
    exact hn_c _ _ (fun i hi => by rw [hDj _ (by omega) (by omega) (by omega), hO _ (by omega), hC _ (by omega)])
  have d9' : (if 0 < D 9 then (1 : Int) else 0) = A 9 := by rw [d9]; rcases h9 with h | h <;> rw [h] <;> rfl
  rw [d7, d4, dn, d9']
  generalize hX : (if A 7 = -1 then up (up C 12 (C 12 + 1)) 13 (up C 12 (C 12 + 1) 13 + 1) else up C 12 (C 12 + 1)) = X
  have hXj : ∀ j, j ≠ 13 → j ≠ 12 → X j = C j := fun j h1 h2 => by
    rw [← hX]; split
    · rw [up_eq, if_neg h1, up_eq, if_neg h2]
    · rw [up_eq, if_neg h2]
  have hX12 : X 12 = C 12 + 1 := by
    rw [← hX]; split
    · rw [up_eq, if_neg (by omega), up_eq, if_pos rfl]
    · rw [up_eq, if_pos rfl]
  have hX13 : X 13 = C 13 + if A 7 < 0 then 1 else 0 := by
    rw [← hX]; split
    · rename_i h; rw [up_eq, if_pos rfl, up_eq, if_neg (by omega), if_pos (by omega)]
    · rename_i h; rw [up_eq, if_neg (by omega), if_neg (by omega)]; omega
  have x18 : X 18 = A 18 := by rw [hXj _ (by omega) (by omega), hC _ (by omega)]
  have hLs := log_s X (A 7) (A 4) (p_num A) (A 9) (by omega)
  have hLs' := log_s D (A 7) (A 4) (p_num A) (A 9) (by omega)
  funext j
  by_cases h1 : j = 18 ∨ 132 ≤ j
  · rw [up_eq, if_neg (by omega), owe_s2 _ _ _ _ _ (by omega) (by omega)]
    exact log_c (fun i hi => by rw [hDj _ (by omega) (by omega) (by omega), hO _ (by omega), hXj _ (by omega) (by omega)]) j h1
  · rw [hLs' j (by omega)]
    by_cases h2 : 116 ≤ j
    · obtain ⟨i, hi⟩ : ∃ i, j = 116 + i := ⟨j - 116, by omega⟩
      subst hi
      rw [hDj _ (by omega) (by omega) (by omega), up_eq, if_neg (by omega)]
      exact owe_c n C _ p 0 (by rw [hLs _ (by omega), hXj _ (by omega) (by omega)]) (by rw [hLs _ (by omega), hXj _ (by omega) (by omega)]) (by rw [hLs _ (by omega), hXj _ (by omega) (by omega)]) (by rw [hC _ (by omega)]; omega) (fun i hi => by rw [hLs _ (by omega), hXj _ (by omega) (by omega)]) (by omega) (fun i hi => by rw [hLs _ (by omega), hXj _ (by omega) (by omega)]) i (by omega)
    · rw [up_eq]
      by_cases h5 : j = 5
      · rw [if_pos h5, h5, ← hD, up_eq, if_neg (by omega), up_eq, if_neg (by omega), up_eq, if_pos rfl]
      · rw [if_neg h5, owe_s2 _ _ _ _ _ (by omega) (by omega), hLs _ (by omega)]
        by_cases h13 : j = 13
        · subst h13; rw [hX13, ← hD, up_eq, if_pos rfl]
        · by_cases h12 : j = 12
          · subst h12; rw [hX12, ← hD, up_eq, if_neg (by omega), up_eq, if_pos rfl]
          · rw [hDj _ h13 h12 h5, hO _ (by omega), hXj _ h13 h12]
theorem c_goesOn_39 {r : Nat} {x y : Value} {w : mW} {A : Row} {F : Nat → Int32} {Q : mW → mO → Prop} (hR : Rb w r) (hI : TI A) (h8 : A 8 = 0 ∨ A 8 = 1) (h18 : 0 ≤ A 18 ∧ A 18 ≤ 30) (h9 : A 9 = 0 ∨ A 9 = 1) (hd : ∀ j, j < 16 → 0 ≤ A (116 + j) ∧ A (116 + j) ≤ 9)
  (hq : Q (rs r w (r_end A) F) (.inl (some (.int (Int32.ofInt 1))))) : RT n_X10_goesOn 39 [.ref r, x, y] [] (rs r w A F) (0, 0, false) Q := by
  have hR0 := hR
  have h0 := hI.1
  have h7 := hI.2.1
  obtain ⟨sh, rf⟩ := hR
  have hway : (if 0 < A 8 then -A 7 else A 7) = 1 ∨ (if 0 < A 8 then -A 7 else A 7) = -1 := by split <;> omega
  have hCT := cnts_TI hway (A 2 - A 4).toNat A (A 4).toNat hI (by omega)
  have hC : ∀ i, (i < 44 ∨ 52 ≤ i) → a_cnt (A 2 - A 4).toNat A (A 4).toNat (if 0 < A 8 then -A 7 else A 7) i = A i := fun i hi => cnt_s _ _ _ _ _ (by omega)
  have hre : r_end A = a_log (up (up (up (a_owe (a_cnt (A 2 - A 4).toNat A (A 4).toNat (if 0 < A 8 then -A 7 else A 7) 1 - a_cnt (A 2 - A 4).toNat A (A 4).toNat (if 0 < A 8 then -A 7 else A 7) 4).toNat (a_cnt (A 2 - A 4).toNat A (A 4).toNat (if 0 < A 8 then -A 7 else A 7)) (a_cnt (A 2 - A 4).toNat A (A 4).toNat (if 0 < A 8 then -A 7 else A 7) 4).toNat 0) 5 0) 12 (up (a_owe (a_cnt (A 2 - A 4).toNat A (A 4).toNat (if 0 < A 8 then -A 7 else A 7) 1 - a_cnt (A 2 - A 4).toNat A (A 4).toNat (if 0 < A 8 then -A 7 else A 7) 4).toNat (a_cnt (A 2 - A 4).toNat A (A 4).toNat (if 0 < A 8 then -A 7 else A 7)) (a_cnt (A 2 - A 4).toNat A (A 4).toNat (if 0 < A 8 then -A 7 else A 7) 4).toNat 0) 5 0 12 + 1)) 13 _) _ _ _ _ := rfl
  rw [hre] at hq
  refine rt_X10_goesOn_39 ?_
  simp (disch := omega) only [wp_c, wp_n, jj_n, Int.reduceToNat, Int.toNat_natCast, stE, wlE, lgt, lpu, lpw, v_c2, va_s, true_and, and_true, Option.toList, List.nil_append, List.cons_append, List.take, List.drop, List.reverse, List.reverseAux, List.length_cons, List.length_nil, reduceCtorEq, false_implies, true_implies, forall_const, not_true_eq_false, not_false_eq_true, ite_true, ite_false, Bool.false_eq_true, I_I, J_J, Nat.add_left_cancel_iff, Nat.reduceEqDiff, Nat.add_eq_left, Nat.left_eq_add, false_and, and_false, Nat.reduceSub, Nat.sub_self, Nat.le_refl, Nat.zero_le, ge_iff_le, Nat.reduceAdd, Nat.reduceLeDiff, Nat.zero_add, Nat.reduceLT, z_lt, z_le, z_eq, z_l0, z_g0, z_le0, z_ge0, z_e0, z_e1, z_vp, z_nc, z_rem, z_div, i_ltT, i_ltF, i_leT, i_leF, i_eqT, i_eqF, n_ltT, n_ltF, n_leT, n_leF, n_eqT, n_eqF, tn_9, tn_12, tn_14, tn_20, tn_28, tn_44, tn_52, tn_68, tn_84, tn_100, tn_116, tn_132, fu_e, up_eq, ob_0, ob_b, oi_add, oi_sub, oi_mul, oi_neg, rs_sh, rs_R, rs_N, rs_J, rs_F, rs_A, rs_o, rs_wA, rs_wF, rs_w, Int.add_zero, Int.zero_add, or_true, true_or, or_false, false_or, and_self, z_i2l, z_l2i, lo_nat, lo_add, lo_sub, lo_mul, lo_0, e_rem, mr_X10_goesOn, mh_X10_goesOn, sh, rf]
  refine c_counts hR0 hI h8 ?_
  generalize a_cnt (A 2 - A 4).toNat A (A 4).toNat (if 0 < A 8 then -A 7 else A 7) = C at hq hCT hC
  clear hre
  simp (disch := omega) only [wp_c, wp_n, jj_n, Int.reduceToNat, Int.toNat_natCast, stE, wlE, lgt, lpu, lpw, v_c2, va_s, true_and, and_true, Option.toList, List.nil_append, List.cons_append, List.take, List.drop, List.reverse, List.reverseAux, List.length_cons, List.length_nil, reduceCtorEq, false_implies, true_implies, forall_const, not_true_eq_false, not_false_eq_true, ite_true, ite_false, Bool.false_eq_true, I_I, J_J, Nat.add_left_cancel_iff, Nat.reduceEqDiff, Nat.add_eq_left, Nat.left_eq_add, false_and, and_false, Nat.reduceSub, Nat.sub_self, Nat.le_refl, Nat.zero_le, ge_iff_le, Nat.reduceAdd, Nat.reduceLeDiff, Nat.zero_add, Nat.reduceLT, z_lt, z_le, z_eq, z_l0, z_g0, z_le0, z_ge0, z_e0, z_e1, z_vp, z_nc, z_rem, z_div, i_ltT, i_ltF, i_leT, i_leF, i_eqT, i_eqF, n_ltT, n_ltF, n_leT, n_leF, n_eqT, n_eqF, tn_9, tn_12, tn_14, tn_20, tn_28, tn_44, tn_52, tn_68, tn_84, tn_100, tn_116, tn_132, fu_e, up_eq, ob_0, ob_b, oi_add, oi_sub, oi_mul, oi_neg, rs_sh, rs_R, rs_N, rs_J, rs_F, rs_A, rs_o, rs_wA, rs_wF, rs_w, Int.add_zero, Int.zero_add, or_true, true_or, or_false, false_or, and_self, z_i2l, z_l2i, lo_nat, lo_add, lo_sub, lo_mul, lo_0, e_rem, mr_X10_goesOn, mh_X10_goesOn, sh, rf]
  have hCd : ∀ j, j < 16 → 0 ≤ C (116 + j) ∧ C (116 + j) ≤ 9 := fun j hj => by rw [hC _ (by omega)]; exact hd j hj
  refine c_owes hR0 hCT hCd ?_
  have hC0 := hCT.1
  have hO : ∀ j, (j < 116 ∨ 132 ≤ j) → a_owe (C 1 - C 4).toNat C (C 4).toNat 0 j = C j := fun j hj => owe_s2 _ _ _ _ _ (by omega) hj
  generalize a_owe (C 1 - C 4).toNat C (C 4).toNat 0 = O at hq hO
  have o7 : O 7 = A 7 := by rw [hO _ (by omega), hC _ (by omega)]
  have hz : ∀ (u v : Int) (j : Nat), j < 44 → j ≠ 5 → j ≠ 12 → j ≠ 13 → up (up (up O 5 0) 12 u) 13 v j = A j := fun u v j h1 h2 h3 h4 => by rw [up_eq, if_neg h4, up_eq, if_neg h3, up_eq, if_neg h2, hO _ (by omega), hC _ (by omega)]
  have h88 : ∀ g : Int, g = (if A 7 < 0 then 1 else 0) → RT n_X10_goesOn 88 [.ref r, x, y] [.int (Int32.ofInt g), .int (Int32.ofInt (O 13)), .int (Int32.ofInt 13), .ref (r + 1)] (rs r w (up (up O 5 0) 12 (O 12 + 1)) F) (0, 0, false) Q := by
    intro g hg
    refine rt_X10_goesOn_88 ?_
    simp (disch := omega) only [wp_c, wp_n, jj_n, Int.reduceToNat, Int.toNat_natCast, stE, wlE, lgt, lpu, lpw, v_c2, va_s, true_and, and_true, Option.toList, List.nil_append, List.cons_append, List.take, List.drop, List.reverse, List.reverseAux, List.length_cons, List.length_nil, reduceCtorEq, false_implies, true_implies, forall_const, not_true_eq_false, not_false_eq_true, ite_true, ite_false, Bool.false_eq_true, I_I, J_J, Nat.add_left_cancel_iff, Nat.reduceEqDiff, Nat.add_eq_left, Nat.left_eq_add, false_and, and_false, Nat.reduceSub, Nat.sub_self, Nat.le_refl, Nat.zero_le, ge_iff_le, Nat.reduceAdd, Nat.reduceLeDiff, Nat.zero_add, Nat.reduceLT, z_lt, z_le, z_eq, z_l0, z_g0, z_le0, z_ge0, z_e0, z_e1, z_vp, z_nc, z_rem, z_div, i_ltT, i_ltF, i_leT, i_leF, i_eqT, i_eqF, n_ltT, n_ltF, n_leT, n_leF, n_eqT, n_eqF, tn_9, tn_12, tn_14, tn_20, tn_28, tn_44, tn_52, tn_68, tn_84, tn_100, tn_116, tn_132, fu_e, up_eq, ob_0, ob_b, oi_add, oi_sub, oi_mul, oi_neg, rs_sh, rs_R, rs_N, rs_J, rs_F, rs_A, rs_o, rs_wA, rs_wF, rs_w, Int.add_zero, Int.zero_add, or_true, true_or, or_false, false_or, and_self, z_i2l, z_l2i, lo_nat, lo_add, lo_sub, lo_mul, lo_0, e_rem, mr_X10_goesOn, mh_X10_goesOn, sh, rf]
    refine c_logs hR0 ?_ (fun j hj => ?_) ?_ ?_ ?_
    · rw [hz _ _ _ (by omega) (by omega) (by omega) (by omega)]; omega
    · rw [hz _ _ _ (by omega) (by omega) (by omega) (by omega)]; exact hI.2.2.1 j hj
    · rw [hz _ _ _ (by omega) (by omega) (by omega) (by omega)]; exact h18
    · rw [hz _ _ _ (by omega) (by omega) (by omega) (by omega)]; omega
    · simp (disch := omega) only [wp_c, wp_n, jj_n, Int.reduceToNat, Int.toNat_natCast, stE, wlE, lgt, lpu, lpw, v_c2, va_s, true_and, and_true, Option.toList, List.nil_append, List.cons_append, List.take, List.drop, List.reverse, List.reverseAux, List.length_cons, List.length_nil, reduceCtorEq, false_implies, true_implies, forall_const, not_true_eq_false, not_false_eq_true, ite_true, ite_false, Bool.false_eq_true, I_I, J_J, Nat.add_left_cancel_iff, Nat.reduceEqDiff, Nat.add_eq_left, Nat.left_eq_add, false_and, and_false, Nat.reduceSub, Nat.sub_self, Nat.le_refl, Nat.zero_le, ge_iff_le, Nat.reduceAdd, Nat.reduceLeDiff, Nat.zero_add, Nat.reduceLT, z_lt, z_le, z_eq, z_l0, z_g0, z_le0, z_ge0, z_e0, z_e1, z_vp, z_nc, z_rem, z_div, i_ltT, i_ltF, i_leT, i_leF, i_eqT, i_eqF, n_ltT, n_ltF, n_leT, n_leF, n_eqT, n_eqF, tn_9, tn_12, tn_14, tn_20, tn_28, tn_44, tn_52, tn_68, tn_84, tn_100, tn_116, tn_132, fu_e, up_eq, ob_0, ob_b, oi_add, oi_sub, oi_mul, oi_neg, rs_sh, rs_R, rs_N, rs_J, rs_F, rs_A, rs_o, rs_wA, rs_wF, rs_w, Int.add_zero, Int.zero_add, or_true, true_or, or_false, false_or, and_self, z_i2l, z_l2i, lo_nat, lo_add, lo_sub, lo_mul, lo_0, e_rem, mr_X10_goesOn, mh_X10_goesOn, sh, rf]
      subst hg
      have e12 : up O 5 0 12 = O 12 := by rw [up_eq, if_neg (by omega)]
      have e13 : up (up O 5 0) 12 (O 12 + 1) 13 = O 13 := by rw [up_eq, if_neg (by omega), up_eq, if_neg (by omega)]
      have e7 : up (up O 5 0) 12 (O 12 + 1) 7 = A 7 := by rw [up_eq, if_neg (by omega), up_eq, if_neg (by omega), o7]
      rw [e12, e13, e7] at hq
      exact hq
  simp (disch := omega) only [wp_c, wp_n, jj_n, Int.reduceToNat, Int.toNat_natCast, stE, wlE, lgt, lpu, lpw, v_c2, va_s, true_and, and_true, Option.toList, List.nil_append, List.cons_append, List.take, List.drop, List.reverse, List.reverseAux, List.length_cons, List.length_nil, reduceCtorEq, false_implies, true_implies, forall_const, not_true_eq_false, not_false_eq_true, ite_true, ite_false, Bool.false_eq_true, I_I, J_J, Nat.add_left_cancel_iff, Nat.reduceEqDiff, Nat.add_eq_left, Nat.left_eq_add, false_and, and_false, Nat.reduceSub, Nat.sub_self, Nat.le_refl, Nat.zero_le, ge_iff_le, Nat.reduceAdd, Nat.reduceLeDiff, Nat.zero_add, Nat.reduceLT, z_lt, z_le, z_eq, z_l0, z_g0, z_le0, z_ge0, z_e0, z_e1, z_vp, z_nc, z_rem, z_div, i_ltT, i_ltF, i_leT, i_leF, i_eqT, i_eqF, n_ltT, n_ltF, n_leT, n_leF, n_eqT, n_eqF, tn_9, tn_12, tn_14, tn_20, tn_28, tn_44, tn_52, tn_68, tn_84, tn_100, tn_116, tn_132, fu_e, up_eq, ob_0, ob_b, oi_add, oi_sub, oi_mul, oi_neg, rs_sh, rs_R, rs_N, rs_J, rs_F, rs_A, rs_o, rs_wA, rs_wF, rs_w, Int.add_zero, Int.zero_add, or_true, true_or, or_false, false_or, and_self, z_i2l, z_l2i, lo_nat, lo_add, lo_sub, lo_mul, lo_0, e_rem, mr_X10_goesOn, mh_X10_goesOn, sh, rf, o7]
  repeat' (first | (with_reducible refine And.intro ?_ ?_) | (with_reducible intro _) | ((first | refine rt_X10_goesOn_15 ?_ | refine rt_X10_goesOn_30 ?_ | refine rt_X10_goesOn_31 ?_ | refine rt_X10_goesOn_39 ?_ | refine rt_X10_goesOn_87 ?_); simp (disch := omega) only [wp_c, wp_n, jj_n, Int.reduceToNat, Int.toNat_natCast, stE, wlE, lgt, lpu, lpw, v_c2, va_s, true_and, and_true, Option.toList, List.nil_append, List.cons_append, List.take, List.drop, List.reverse, List.reverseAux, List.length_cons, List.length_nil, reduceCtorEq, false_implies, true_implies, forall_const, not_true_eq_false, not_false_eq_true, ite_true, ite_false, Bool.false_eq_true, I_I, J_J, Nat.add_left_cancel_iff, Nat.reduceEqDiff, Nat.add_eq_left, Nat.left_eq_add, false_and, and_false, Nat.reduceSub, Nat.sub_self, Nat.le_refl, Nat.zero_le, ge_iff_le, Nat.reduceAdd, Nat.reduceLeDiff, Nat.zero_add, Nat.reduceLT, z_lt, z_le, z_eq, z_l0, z_g0, z_le0, z_ge0, z_e0, z_e1, z_vp, z_nc, z_rem, z_div, i_ltT, i_ltF, i_leT, i_leF, i_eqT, i_eqF, n_ltT, n_ltF, n_leT, n_leF, n_eqT, n_eqF, tn_9, tn_12, tn_14, tn_20, tn_28, tn_44, tn_52, tn_68, tn_84, tn_100, tn_116, tn_132, fu_e, up_eq, ob_0, ob_b, oi_add, oi_sub, oi_mul, oi_neg, rs_sh, rs_R, rs_N, rs_J, rs_F, rs_A, rs_o, rs_wA, rs_wF, rs_w, Int.add_zero, Int.zero_add, or_true, true_or, or_false, false_or, and_self, z_i2l, z_l2i, lo_nat, lo_add, lo_sub, lo_mul, lo_0, e_rem, mr_X10_goesOn, mh_X10_goesOn, sh, rf, o7]))
  · exact h88 _ (by rw [if_neg (by omega)])
  · exact h88 _ (by rw [if_pos (by omega)])
def RGQ (r : Nat) (w : mW) (F : Nat → Int32) (Q : mW → mO → Prop) (z : Row × Option (Nat × Nat) × Int32) : Prop := ∀ F', FE F F' → F' 5 = z.2.2 → Q (rs r w (a_fin z) F') (.inl (some (.int (Int32.ofInt (match z.2.1 with | none => 1 | some _ => 0)))))
theorem c_goesOn {r part pl : Nat} {u v : Int} {w : mW} {A : Row} {F : Nat → Int32} {Q : mW → mO → Prop} (hR : Rb w r) (hu : u = (part : Int) + 1) (hv : v = (pl : Int)) (hp : (part = 0 ∧ (pl : Int) ≤ A 0) ∨ (part = 1 ∧ (pl : Int) ≤ A 1)) (hI : TI A) (h8 : A 8 = 0 ∨ A 8 = 1) (h18 : 0 ≤ A 18 ∧ A 18 ≤ 30) (h9 : A 9 = 0) (hd : ∀ j, j < 16 → 0 ≤ A (116 + j) ∧ A (116 + j) ≤ 9) (hl : 0 ≤ F 5)
  (hq : RGQ r w F Q (a_go A part pl (F 4) (F 5))) : CT n_X10_goesOn [.ref r, .int (Int32.ofInt u), .int (Int32.ofInt v)] (rs r w A F) Q := by
  subst hu; subst hv
  have hR0 := hR
  have h0 := hI.1
  obtain ⟨sh, rf⟩ := hR
  -- the levers, and the end
  have hlev : ∀ (B : Row) (wh : Nat) (y : Value), (∀ j, kp j → B j = A j) → B 9 = 0 → TI B → (wh : Int) ≤ A 1 → RGQ r w F Q (match a_lev ((A 1).toNat - wh) B wh (F 4) (F 5) with | (B', none, l') => (a_endC B', none, l') | (B', some k, l') => (B', some (1, k), l')) →
      RT n_X10_goesOn 31 [.ref r, .int (Int32.ofInt ((part : Int) + 1)), y] [.int (Int32.ofInt (wh : Int)), .ref r] (rs r w B F) (0, 0, false) Q := by
    intro B wh y hk b9 hB hwh hqB
    have e1 : B 1 = A 1 := hk 1 (by unfold kp; omega)
    refine rt_X10_goesOn_31 ?_
    simp (disch := omega) only [wp_c, wp_n, jj_n, Int.reduceToNat, Int.toNat_natCast, stE, wlE, lgt, lpu, lpw, v_c2, va_s, true_and, and_true, Option.toList, List.nil_append, List.cons_append, List.take, List.drop, List.reverse, List.reverseAux, List.length_cons, List.length_nil, reduceCtorEq, false_implies, true_implies, forall_const, not_true_eq_false, not_false_eq_true, ite_true, ite_false, Bool.false_eq_true, I_I, J_J, Nat.add_left_cancel_iff, Nat.reduceEqDiff, Nat.add_eq_left, Nat.left_eq_add, false_and, and_false, Nat.reduceSub, Nat.sub_self, Nat.le_refl, Nat.zero_le, ge_iff_le, Nat.reduceAdd, Nat.reduceLeDiff, Nat.zero_add, Nat.reduceLT, z_lt, z_le, z_eq, z_l0, z_g0, z_le0, z_ge0, z_e0, z_e1, z_vp, z_nc, z_rem, z_div, i_ltT, i_ltF, i_leT, i_leF, i_eqT, i_eqF, n_ltT, n_ltF, n_leT, n_leF, n_eqT, n_eqF, tn_9, tn_12, tn_14, tn_20, tn_28, tn_44, tn_52, tn_68, tn_84, tn_100, tn_116, tn_132, fu_e, up_eq, ob_0, ob_b, oi_add, oi_sub, oi_mul, oi_neg, rs_sh, rs_R, rs_N, rs_J, rs_F, rs_A, rs_o, rs_wA, rs_wF, rs_w, Int.add_zero, Int.zero_add, or_true, true_or, or_false, false_or, and_self, z_i2l, z_l2i, lo_nat, lo_add, lo_sub, lo_mul, lo_0, e_rem, mr_X10_goesOn, mh_X10_goesOn, sh, rf]
    refine c_leversMove (n := (A 1).toNat - wh) hR0 rfl (by omega) hB hl ?_
    have hlk := lev_k ((A 1).toNat - wh) B wh (F 4) (F 5)
    have hlT := lev_TI ((A 1).toNat - wh) B wh (F 4) (F 5) (by omega) hB
    have hl9 := lev_9 ((A 1).toNat - wh) B wh (F 4) (F 5) (by omega) (by omega)
    have hall : ∀ j, kp j → (a_lev ((A 1).toNat - wh) B wh (F 4) (F 5)).1 j = A j := fun j hj => by rw [hlk _ (by omega) (by omega) hj, hk j hj]
    clear hlk
    intro F' hF hF5
    generalize a_lev ((A 1).toNat - wh) B wh (F 4) (F 5) = z at hqB hlT hl9 hall hF5 ⊢
    obtain ⟨B', ok, l'⟩ := z
    cases ok with
    | none =>
      simp only at hqB hlT hl9 hall hF5 ⊢
      have k18 := hall 18 (by unfold kp; omega)
      have k8 := hall 8 (by unfold kp; omega)
      have he := end_eq hlT (by omega) (by omega)
      have hq2 := hqB F' hF hF5
      simp (disch := omega) only [wp_c, wp_n, jj_n, Int.reduceToNat, Int.toNat_natCast, stE, wlE, lgt, lpu, lpw, v_c2, va_s, true_and, and_true, Option.toList, List.nil_append, List.cons_append, List.take, List.drop, List.reverse, List.reverseAux, List.length_cons, List.length_nil, reduceCtorEq, false_implies, true_implies, forall_const, not_true_eq_false, not_false_eq_true, ite_true, ite_false, Bool.false_eq_true, I_I, J_J, Nat.add_left_cancel_iff, Nat.reduceEqDiff, Nat.add_eq_left, Nat.left_eq_add, false_and, and_false, Nat.reduceSub, Nat.sub_self, Nat.le_refl, Nat.zero_le, ge_iff_le, Nat.reduceAdd, Nat.reduceLeDiff, Nat.zero_add, Nat.reduceLT, z_lt, z_le, z_eq, z_l0, z_g0, z_le0, z_ge0, z_e0, z_e1, z_vp, z_nc, z_rem, z_div, i_ltT, i_ltF, i_leT, i_leF, i_eqT, i_eqF, n_ltT, n_ltF, n_leT, n_leF, n_eqT, n_eqF, tn_9, tn_12, tn_14, tn_20, tn_28, tn_44, tn_52, tn_68, tn_84, tn_100, tn_116, tn_132, fu_e, up_eq, ob_0, ob_b, oi_add, oi_sub, oi_mul, oi_neg, rs_sh, rs_R, rs_N, rs_J, rs_F, rs_A, rs_o, rs_wA, rs_wF, rs_w, Int.add_zero, Int.zero_add, or_true, true_or, or_false, false_or, and_self, z_i2l, z_l2i, lo_nat, lo_add, lo_sub, lo_mul, lo_0, e_rem, mr_X10_goesOn, mh_X10_goesOn, sh, rf]
      refine c_goesOn_39 hR0 hlT (by omega) (by omega) (by omega) (fun j hj => by rw [hall _ (by unfold kp; omega)]; exact hd j hj) ?_
      rw [he]
      exact hq2
    | some k =>
      simp only at hqB hF5 ⊢
      have hq2 := hqB F' hF hF5
      simp (disch := omega) only [wp_c, wp_n, jj_n, Int.reduceToNat, Int.toNat_natCast, stE, wlE, lgt, lpu, lpw, v_c2, va_s, true_and, and_true, Option.toList, List.nil_append, List.cons_append, List.take, List.drop, List.reverse, List.reverseAux, List.length_cons, List.length_nil, reduceCtorEq, false_implies, true_implies, forall_const, not_true_eq_false, not_false_eq_true, ite_true, ite_false, Bool.false_eq_true, I_I, J_J, Nat.add_left_cancel_iff, Nat.reduceEqDiff, Nat.add_eq_left, Nat.left_eq_add, false_and, and_false, Nat.reduceSub, Nat.sub_self, Nat.le_refl, Nat.zero_le, ge_iff_le, Nat.reduceAdd, Nat.reduceLeDiff, Nat.zero_add, Nat.reduceLT, z_lt, z_le, z_eq, z_l0, z_g0, z_le0, z_ge0, z_e0, z_e1, z_vp, z_nc, z_rem, z_div, i_ltT, i_ltF, i_leT, i_leF, i_eqT, i_eqF, n_ltT, n_ltF, n_leT, n_leF, n_eqT, n_eqF, tn_9, tn_12, tn_14, tn_20, tn_28, tn_44, tn_52, tn_68, tn_84, tn_100, tn_116, tn_132, fu_e, up_eq, ob_0, ob_b, oi_add, oi_sub, oi_mul, oi_neg, rs_sh, rs_R, rs_N, rs_J, rs_F, rs_A, rs_o, rs_wA, rs_wF, rs_w, Int.add_zero, Int.zero_add, or_true, true_or, or_false, false_or, and_self, z_i2l, z_l2i, lo_nat, lo_add, lo_sub, lo_mul, lo_0, e_rem, mr_X10_goesOn, mh_X10_goesOn, sh, rf]
      exact hq2
  refine ct_X10_goesOn (rt_X10_goesOn_0 ?_)
  rcases hp with ⟨rfl, hp⟩ | ⟨rfl, hp⟩
  · simp (disch := omega) only [wp_c, wp_n, jj_n, Int.reduceToNat, Int.toNat_natCast, stE, wlE, lgt, lpu, lpw, v_c2, va_s, true_and, and_true, Option.toList, List.nil_append, List.cons_append, List.take, List.drop, List.reverse, List.reverseAux, List.length_cons, List.length_nil, reduceCtorEq, false_implies, true_implies, forall_const, not_true_eq_false, not_false_eq_true, ite_true, ite_false, Bool.false_eq_true, I_I, J_J, Nat.add_left_cancel_iff, Nat.reduceEqDiff, Nat.add_eq_left, Nat.left_eq_add, false_and, and_false, Nat.reduceSub, Nat.sub_self, Nat.le_refl, Nat.zero_le, ge_iff_le, Nat.reduceAdd, Nat.reduceLeDiff, Nat.zero_add, Nat.reduceLT, z_lt, z_le, z_eq, z_l0, z_g0, z_le0, z_ge0, z_e0, z_e1, z_vp, z_nc, z_rem, z_div, i_ltT, i_ltF, i_leT, i_leF, i_eqT, i_eqF, n_ltT, n_ltF, n_leT, n_leF, n_eqT, n_eqF, tn_9, tn_12, tn_14, tn_20, tn_28, tn_44, tn_52, tn_68, tn_84, tn_100, tn_116, tn_132, fu_e, up_eq, ob_0, ob_b, oi_add, oi_sub, oi_mul, oi_neg, rs_sh, rs_R, rs_N, rs_J, rs_F, rs_A, rs_o, rs_wA, rs_wF, rs_w, Int.add_zero, Int.zero_add, or_true, true_or, or_false, false_or, and_self, z_i2l, z_l2i, lo_nat, lo_add, lo_sub, lo_mul, lo_0, e_rem, mr_X10_goesOn, mh_X10_goesOn, sh, rf]
    simp only [a_go, if_pos] at hq
    refine c_pinsMove (n := (A 0).toNat - pl) hR0 rfl (by omega) hI ?_
    have hpk := fun j hj => pins_k ((A 0).toNat - pl) A pl j (by omega) hI hj
    have hp9 := pins_9 ((A 0).toNat - pl) A pl
    unfold RPQ
    generalize a_pins ((A 0).toNat - pl) A pl = z at hq hpk hp9 ⊢
    obtain ⟨B, ok⟩ := z
    cases ok with
    | none =>
      simp only at hq hpk hp9 ⊢
      simp (disch := omega) only [wp_c, wp_n, jj_n, Int.reduceToNat, Int.toNat_natCast, stE, wlE, lgt, lpu, lpw, v_c2, va_s, true_and, and_true, Option.toList, List.nil_append, List.cons_append, List.take, List.drop, List.reverse, List.reverseAux, List.length_cons, List.length_nil, reduceCtorEq, false_implies, true_implies, forall_const, not_true_eq_false, not_false_eq_true, ite_true, ite_false, Bool.false_eq_true, I_I, J_J, Nat.add_left_cancel_iff, Nat.reduceEqDiff, Nat.add_eq_left, Nat.left_eq_add, false_and, and_false, Nat.reduceSub, Nat.sub_self, Nat.le_refl, Nat.zero_le, ge_iff_le, Nat.reduceAdd, Nat.reduceLeDiff, Nat.zero_add, Nat.reduceLT, z_lt, z_le, z_eq, z_l0, z_g0, z_le0, z_ge0, z_e0, z_e1, z_vp, z_nc, z_rem, z_div, i_ltT, i_ltF, i_leT, i_leF, i_eqT, i_eqF, n_ltT, n_ltF, n_leT, n_leF, n_eqT, n_eqF, tn_9, tn_12, tn_14, tn_20, tn_28, tn_44, tn_52, tn_68, tn_84, tn_100, tn_116, tn_132, fu_e, up_eq, ob_0, ob_b, oi_add, oi_sub, oi_mul, oi_neg, rs_sh, rs_R, rs_N, rs_J, rs_F, rs_A, rs_o, rs_wA, rs_wF, rs_w, Int.add_zero, Int.zero_add, or_true, true_or, or_false, false_or, and_self, z_i2l, z_l2i, lo_nat, lo_add, lo_sub, lo_mul, lo_0, e_rem, mr_X10_goesOn, mh_X10_goesOn, sh, rf]
      refine rt_X10_goesOn_15 ?_
      have e4 : B 4 = (((A 4).toNat : Nat) : Int) := by have := (hpk 4 (by unfold kp; omega)).1; omega
      simp (disch := omega) only [wp_c, wp_n, jj_n, Int.reduceToNat, Int.toNat_natCast, stE, wlE, lgt, lpu, lpw, v_c2, va_s, true_and, and_true, Option.toList, List.nil_append, List.cons_append, List.take, List.drop, List.reverse, List.reverseAux, List.length_cons, List.length_nil, reduceCtorEq, false_implies, true_implies, forall_const, not_true_eq_false, not_false_eq_true, ite_true, ite_false, Bool.false_eq_true, I_I, J_J, Nat.add_left_cancel_iff, Nat.reduceEqDiff, Nat.add_eq_left, Nat.left_eq_add, false_and, and_false, Nat.reduceSub, Nat.sub_self, Nat.le_refl, Nat.zero_le, ge_iff_le, Nat.reduceAdd, Nat.reduceLeDiff, Nat.zero_add, Nat.reduceLT, z_lt, z_le, z_eq, z_l0, z_g0, z_le0, z_ge0, z_e0, z_e1, z_vp, z_nc, z_rem, z_div, i_ltT, i_ltF, i_leT, i_leF, i_eqT, i_eqF, n_ltT, n_ltF, n_leT, n_leF, n_eqT, n_eqF, tn_9, tn_12, tn_14, tn_20, tn_28, tn_44, tn_52, tn_68, tn_84, tn_100, tn_116, tn_132, fu_e, up_eq, ob_0, ob_b, oi_add, oi_sub, oi_mul, oi_neg, rs_sh, rs_R, rs_N, rs_J, rs_F, rs_A, rs_o, rs_wA, rs_wF, rs_w, Int.add_zero, Int.zero_add, or_true, true_or, or_false, false_or, and_self, z_i2l, z_l2i, lo_nat, lo_add, lo_sub, lo_mul, lo_0, e_rem, mr_X10_goesOn, mh_X10_goesOn, sh, rf, e4]
      exact hlev B (A 4).toNat _ (fun j hj => (hpk j hj).1) (by omega) (hpk 0 (by unfold kp; omega)).2 (by omega) hq
    | some k =>
      simp only at hq ⊢
      simp (disch := omega) only [wp_c, wp_n, jj_n, Int.reduceToNat, Int.toNat_natCast, stE, wlE, lgt, lpu, lpw, v_c2, va_s, true_and, and_true, Option.toList, List.nil_append, List.cons_append, List.take, List.drop, List.reverse, List.reverseAux, List.length_cons, List.length_nil, reduceCtorEq, false_implies, true_implies, forall_const, not_true_eq_false, not_false_eq_true, ite_true, ite_false, Bool.false_eq_true, I_I, J_J, Nat.add_left_cancel_iff, Nat.reduceEqDiff, Nat.add_eq_left, Nat.left_eq_add, false_and, and_false, Nat.reduceSub, Nat.sub_self, Nat.le_refl, Nat.zero_le, ge_iff_le, Nat.reduceAdd, Nat.reduceLeDiff, Nat.zero_add, Nat.reduceLT, z_lt, z_le, z_eq, z_l0, z_g0, z_le0, z_ge0, z_e0, z_e1, z_vp, z_nc, z_rem, z_div, i_ltT, i_ltF, i_leT, i_leF, i_eqT, i_eqF, n_ltT, n_ltF, n_leT, n_leF, n_eqT, n_eqF, tn_9, tn_12, tn_14, tn_20, tn_28, tn_44, tn_52, tn_68, tn_84, tn_100, tn_116, tn_132, fu_e, up_eq, ob_0, ob_b, oi_add, oi_sub, oi_mul, oi_neg, rs_sh, rs_R, rs_N, rs_J, rs_F, rs_A, rs_o, rs_wA, rs_wF, rs_w, Int.add_zero, Int.zero_add, or_true, true_or, or_false, false_or, and_self, z_i2l, z_l2i, lo_nat, lo_add, lo_sub, lo_mul, lo_0, e_rem, mr_X10_goesOn, mh_X10_goesOn, sh, rf]
      exact hq F (fun _ _ _ => rfl) rfl
  · simp (disch := omega) only [wp_c, wp_n, jj_n, Int.reduceToNat, Int.toNat_natCast, stE, wlE, lgt, lpu, lpw, v_c2, va_s, true_and, and_true, Option.toList, List.nil_append, List.cons_append, List.take, List.drop, List.reverse, List.reverseAux, List.length_cons, List.length_nil, reduceCtorEq, false_implies, true_implies, forall_const, not_true_eq_false, not_false_eq_true, ite_true, ite_false, Bool.false_eq_true, I_I, J_J, Nat.add_left_cancel_iff, Nat.reduceEqDiff, Nat.add_eq_left, Nat.left_eq_add, false_and, and_false, Nat.reduceSub, Nat.sub_self, Nat.le_refl, Nat.zero_le, ge_iff_le, Nat.reduceAdd, Nat.reduceLeDiff, Nat.zero_add, Nat.reduceLT, z_lt, z_le, z_eq, z_l0, z_g0, z_le0, z_ge0, z_e0, z_e1, z_vp, z_nc, z_rem, z_div, i_ltT, i_ltF, i_leT, i_leF, i_eqT, i_eqF, n_ltT, n_ltF, n_leT, n_leF, n_eqT, n_eqF, tn_9, tn_12, tn_14, tn_20, tn_28, tn_44, tn_52, tn_68, tn_84, tn_100, tn_116, tn_132, fu_e, up_eq, ob_0, ob_b, oi_add, oi_sub, oi_mul, oi_neg, rs_sh, rs_R, rs_N, rs_J, rs_F, rs_A, rs_o, rs_wA, rs_wF, rs_w, Int.add_zero, Int.zero_add, or_true, true_or, or_false, false_or, and_self, z_i2l, z_l2i, lo_nat, lo_add, lo_sub, lo_mul, lo_0, e_rem, mr_X10_goesOn, mh_X10_goesOn, sh, rf]
    refine rt_X10_goesOn_15 ?_
    simp (disch := omega) only [wp_c, wp_n, jj_n, Int.reduceToNat, Int.toNat_natCast, stE, wlE, lgt, lpu, lpw, v_c2, va_s, true_and, and_true, Option.toList, List.nil_append, List.cons_append, List.take, List.drop, List.reverse, List.reverseAux, List.length_cons, List.length_nil, reduceCtorEq, false_implies, true_implies, forall_const, not_true_eq_false, not_false_eq_true, ite_true, ite_false, Bool.false_eq_true, I_I, J_J, Nat.add_left_cancel_iff, Nat.reduceEqDiff, Nat.add_eq_left, Nat.left_eq_add, false_and, and_false, Nat.reduceSub, Nat.sub_self, Nat.le_refl, Nat.zero_le, ge_iff_le, Nat.reduceAdd, Nat.reduceLeDiff, Nat.zero_add, Nat.reduceLT, z_lt, z_le, z_eq, z_l0, z_g0, z_le0, z_ge0, z_e0, z_e1, z_vp, z_nc, z_rem, z_div, i_ltT, i_ltF, i_leT, i_leF, i_eqT, i_eqF, n_ltT, n_ltF, n_leT, n_leF, n_eqT, n_eqF, tn_9, tn_12, tn_14, tn_20, tn_28, tn_44, tn_52, tn_68, tn_84, tn_100, tn_116, tn_132, fu_e, up_eq, ob_0, ob_b, oi_add, oi_sub, oi_mul, oi_neg, rs_sh, rs_R, rs_N, rs_J, rs_F, rs_A, rs_o, rs_wA, rs_wF, rs_w, Int.add_zero, Int.zero_add, or_true, true_or, or_false, false_or, and_self, z_i2l, z_l2i, lo_nat, lo_add, lo_sub, lo_mul, lo_0, e_rem, mr_X10_goesOn, mh_X10_goesOn, sh, rf]
    refine rt_X10_goesOn_30 ?_
    simp (disch := omega) only [wp_c, wp_n, jj_n, Int.reduceToNat, Int.toNat_natCast, stE, wlE, lgt, lpu, lpw, v_c2, va_s, true_and, and_true, Option.toList, List.nil_append, List.cons_append, List.take, List.drop, List.reverse, List.reverseAux, List.length_cons, List.length_nil, reduceCtorEq, false_implies, true_implies, forall_const, not_true_eq_false, not_false_eq_true, ite_true, ite_false, Bool.false_eq_true, I_I, J_J, Nat.add_left_cancel_iff, Nat.reduceEqDiff, Nat.add_eq_left, Nat.left_eq_add, false_and, and_false, Nat.reduceSub, Nat.sub_self, Nat.le_refl, Nat.zero_le, ge_iff_le, Nat.reduceAdd, Nat.reduceLeDiff, Nat.zero_add, Nat.reduceLT, z_lt, z_le, z_eq, z_l0, z_g0, z_le0, z_ge0, z_e0, z_e1, z_vp, z_nc, z_rem, z_div, i_ltT, i_ltF, i_leT, i_leF, i_eqT, i_eqF, n_ltT, n_ltF, n_leT, n_leF, n_eqT, n_eqF, tn_9, tn_12, tn_14, tn_20, tn_28, tn_44, tn_52, tn_68, tn_84, tn_100, tn_116, tn_132, fu_e, up_eq, ob_0, ob_b, oi_add, oi_sub, oi_mul, oi_neg, rs_sh, rs_R, rs_N, rs_J, rs_F, rs_A, rs_o, rs_wA, rs_wF, rs_w, Int.add_zero, Int.zero_add, or_true, true_or, or_false, false_or, and_self, z_i2l, z_l2i, lo_nat, lo_add, lo_sub, lo_mul, lo_0, e_rem, mr_X10_goesOn, mh_X10_goesOn, sh, rf]
    have hne : ¬ (1 : Nat) = 0 := by omega
    simp only [a_go, if_neg hne] at hq
    exact hlev A pl _ (fun _ _ => rfl) h9 hI hp hq
theorem zr_up2 (A : Row) (k : Nat) (hk : k < 16) : up (up (zr A k) (84 + k) 0) (52 + k) 0 = zr A (k + 1) := by
  rw [← zr_up A k hk]
  funext j; simp only [up_eq]
  by_cases h1 : j = 52 + k
  · subst h1; rw [if_pos rfl, if_neg (by omega), if_pos rfl]
  · rw [if_neg h1, if_neg h1]
theorem beg_r (A : Row) (way : Int) : zr (up (up (up (up A 7 way) 9 0) 10 0) 11 0) 16 = a_beg A way := by
  funext j
  simp only [a_beg, up_eq, zr]
  by_cases h7 : j = 7
  · subst h7; rw [if_neg (by omega)]; rfl
  · rw [if_neg h7, if_neg h7]
theorem log_18 (A : Row) (x y z r : Int) : a_log A x y z r 18 = if A 18 = 30 then 30 else A 18 + 1 := by
  simp only [a_log]
  by_cases h : A 18 = 30
  · rw [if_pos h, if_pos h, up_eq, if_pos rfl, up_eq, if_pos rfl]; rfl
  · rw [if_neg h, if_neg h, up_eq, if_pos rfl]
theorem endC_18 {A : Row} (h0 : 0 ≤ A 4) : a_endC A 18 = if A 18 = 30 then 30 else A 18 + 1 := by
  have hB18 : a_cnt (A 2 - A 4).toNat A (A 4).toNat (if 0 < A 8 then -A 7 else A 7) 18 = A 18 := cnt_s _ _ _ _ _ (by omega)
  simp only [a_endC]
  rw [log_18]
  generalize a_cnt (A 2 - A 4).toNat A (A 4).toNat (if 0 < A 8 then -A 7 else A 7) = B at hB18
  have e : (if A 7 = -1 then up (up B 12 (B 12 + 1)) 13 (up B 12 (B 12 + 1) 13 + 1) else up B 12 (B 12 + 1)) 18 = A 18 := by
    split
    · rw [up_eq, if_neg (by omega), up_eq, if_neg (by omega), hB18]
    · rw [up_eq, if_neg (by omega), hB18]
  rw [e]
theorem go_18 {A : Row} {part pl : Nat} {c l : Int32} (hI : TI A) (hp : (part = 0 ∧ (pl : Int) ≤ A 0) ∨ (part = 1 ∧ (pl : Int) ≤ A 1)) (h18 : 0 ≤ A 18 ∧ A 18 ≤ 30) : 0 ≤ a_fin (a_go A part pl c l) 18 ∧ a_fin (a_go A part pl c l) 18 ≤ 30 := by
  have h0 := hI.1
  have key : ∀ (B : Row) (wh : Nat) (r : Row × Option (Nat × Nat) × Int32), B 1 = A 1 → B 18 = A 18 → TI B → (wh : Int) ≤ A 1 → (r = match a_lev ((A 1).toNat - wh) B wh c l with | (B', none, l') => (a_endC B', none, l') | (B', some k, l') => (B', some (1, k), l')) →
      0 ≤ a_fin r 18 ∧ a_fin r 18 ≤ 30 := by
    intro B wh r e1 e18 hB hw hr
    have h2 := lev_k ((A 1).toNat - wh) B wh c l 18 (by omega) (by omega) (by unfold kp; omega)
    have h3 := lev_TI ((A 1).toNat - wh) B wh c l (by omega) hB
    generalize a_lev ((A 1).toNat - wh) B wh c l = z at hr h2 h3
    obtain ⟨B', ok, l'⟩ := z
    cases ok with
    | none =>
      subst hr
      simp only [a_fin] at h2 h3 ⊢
      have h30 := h3.1
      rw [up_eq, if_neg (by omega), owe_s _ _ _ _ _ (by omega), endC_18 (by omega)]
      split <;> omega
    | some k =>
      subst hr
      simp only [a_fin] at h2 ⊢
      rw [up_eq, if_neg (by omega), up_eq, if_neg (by omega)]
      omega
  by_cases hp0 : part = 0
  · simp only [a_go, if_pos hp0]
    have hpk := fun j hj => pins_k ((A 0).toNat - pl) A pl j (by omega) hI hj
    generalize a_pins ((A 0).toNat - pl) A pl = z at hpk
    obtain ⟨B, ok⟩ := z
    cases ok with
    | none => exact key B _ _ (hpk 1 (by unfold kp; omega)).1 (hpk 18 (by unfold kp; omega)).1 (hpk 0 (by unfold kp; omega)).2 (by omega) rfl
    | some k =>
      have := (hpk 18 (by unfold kp; omega)).1
      simp only [a_fin] at this ⊢
      rw [up_eq, if_neg (by omega), up_eq, if_neg (by omega)]; omega
  · simp only [a_go, if_neg hp0]
    exact key A _ _ rfl rfl hI (by omega) rfl
/-- what every row keeps, with its log's size -/
def RI (A : Row) : Prop := TJ A ∧ (A 8 = 0 ∨ A 8 = 1) ∧ 0 ≤ A 18 ∧ A 18 ≤ 30
theorem one_RI {A : Row} {way : Int} (h : RI A) (hw : way = 1 ∨ way = -1) : RI (a_fin (a_one A way)) := by
  obtain ⟨hJ, h8, h18⟩ := h
  obtain ⟨j1, j2, j3⟩ := one_TJ hJ hw h18.1
  have hI := beg_TI (way := way) hJ.1 hw
  have h0 := hI.1
  refine ⟨j1, by rw [j2]; exact h8, ?_⟩
  exact go_18 hI (Or.inl ⟨rfl, by omega⟩) (by rw [beg_k _ _ _ (by omega)]; exact h18)
theorem c_tO_33 {r : Nat} {x : Int32} {w : mW} {A : Row} {F : Nat → Int32} {Q : mW → mO → Prop} (hR : Rb w r) (hq : RT n_X10_turnsOnce 65 [.ref r, .int x, .int (Int32.ofInt 16)] [] (rs r w (zr A 16) F) (0, 0, false) Q) : ∀ (n k : Nat), k + n = 16 → RT n_X10_turnsOnce 33 [.ref r, .int x, .int (Int32.ofInt k)] [] (rs r w (zr A k) F) (0, 0, false) Q := by
  obtain ⟨sh, rf⟩ := hR
  intro n
  induction n with
  | zero =>
    intro k hk
    have e : k = 16 := by omega
    subst e
    refine rt_X10_turnsOnce_33 ?_
    simp (disch := omega) only [wp_c, wp_n, jj_n, Int.reduceToNat, Int.toNat_natCast, stE, wlE, lgt, lpu, lpw, v_c2, va_s, true_and, and_true, Option.toList, List.nil_append, List.cons_append, List.take, List.drop, List.reverse, List.reverseAux, List.length_cons, List.length_nil, reduceCtorEq, false_implies, true_implies, forall_const, not_true_eq_false, not_false_eq_true, ite_true, ite_false, Bool.false_eq_true, I_I, J_J, Nat.add_left_cancel_iff, Nat.reduceEqDiff, Nat.add_eq_left, Nat.left_eq_add, false_and, and_false, Nat.reduceSub, Nat.sub_self, Nat.le_refl, Nat.zero_le, ge_iff_le, Nat.reduceAdd, Nat.reduceLeDiff, Nat.zero_add, Nat.reduceLT, z_lt, z_le, z_eq, z_l0, z_g0, z_le0, z_ge0, z_e0, z_e1, z_vp, z_nc, z_rem, z_div, i_ltT, i_ltF, i_leT, i_leF, i_eqT, i_eqF, n_ltT, n_ltF, n_leT, n_leF, n_eqT, n_eqF, tn_9, tn_12, tn_14, tn_20, tn_28, tn_44, tn_52, tn_68, tn_84, tn_100, tn_116, tn_132, fu_e, up_eq, ob_0, ob_b, oi_add, oi_sub, oi_mul, oi_neg, rs_sh, rs_R, rs_N, rs_J, rs_F, rs_A, rs_o, rs_wA, rs_wF, rs_w, Int.add_zero, Int.zero_add, or_true, true_or, or_false, false_or, and_self, z_i2l, z_l2i, lo_nat, lo_add, lo_sub, lo_mul, lo_0, e_rem, mr_X10_turnsOnce, mh_X10_turnsOnce, sh, rf]
    exact hq
  | succ n ih =>
    intro k hk
    refine rt_X10_turnsOnce_33 ?_
    simp (disch := omega) only [wp_c, wp_n, jj_n, Int.reduceToNat, Int.toNat_natCast, stE, wlE, lgt, lpu, lpw, v_c2, va_s, true_and, and_true, Option.toList, List.nil_append, List.cons_append, List.take, List.drop, List.reverse, List.reverseAux, List.length_cons, List.length_nil, reduceCtorEq, false_implies, true_implies, forall_const, not_true_eq_false, not_false_eq_true, ite_true, ite_false, Bool.false_eq_true, I_I, J_J, Nat.add_left_cancel_iff, Nat.reduceEqDiff, Nat.add_eq_left, Nat.left_eq_add, false_and, and_false, Nat.reduceSub, Nat.sub_self, Nat.le_refl, Nat.zero_le, ge_iff_le, Nat.reduceAdd, Nat.reduceLeDiff, Nat.zero_add, Nat.reduceLT, z_lt, z_le, z_eq, z_l0, z_g0, z_le0, z_ge0, z_e0, z_e1, z_vp, z_nc, z_rem, z_div, i_ltT, i_ltF, i_leT, i_leF, i_eqT, i_eqF, n_ltT, n_ltF, n_leT, n_leF, n_eqT, n_eqF, tn_9, tn_12, tn_14, tn_20, tn_28, tn_44, tn_52, tn_68, tn_84, tn_100, tn_116, tn_132, fu_e, up_eq, ob_0, ob_b, oi_add, oi_sub, oi_mul, oi_neg, rs_sh, rs_R, rs_N, rs_J, rs_F, rs_A, rs_o, rs_wA, rs_wF, rs_w, Int.add_zero, Int.zero_add, or_true, true_or, or_false, false_or, and_self, z_i2l, z_l2i, lo_nat, lo_add, lo_sub, lo_mul, lo_0, e_rem, mr_X10_turnsOnce, mh_X10_turnsOnce, sh, rf]
    rw [zr_up2 _ _ (by omega)]
    exact ih (k + 1) (by omega)
theorem c_turnsOnce {r : Nat} {way : Int} {w : mW} {A : Row} {F : Nat → Int32} {Q : mW → mO → Prop} (hR : Rb w r) (hw : way = 1 ∨ way = -1) (hI : RI A) (hq : RGQ r w F Q (a_one A way)) : CT n_X10_turnsOnce [.ref r, .int (Int32.ofInt way)] (rs r w A F) Q := by
  have hR0 := hR
  obtain ⟨sh, rf⟩ := hR
  obtain ⟨hJ, h8, h18⟩ := hI
  have hTI := beg_TI (way := way) hJ.1 hw
  have h0 := hTI.1
  have h65 : RT n_X10_turnsOnce 65 [.ref r, .int (Int32.ofInt way), .int (Int32.ofInt 16)] [] (rs r w (a_beg A way) F) (0, 0, false) Q := by
    refine rt_X10_turnsOnce_65 ?_
    simp (disch := omega) only [wp_c, wp_n, jj_n, Int.reduceToNat, Int.toNat_natCast, stE, wlE, lgt, lpu, lpw, v_c2, va_s, true_and, and_true, Option.toList, List.nil_append, List.cons_append, List.take, List.drop, List.reverse, List.reverseAux, List.length_cons, List.length_nil, reduceCtorEq, false_implies, true_implies, forall_const, not_true_eq_false, not_false_eq_true, ite_true, ite_false, Bool.false_eq_true, I_I, J_J, Nat.add_left_cancel_iff, Nat.reduceEqDiff, Nat.add_eq_left, Nat.left_eq_add, false_and, and_false, Nat.reduceSub, Nat.sub_self, Nat.le_refl, Nat.zero_le, ge_iff_le, Nat.reduceAdd, Nat.reduceLeDiff, Nat.zero_add, Nat.reduceLT, z_lt, z_le, z_eq, z_l0, z_g0, z_le0, z_ge0, z_e0, z_e1, z_vp, z_nc, z_rem, z_div, i_ltT, i_ltF, i_leT, i_leF, i_eqT, i_eqF, n_ltT, n_ltF, n_leT, n_leF, n_eqT, n_eqF, tn_9, tn_12, tn_14, tn_20, tn_28, tn_44, tn_52, tn_68, tn_84, tn_100, tn_116, tn_132, fu_e, up_eq, ob_0, ob_b, oi_add, oi_sub, oi_mul, oi_neg, rs_sh, rs_R, rs_N, rs_J, rs_F, rs_A, rs_o, rs_wA, rs_wF, rs_w, Int.add_zero, Int.zero_add, or_true, true_or, or_false, false_or, and_self, z_i2l, z_l2i, lo_nat, lo_add, lo_sub, lo_mul, lo_0, e_rem, mr_X10_turnsOnce, mh_X10_turnsOnce, sh, rf]
    have e9 : a_beg A way 9 = 0 := by simp [a_beg, up_eq, zr]
    refine c_goesOn (part := 0) (pl := 0) hR0 rfl rfl (Or.inl ⟨rfl, by omega⟩) hTI (by rw [beg_k _ _ _ (by omega)]; exact h8) (by rw [beg_k _ _ _ (by omega)]; exact h18) e9 (fun j hj => by rw [beg_k _ _ _ (by omega)]; exact hJ.2 j hj) (show (0 : Int32) ≤ Int32.ofInt 0 by decide) ?_
    intro F' hF hF5
    simp (disch := omega) only [wp_c, wp_n, jj_n, Int.reduceToNat, Int.toNat_natCast, stE, wlE, lgt, lpu, lpw, v_c2, va_s, true_and, and_true, Option.toList, List.nil_append, List.cons_append, List.take, List.drop, List.reverse, List.reverseAux, List.length_cons, List.length_nil, reduceCtorEq, false_implies, true_implies, forall_const, not_true_eq_false, not_false_eq_true, ite_true, ite_false, Bool.false_eq_true, I_I, J_J, Nat.add_left_cancel_iff, Nat.reduceEqDiff, Nat.add_eq_left, Nat.left_eq_add, false_and, and_false, Nat.reduceSub, Nat.sub_self, Nat.le_refl, Nat.zero_le, ge_iff_le, Nat.reduceAdd, Nat.reduceLeDiff, Nat.zero_add, Nat.reduceLT, z_lt, z_le, z_eq, z_l0, z_g0, z_le0, z_ge0, z_e0, z_e1, z_vp, z_nc, z_rem, z_div, i_ltT, i_ltF, i_leT, i_leF, i_eqT, i_eqF, n_ltT, n_ltF, n_leT, n_leF, n_eqT, n_eqF, tn_9, tn_12, tn_14, tn_20, tn_28, tn_44, tn_52, tn_68, tn_84, tn_100, tn_116, tn_132, fu_e, up_eq, ob_0, ob_b, oi_add, oi_sub, oi_mul, oi_neg, rs_sh, rs_R, rs_N, rs_J, rs_F, rs_A, rs_o, rs_wA, rs_wF, rs_w, Int.add_zero, Int.zero_add, or_true, true_or, or_false, false_or, and_self, z_i2l, z_l2i, lo_nat, lo_add, lo_sub, lo_mul, lo_0, e_rem, mr_X10_turnsOnce, mh_X10_turnsOnce, sh, rf]
    refine ⟨?_, ?_⟩
    · cases (a_go (a_beg A way) 0 0 (Int32.ofInt 0) (Int32.ofInt 0)).2.1 with
      | none => exact Or.inr rfl
      | some y => exact Or.inl rfl
    · refine hq F' (fun i h1 h2 => ?_) hF5
      rw [hF i h1 h2, fu_e, if_neg h2, fu_e, if_neg h1]
  rw [← beg_r] at h65
  have h33 := c_tO_33 hR0 h65 16 0 rfl
  rw [zr_0] at h33
  refine ct_X10_turnsOnce (rt_X10_turnsOnce_0 ?_)
  simp (disch := omega) only [wp_c, wp_n, jj_n, Int.reduceToNat, Int.toNat_natCast, stE, wlE, lgt, lpu, lpw, v_c2, va_s, true_and, and_true, Option.toList, List.nil_append, List.cons_append, List.take, List.drop, List.reverse, List.reverseAux, List.length_cons, List.length_nil, reduceCtorEq, false_implies, true_implies, forall_const, not_true_eq_false, not_false_eq_true, ite_true, ite_false, Bool.false_eq_true, I_I, J_J, Nat.add_left_cancel_iff, Nat.reduceEqDiff, Nat.add_eq_left, Nat.left_eq_add, false_and, and_false, Nat.reduceSub, Nat.sub_self, Nat.le_refl, Nat.zero_le, ge_iff_le, Nat.reduceAdd, Nat.reduceLeDiff, Nat.zero_add, Nat.reduceLT, z_lt, z_le, z_eq, z_l0, z_g0, z_le0, z_ge0, z_e0, z_e1, z_vp, z_nc, z_rem, z_div, i_ltT, i_ltF, i_leT, i_leF, i_eqT, i_eqF, n_ltT, n_ltF, n_leT, n_leF, n_eqT, n_eqF, tn_9, tn_12, tn_14, tn_20, tn_28, tn_44, tn_52, tn_68, tn_84, tn_100, tn_116, tn_132, fu_e, up_eq, ob_0, ob_b, oi_add, oi_sub, oi_mul, oi_neg, rs_sh, rs_R, rs_N, rs_J, rs_F, rs_A, rs_o, rs_wA, rs_wF, rs_w, Int.add_zero, Int.zero_add, or_true, true_or, or_false, false_or, and_self, z_i2l, z_l2i, lo_nat, lo_add, lo_sub, lo_mul, lo_0, e_rem, mr_X10_turnsOnce, mh_X10_turnsOnce, sh, rf]
  refine rt_X10_turnsOnce_10 ?_
  simp (disch := omega) only [wp_c, wp_n, jj_n, Int.reduceToNat, Int.toNat_natCast, stE, wlE, lgt, lpu, lpw, v_c2, va_s, true_and, and_true, Option.toList, List.nil_append, List.cons_append, List.take, List.drop, List.reverse, List.reverseAux, List.length_cons, List.length_nil, reduceCtorEq, false_implies, true_implies, forall_const, not_true_eq_false, not_false_eq_true, ite_true, ite_false, Bool.false_eq_true, I_I, J_J, Nat.add_left_cancel_iff, Nat.reduceEqDiff, Nat.add_eq_left, Nat.left_eq_add, false_and, and_false, Nat.reduceSub, Nat.sub_self, Nat.le_refl, Nat.zero_le, ge_iff_le, Nat.reduceAdd, Nat.reduceLeDiff, Nat.zero_add, Nat.reduceLT, z_lt, z_le, z_eq, z_l0, z_g0, z_le0, z_ge0, z_e0, z_e1, z_vp, z_nc, z_rem, z_div, i_ltT, i_ltF, i_leT, i_leF, i_eqT, i_eqF, n_ltT, n_ltF, n_leT, n_leF, n_eqT, n_eqF, tn_9, tn_12, tn_14, tn_20, tn_28, tn_44, tn_52, tn_68, tn_84, tn_100, tn_116, tn_132, fu_e, up_eq, ob_0, ob_b, oi_add, oi_sub, oi_mul, oi_neg, rs_sh, rs_R, rs_N, rs_J, rs_F, rs_A, rs_o, rs_wA, rs_wF, rs_w, Int.add_zero, Int.zero_add, or_true, true_or, or_false, false_or, and_self, z_i2l, z_l2i, lo_nat, lo_add, lo_sub, lo_mul, lo_0, e_rem, mr_X10_turnsOnce, mh_X10_turnsOnce, sh, rf, Int.reduceAdd]
  refine rt_X10_turnsOnce_10 ?_
  simp (disch := omega) only [wp_c, wp_n, jj_n, Int.reduceToNat, Int.toNat_natCast, stE, wlE, lgt, lpu, lpw, v_c2, va_s, true_and, and_true, Option.toList, List.nil_append, List.cons_append, List.take, List.drop, List.reverse, List.reverseAux, List.length_cons, List.length_nil, reduceCtorEq, false_implies, true_implies, forall_const, not_true_eq_false, not_false_eq_true, ite_true, ite_false, Bool.false_eq_true, I_I, J_J, Nat.add_left_cancel_iff, Nat.reduceEqDiff, Nat.add_eq_left, Nat.left_eq_add, false_and, and_false, Nat.reduceSub, Nat.sub_self, Nat.le_refl, Nat.zero_le, ge_iff_le, Nat.reduceAdd, Nat.reduceLeDiff, Nat.zero_add, Nat.reduceLT, z_lt, z_le, z_eq, z_l0, z_g0, z_le0, z_ge0, z_e0, z_e1, z_vp, z_nc, z_rem, z_div, i_ltT, i_ltF, i_leT, i_leF, i_eqT, i_eqF, n_ltT, n_ltF, n_leT, n_leF, n_eqT, n_eqF, tn_9, tn_12, tn_14, tn_20, tn_28, tn_44, tn_52, tn_68, tn_84, tn_100, tn_116, tn_132, fu_e, up_eq, ob_0, ob_b, oi_add, oi_sub, oi_mul, oi_neg, rs_sh, rs_R, rs_N, rs_J, rs_F, rs_A, rs_o, rs_wA, rs_wF, rs_w, Int.add_zero, Int.zero_add, or_true, true_or, or_false, false_or, and_self, z_i2l, z_l2i, lo_nat, lo_add, lo_sub, lo_mul, lo_0, e_rem, mr_X10_turnsOnce, mh_X10_turnsOnce, sh, rf, Int.reduceAdd]
  refine rt_X10_turnsOnce_10 ?_
  simp (disch := omega) only [wp_c, wp_n, jj_n, Int.reduceToNat, Int.toNat_natCast, stE, wlE, lgt, lpu, lpw, v_c2, va_s, true_and, and_true, Option.toList, List.nil_append, List.cons_append, List.take, List.drop, List.reverse, List.reverseAux, List.length_cons, List.length_nil, reduceCtorEq, false_implies, true_implies, forall_const, not_true_eq_false, not_false_eq_true, ite_true, ite_false, Bool.false_eq_true, I_I, J_J, Nat.add_left_cancel_iff, Nat.reduceEqDiff, Nat.add_eq_left, Nat.left_eq_add, false_and, and_false, Nat.reduceSub, Nat.sub_self, Nat.le_refl, Nat.zero_le, ge_iff_le, Nat.reduceAdd, Nat.reduceLeDiff, Nat.zero_add, Nat.reduceLT, z_lt, z_le, z_eq, z_l0, z_g0, z_le0, z_ge0, z_e0, z_e1, z_vp, z_nc, z_rem, z_div, i_ltT, i_ltF, i_leT, i_leF, i_eqT, i_eqF, n_ltT, n_ltF, n_leT, n_leF, n_eqT, n_eqF, tn_9, tn_12, tn_14, tn_20, tn_28, tn_44, tn_52, tn_68, tn_84, tn_100, tn_116, tn_132, fu_e, up_eq, ob_0, ob_b, oi_add, oi_sub, oi_mul, oi_neg, rs_sh, rs_R, rs_N, rs_J, rs_F, rs_A, rs_o, rs_wA, rs_wF, rs_w, Int.add_zero, Int.zero_add, or_true, true_or, or_false, false_or, and_self, z_i2l, z_l2i, lo_nat, lo_add, lo_sub, lo_mul, lo_0, e_rem, mr_X10_turnsOnce, mh_X10_turnsOnce, sh, rf, Int.reduceAdd]
  refine rt_X10_turnsOnce_10 ?_
  simp (disch := omega) only [wp_c, wp_n, jj_n, Int.reduceToNat, Int.toNat_natCast, stE, wlE, lgt, lpu, lpw, v_c2, va_s, true_and, and_true, Option.toList, List.nil_append, List.cons_append, List.take, List.drop, List.reverse, List.reverseAux, List.length_cons, List.length_nil, reduceCtorEq, false_implies, true_implies, forall_const, not_true_eq_false, not_false_eq_true, ite_true, ite_false, Bool.false_eq_true, I_I, J_J, Nat.add_left_cancel_iff, Nat.reduceEqDiff, Nat.add_eq_left, Nat.left_eq_add, false_and, and_false, Nat.reduceSub, Nat.sub_self, Nat.le_refl, Nat.zero_le, ge_iff_le, Nat.reduceAdd, Nat.reduceLeDiff, Nat.zero_add, Nat.reduceLT, z_lt, z_le, z_eq, z_l0, z_g0, z_le0, z_ge0, z_e0, z_e1, z_vp, z_nc, z_rem, z_div, i_ltT, i_ltF, i_leT, i_leF, i_eqT, i_eqF, n_ltT, n_ltF, n_leT, n_leF, n_eqT, n_eqF, tn_9, tn_12, tn_14, tn_20, tn_28, tn_44, tn_52, tn_68, tn_84, tn_100, tn_116, tn_132, fu_e, up_eq, ob_0, ob_b, oi_add, oi_sub, oi_mul, oi_neg, rs_sh, rs_R, rs_N, rs_J, rs_F, rs_A, rs_o, rs_wA, rs_wF, rs_w, Int.add_zero, Int.zero_add, or_true, true_or, or_false, false_or, and_self, z_i2l, z_l2i, lo_nat, lo_add, lo_sub, lo_mul, lo_0, e_rem, mr_X10_turnsOnce, mh_X10_turnsOnce, sh, rf, Int.reduceAdd]
  refine rt_X10_turnsOnce_31 ?_
  simp (disch := omega) only [wp_c, wp_n, jj_n, Int.reduceToNat, Int.toNat_natCast, stE, wlE, lgt, lpu, lpw, v_c2, va_s, true_and, and_true, Option.toList, List.nil_append, List.cons_append, List.take, List.drop, List.reverse, List.reverseAux, List.length_cons, List.length_nil, reduceCtorEq, false_implies, true_implies, forall_const, not_true_eq_false, not_false_eq_true, ite_true, ite_false, Bool.false_eq_true, I_I, J_J, Nat.add_left_cancel_iff, Nat.reduceEqDiff, Nat.add_eq_left, Nat.left_eq_add, false_and, and_false, Nat.reduceSub, Nat.sub_self, Nat.le_refl, Nat.zero_le, ge_iff_le, Nat.reduceAdd, Nat.reduceLeDiff, Nat.zero_add, Nat.reduceLT, z_lt, z_le, z_eq, z_l0, z_g0, z_le0, z_ge0, z_e0, z_e1, z_vp, z_nc, z_rem, z_div, i_ltT, i_ltF, i_leT, i_leF, i_eqT, i_eqF, n_ltT, n_ltF, n_leT, n_leF, n_eqT, n_eqF, tn_9, tn_12, tn_14, tn_20, tn_28, tn_44, tn_52, tn_68, tn_84, tn_100, tn_116, tn_132, fu_e, up_eq, ob_0, ob_b, oi_add, oi_sub, oi_mul, oi_neg, rs_sh, rs_R, rs_N, rs_J, rs_F, rs_A, rs_o, rs_wA, rs_wF, rs_w, Int.add_zero, Int.zero_add, or_true, true_or, or_false, false_or, and_self, z_i2l, z_l2i, lo_nat, lo_add, lo_sub, lo_mul, lo_0, e_rem, mr_X10_turnsOnce, mh_X10_turnsOnce, sh, rf, Int.reduceAdd]
  exact h33
/-- carries alone have changed, and the longest stays above 0 -/
def FG (F F' : Nat → Int32) : Prop := FE F F' ∧ (0 ≤ F 5 → 0 ≤ F' 5)
theorem FG.refl (F : Nat → Int32) : FG F F := ⟨fun _ _ _ => rfl, fun h => h⟩
theorem FG.trans {F F' F'' : Nat → Int32} (h : FG F F') (h' : FG F' F'') : FG F F'' := ⟨fun j a b => (h'.1 j a b).trans (h.1 j a b), fun q => h'.2 (h.2 q)⟩
theorem one_l {A : Row} {way : Int} (h : RI A) (hw : way = 1 ∨ way = -1) : 0 ≤ (a_one A way).2.2 := by
  have hI := beg_TI (way := way) h.1.1 hw
  have h0 := hI.1
  exact (go_k hI (Or.inl ⟨rfl, by omega⟩) (by rw [beg_k _ _ _ (by omega)]; exact h.2.2.1)).2.2 (by decide)
theorem c_turns_12 {r : Nat} {t way : Int} {m : Nat} {w : mW} {F : Nat → Int32} {Q : mW → mO → Prop} (hR : Rb w r) (hw : way = 1 ∨ way = -1) (hm : m ≤ 1000) (ht : t * way = m) : ∀ (n i : Nat) (A : Row) (G : Nat → Int32), i + n = m → RI A → FG F G → (∀ F', FG F F' → Q (rs r w (a_many n A way).1 F') (.inl (some (.int (Int32.ofInt ((i : Int) + (a_many n A way).2)))))) →
    RT n_X10_turns 12 [.ref r, .int (Int32.ofInt t), .int (Int32.ofInt way), .int (Int32.ofInt i)] [] (rs r w A G) (0, 0, false) Q := by
  have hR0 := hR
  obtain ⟨sh, rf⟩ := hR
  intro n
  induction n with
  | zero =>
    intro i A G hi hI hG hq
    refine rt_X10_turns_12 ?_
    simp (disch := omega) only [wp_c, wp_n, jj_n, Int.reduceToNat, Int.toNat_natCast, stE, wlE, lgt, lpu, lpw, v_c2, va_s, true_and, and_true, Option.toList, List.nil_append, List.cons_append, List.take, List.drop, List.reverse, List.reverseAux, List.length_cons, List.length_nil, reduceCtorEq, false_implies, true_implies, forall_const, not_true_eq_false, not_false_eq_true, ite_true, ite_false, Bool.false_eq_true, I_I, J_J, Nat.add_left_cancel_iff, Nat.reduceEqDiff, Nat.add_eq_left, Nat.left_eq_add, false_and, and_false, Nat.reduceSub, Nat.sub_self, Nat.le_refl, Nat.zero_le, ge_iff_le, Nat.reduceAdd, Nat.reduceLeDiff, Nat.zero_add, Nat.reduceLT, z_lt, z_le, z_eq, z_l0, z_g0, z_le0, z_ge0, z_e0, z_e1, z_vp, z_nc, z_rem, z_div, i_ltT, i_ltF, i_leT, i_leF, i_eqT, i_eqF, n_ltT, n_ltF, n_leT, n_leF, n_eqT, n_eqF, tn_9, tn_12, tn_14, tn_20, tn_28, tn_44, tn_52, tn_68, tn_84, tn_100, tn_116, tn_132, fu_e, up_eq, ob_0, ob_b, oi_add, oi_sub, oi_mul, oi_neg, rs_sh, rs_R, rs_N, rs_J, rs_F, rs_A, rs_o, rs_wA, rs_wF, rs_w, Int.add_zero, Int.zero_add, or_true, true_or, or_false, false_or, and_self, z_i2l, z_l2i, lo_nat, lo_add, lo_sub, lo_mul, lo_0, e_rem, mr_X10_turns, mh_X10_turns, sh, rf, ht]
    repeat' (first | (with_reducible refine And.intro ?_ ?_) | (with_reducible intro _) | ((first | refine rt_X10_turns_8 ?_ | refine rt_X10_turns_9 ?_ | refine rt_X10_turns_29 ?_ | refine rt_X10_turns_35 ?_); simp (disch := omega) only [wp_c, wp_n, jj_n, Int.reduceToNat, Int.toNat_natCast, stE, wlE, lgt, lpu, lpw, v_c2, va_s, true_and, and_true, Option.toList, List.nil_append, List.cons_append, List.take, List.drop, List.reverse, List.reverseAux, List.length_cons, List.length_nil, reduceCtorEq, false_implies, true_implies, forall_const, not_true_eq_false, not_false_eq_true, ite_true, ite_false, Bool.false_eq_true, I_I, J_J, Nat.add_left_cancel_iff, Nat.reduceEqDiff, Nat.add_eq_left, Nat.left_eq_add, false_and, and_false, Nat.reduceSub, Nat.sub_self, Nat.le_refl, Nat.zero_le, ge_iff_le, Nat.reduceAdd, Nat.reduceLeDiff, Nat.zero_add, Nat.reduceLT, z_lt, z_le, z_eq, z_l0, z_g0, z_le0, z_ge0, z_e0, z_e1, z_vp, z_nc, z_rem, z_div, i_ltT, i_ltF, i_leT, i_leF, i_eqT, i_eqF, n_ltT, n_ltF, n_leT, n_leF, n_eqT, n_eqF, tn_9, tn_12, tn_14, tn_20, tn_28, tn_44, tn_52, tn_68, tn_84, tn_100, tn_116, tn_132, fu_e, up_eq, ob_0, ob_b, oi_add, oi_sub, oi_mul, oi_neg, rs_sh, rs_R, rs_N, rs_J, rs_F, rs_A, rs_o, rs_wA, rs_wF, rs_w, Int.add_zero, Int.zero_add, or_true, true_or, or_false, false_or, and_self, z_i2l, z_l2i, lo_nat, lo_add, lo_sub, lo_mul, lo_0, e_rem, mr_X10_turns, mh_X10_turns, sh, rf, ht]))
    have := hq G hG
    simpa [a_many] using this
  | succ n ih =>
    intro i A G hi hI hG hq
    refine rt_X10_turns_12 ?_
    simp (disch := omega) only [wp_c, wp_n, jj_n, Int.reduceToNat, Int.toNat_natCast, stE, wlE, lgt, lpu, lpw, v_c2, va_s, true_and, and_true, Option.toList, List.nil_append, List.cons_append, List.take, List.drop, List.reverse, List.reverseAux, List.length_cons, List.length_nil, reduceCtorEq, false_implies, true_implies, forall_const, not_true_eq_false, not_false_eq_true, ite_true, ite_false, Bool.false_eq_true, I_I, J_J, Nat.add_left_cancel_iff, Nat.reduceEqDiff, Nat.add_eq_left, Nat.left_eq_add, false_and, and_false, Nat.reduceSub, Nat.sub_self, Nat.le_refl, Nat.zero_le, ge_iff_le, Nat.reduceAdd, Nat.reduceLeDiff, Nat.zero_add, Nat.reduceLT, z_lt, z_le, z_eq, z_l0, z_g0, z_le0, z_ge0, z_e0, z_e1, z_vp, z_nc, z_rem, z_div, i_ltT, i_ltF, i_leT, i_leF, i_eqT, i_eqF, n_ltT, n_ltF, n_leT, n_leF, n_eqT, n_eqF, tn_9, tn_12, tn_14, tn_20, tn_28, tn_44, tn_52, tn_68, tn_84, tn_100, tn_116, tn_132, fu_e, up_eq, ob_0, ob_b, oi_add, oi_sub, oi_mul, oi_neg, rs_sh, rs_R, rs_N, rs_J, rs_F, rs_A, rs_o, rs_wA, rs_wF, rs_w, Int.add_zero, Int.zero_add, or_true, true_or, or_false, false_or, and_self, z_i2l, z_l2i, lo_nat, lo_add, lo_sub, lo_mul, lo_0, e_rem, mr_X10_turns, mh_X10_turns, sh, rf, ht]
    refine c_turnsOnce hR0 hw hI fun F' hF hF5 => ?_
    have hG' : FG F F' := ⟨fun j h1 h2 => (hF j h1 h2).trans (hG.1 j h1 h2), fun _ => by rw [hF5]; exact one_l hI hw⟩
    have hI' := one_RI hI hw
    rw [a_many] at hq
    cases ho : (a_one A way).2.1 with
    | none =>
      rw [ho] at hq
      simp only at hq
      simp (disch := omega) only [wp_c, wp_n, jj_n, Int.reduceToNat, Int.toNat_natCast, stE, wlE, lgt, lpu, lpw, v_c2, va_s, true_and, and_true, Option.toList, List.nil_append, List.cons_append, List.take, List.drop, List.reverse, List.reverseAux, List.length_cons, List.length_nil, reduceCtorEq, false_implies, true_implies, forall_const, not_true_eq_false, not_false_eq_true, ite_true, ite_false, Bool.false_eq_true, I_I, J_J, Nat.add_left_cancel_iff, Nat.reduceEqDiff, Nat.add_eq_left, Nat.left_eq_add, false_and, and_false, Nat.reduceSub, Nat.sub_self, Nat.le_refl, Nat.zero_le, ge_iff_le, Nat.reduceAdd, Nat.reduceLeDiff, Nat.zero_add, Nat.reduceLT, z_lt, z_le, z_eq, z_l0, z_g0, z_le0, z_ge0, z_e0, z_e1, z_vp, z_nc, z_rem, z_div, i_ltT, i_ltF, i_leT, i_leF, i_eqT, i_eqF, n_ltT, n_ltF, n_leT, n_leF, n_eqT, n_eqF, tn_9, tn_12, tn_14, tn_20, tn_28, tn_44, tn_52, tn_68, tn_84, tn_100, tn_116, tn_132, fu_e, up_eq, ob_0, ob_b, oi_add, oi_sub, oi_mul, oi_neg, rs_sh, rs_R, rs_N, rs_J, rs_F, rs_A, rs_o, rs_wA, rs_wF, rs_w, Int.add_zero, Int.zero_add, or_true, true_or, or_false, false_or, and_self, z_i2l, z_l2i, lo_nat, lo_add, lo_sub, lo_mul, lo_0, e_rem, mr_X10_turns, mh_X10_turns, sh, rf, ht]
      refine rt_X10_turns_29 ?_
      simp (disch := omega) only [wp_c, wp_n, jj_n, Int.reduceToNat, Int.toNat_natCast, stE, wlE, lgt, lpu, lpw, v_c2, va_s, true_and, and_true, Option.toList, List.nil_append, List.cons_append, List.take, List.drop, List.reverse, List.reverseAux, List.length_cons, List.length_nil, reduceCtorEq, false_implies, true_implies, forall_const, not_true_eq_false, not_false_eq_true, ite_true, ite_false, Bool.false_eq_true, I_I, J_J, Nat.add_left_cancel_iff, Nat.reduceEqDiff, Nat.add_eq_left, Nat.left_eq_add, false_and, and_false, Nat.reduceSub, Nat.sub_self, Nat.le_refl, Nat.zero_le, ge_iff_le, Nat.reduceAdd, Nat.reduceLeDiff, Nat.zero_add, Nat.reduceLT, z_lt, z_le, z_eq, z_l0, z_g0, z_le0, z_ge0, z_e0, z_e1, z_vp, z_nc, z_rem, z_div, i_ltT, i_ltF, i_leT, i_leF, i_eqT, i_eqF, n_ltT, n_ltF, n_leT, n_leF, n_eqT, n_eqF, tn_9, tn_12, tn_14, tn_20, tn_28, tn_44, tn_52, tn_68, tn_84, tn_100, tn_116, tn_132, fu_e, up_eq, ob_0, ob_b, oi_add, oi_sub, oi_mul, oi_neg, rs_sh, rs_R, rs_N, rs_J, rs_F, rs_A, rs_o, rs_wA, rs_wF, rs_w, Int.add_zero, Int.zero_add, or_true, true_or, or_false, false_or, and_self, z_i2l, z_l2i, lo_nat, lo_add, lo_sub, lo_mul, lo_0, e_rem, mr_X10_turns, mh_X10_turns, sh, rf, ht]
      refine ih (i + 1) _ F' (by omega) hI' hG' fun F'' hF'' => ?_
      have := hq F'' hF''
      have e : (((i + 1 : Nat) : Int) + ((a_many n (a_fin (a_one A way)) way).2 : Nat)) = ((i : Int) + (((a_many n (a_fin (a_one A way)) way).2 + 1 : Nat) : Int)) := by omega
      rw [e]; exact this
    | some y =>
      rw [ho] at hq
      simp only at hq
      simp (disch := omega) only [wp_c, wp_n, jj_n, Int.reduceToNat, Int.toNat_natCast, stE, wlE, lgt, lpu, lpw, v_c2, va_s, true_and, and_true, Option.toList, List.nil_append, List.cons_append, List.take, List.drop, List.reverse, List.reverseAux, List.length_cons, List.length_nil, reduceCtorEq, false_implies, true_implies, forall_const, not_true_eq_false, not_false_eq_true, ite_true, ite_false, Bool.false_eq_true, I_I, J_J, Nat.add_left_cancel_iff, Nat.reduceEqDiff, Nat.add_eq_left, Nat.left_eq_add, false_and, and_false, Nat.reduceSub, Nat.sub_self, Nat.le_refl, Nat.zero_le, ge_iff_le, Nat.reduceAdd, Nat.reduceLeDiff, Nat.zero_add, Nat.reduceLT, z_lt, z_le, z_eq, z_l0, z_g0, z_le0, z_ge0, z_e0, z_e1, z_vp, z_nc, z_rem, z_div, i_ltT, i_ltF, i_leT, i_leF, i_eqT, i_eqF, n_ltT, n_ltF, n_leT, n_leF, n_eqT, n_eqF, tn_9, tn_12, tn_14, tn_20, tn_28, tn_44, tn_52, tn_68, tn_84, tn_100, tn_116, tn_132, fu_e, up_eq, ob_0, ob_b, oi_add, oi_sub, oi_mul, oi_neg, rs_sh, rs_R, rs_N, rs_J, rs_F, rs_A, rs_o, rs_wA, rs_wF, rs_w, Int.add_zero, Int.zero_add, or_true, true_or, or_false, false_or, and_self, z_i2l, z_l2i, lo_nat, lo_add, lo_sub, lo_mul, lo_0, e_rem, mr_X10_turns, mh_X10_turns, sh, rf, ht]
      have := hq F' hG'
      simpa using this
theorem c_turns {r : Nat} {t : Int} {w : mW} {A : Row} {F : Nat → Int32} {Q : mW → mO → Prop} (hR : Rb w r) (ht : -999 ≤ t ∧ t ≤ 999) (hI : RI A) (hq : ∀ F', FG F F' → Q (rs r w (a_many t.natAbs A (if t < 0 then -1 else 1)).1 F') (.inl (some (.int (Int32.ofInt ((a_many t.natAbs A (if t < 0 then -1 else 1)).2 : Nat)))))) : CT n_X10_turns [.ref r, .int (Int32.ofInt t)] (rs r w A F) Q := by
  have hfin : RT n_X10_turns 9 [.ref r, .int (Int32.ofInt t), .null, .null] [.int (Int32.ofInt (if t < 0 then -1 else 1))] (rs r w A F) (0, 0, false) Q := by
    refine rt_X10_turns_9 ?_
    simp (disch := omega) only [wp_c, wp_n, jj_n, Int.reduceToNat, Int.toNat_natCast, stE, wlE, lgt, lpu, lpw, v_c2, va_s, true_and, and_true, Option.toList, List.nil_append, List.cons_append, List.take, List.drop, List.reverse, List.reverseAux, List.length_cons, List.length_nil, reduceCtorEq, false_implies, true_implies, forall_const, not_true_eq_false, not_false_eq_true, ite_true, ite_false, Bool.false_eq_true, I_I, J_J, Nat.add_left_cancel_iff, Nat.reduceEqDiff, Nat.add_eq_left, Nat.left_eq_add, false_and, and_false, Nat.reduceSub, Nat.sub_self, Nat.le_refl, Nat.zero_le, ge_iff_le, Nat.reduceAdd, Nat.reduceLeDiff, Nat.zero_add, Nat.reduceLT, z_lt, z_le, z_eq, z_l0, z_g0, z_le0, z_ge0, z_e0, z_e1, z_vp, z_nc, z_rem, z_div, i_ltT, i_ltF, i_leT, i_leF, i_eqT, i_eqF, n_ltT, n_ltF, n_leT, n_leF, n_eqT, n_eqF, tn_9, tn_12, tn_14, tn_20, tn_28, tn_44, tn_52, tn_68, tn_84, tn_100, tn_116, tn_132, fu_e, up_eq, ob_0, ob_b, oi_add, oi_sub, oi_mul, oi_neg, rs_sh, rs_R, rs_N, rs_J, rs_F, rs_A, rs_o, rs_wA, rs_wF, rs_w, Int.add_zero, Int.zero_add, or_true, true_or, or_false, false_or, and_self, z_i2l, z_l2i, lo_nat, lo_add, lo_sub, lo_mul, lo_0, e_rem, mr_X10_turns, mh_X10_turns]
    refine c_turns_12 (m := t.natAbs) hR (by split; exact Or.inr rfl; exact Or.inl rfl) (by omega) (by split <;> omega) t.natAbs 0 A F (by omega) hI (FG.refl F) fun F' hF => ?_
    have := hq F' hF
    simpa using this
  refine ct_X10_turns (rt_X10_turns_0 ?_)
  simp (disch := omega) only [wp_c, wp_n, jj_n, Int.reduceToNat, Int.toNat_natCast, stE, wlE, lgt, lpu, lpw, v_c2, va_s, true_and, and_true, Option.toList, List.nil_append, List.cons_append, List.take, List.drop, List.reverse, List.reverseAux, List.length_cons, List.length_nil, reduceCtorEq, false_implies, true_implies, forall_const, not_true_eq_false, not_false_eq_true, ite_true, ite_false, Bool.false_eq_true, I_I, J_J, Nat.add_left_cancel_iff, Nat.reduceEqDiff, Nat.add_eq_left, Nat.left_eq_add, false_and, and_false, Nat.reduceSub, Nat.sub_self, Nat.le_refl, Nat.zero_le, ge_iff_le, Nat.reduceAdd, Nat.reduceLeDiff, Nat.zero_add, Nat.reduceLT, z_lt, z_le, z_eq, z_l0, z_g0, z_le0, z_ge0, z_e0, z_e1, z_vp, z_nc, z_rem, z_div, i_ltT, i_ltF, i_leT, i_leF, i_eqT, i_eqF, n_ltT, n_ltF, n_leT, n_leF, n_eqT, n_eqF, tn_9, tn_12, tn_14, tn_20, tn_28, tn_44, tn_52, tn_68, tn_84, tn_100, tn_116, tn_132, fu_e, up_eq, ob_0, ob_b, oi_add, oi_sub, oi_mul, oi_neg, rs_sh, rs_R, rs_N, rs_J, rs_F, rs_A, rs_o, rs_wA, rs_wF, rs_w, Int.add_zero, Int.zero_add, or_true, true_or, or_false, false_or, and_self, z_i2l, z_l2i, lo_nat, lo_add, lo_sub, lo_mul, lo_0, e_rem, mr_X10_turns, mh_X10_turns]
  repeat' (first | (with_reducible refine And.intro ?_ ?_) | (with_reducible intro _) | ((first | refine rt_X10_turns_8 ?_ | refine rt_X10_turns_29 ?_ | refine rt_X10_turns_35 ?_); simp (disch := omega) only [wp_c, wp_n, jj_n, Int.reduceToNat, Int.toNat_natCast, stE, wlE, lgt, lpu, lpw, v_c2, va_s, true_and, and_true, Option.toList, List.nil_append, List.cons_append, List.take, List.drop, List.reverse, List.reverseAux, List.length_cons, List.length_nil, reduceCtorEq, false_implies, true_implies, forall_const, not_true_eq_false, not_false_eq_true, ite_true, ite_false, Bool.false_eq_true, I_I, J_J, Nat.add_left_cancel_iff, Nat.reduceEqDiff, Nat.add_eq_left, Nat.left_eq_add, false_and, and_false, Nat.reduceSub, Nat.sub_self, Nat.le_refl, Nat.zero_le, ge_iff_le, Nat.reduceAdd, Nat.reduceLeDiff, Nat.zero_add, Nat.reduceLT, z_lt, z_le, z_eq, z_l0, z_g0, z_le0, z_ge0, z_e0, z_e1, z_vp, z_nc, z_rem, z_div, i_ltT, i_ltF, i_leT, i_leF, i_eqT, i_eqF, n_ltT, n_ltF, n_leT, n_leF, n_eqT, n_eqF, tn_9, tn_12, tn_14, tn_20, tn_28, tn_44, tn_52, tn_68, tn_84, tn_100, tn_116, tn_132, fu_e, up_eq, ob_0, ob_b, oi_add, oi_sub, oi_mul, oi_neg, rs_sh, rs_R, rs_N, rs_J, rs_F, rs_A, rs_o, rs_wA, rs_wF, rs_w, Int.add_zero, Int.zero_add, or_true, true_or, or_false, false_or, and_self, z_i2l, z_l2i, lo_nat, lo_add, lo_sub, lo_mul, lo_0, e_rem, mr_X10_turns, mh_X10_turns]))
  · rw [if_neg (by omega)] at hfin; exact hfin
  · rw [if_pos (by omega)] at hfin; exact hfin
theorem c_movedNow_4 {r : Nat} {w : mW} {A : Row} {F : Nat → Int32} {Q : mW → mO → Prop} (hR : Rb w r) (h1 : 0 ≤ A 1 ∧ A 1 ≤ 16) (hq : Q (rs r w A F) (.inl (some (.int (Int32.ofInt (m_ct A (A 1).toNat)))))) : ∀ (n j : Nat), (j : Int) + n = A 1 → RT n_X10_movedNow 4 [.ref r, .int (Int32.ofInt (m_ct A j)), .int (Int32.ofInt j)] [] (rs r w A F) (0, 0, false) Q := by
  obtain ⟨sh, rf⟩ := hR
  intro n
  induction n with
  | zero =>
    intro j hj
    have e : (A 1).toNat = j := by omega
    refine rt_X10_movedNow_4 ?_
    simp (disch := omega) only [wp_c, wp_n, jj_n, Int.reduceToNat, Int.toNat_natCast, stE, wlE, lgt, lpu, lpw, v_c2, va_s, true_and, and_true, Option.toList, List.nil_append, List.cons_append, List.take, List.drop, List.reverse, List.reverseAux, List.length_cons, List.length_nil, reduceCtorEq, false_implies, true_implies, forall_const, not_true_eq_false, not_false_eq_true, ite_true, ite_false, Bool.false_eq_true, I_I, J_J, Nat.add_left_cancel_iff, Nat.reduceEqDiff, Nat.add_eq_left, Nat.left_eq_add, false_and, and_false, Nat.reduceSub, Nat.sub_self, Nat.le_refl, Nat.zero_le, ge_iff_le, Nat.reduceAdd, Nat.reduceLeDiff, Nat.zero_add, Nat.reduceLT, z_lt, z_le, z_eq, z_l0, z_g0, z_le0, z_ge0, z_e0, z_e1, z_vp, z_nc, z_rem, z_div, i_ltT, i_ltF, i_leT, i_leF, i_eqT, i_eqF, n_ltT, n_ltF, n_leT, n_leF, n_eqT, n_eqF, tn_9, tn_12, tn_14, tn_20, tn_28, tn_44, tn_52, tn_68, tn_84, tn_100, tn_116, tn_132, fu_e, up_eq, ob_0, ob_b, oi_add, oi_sub, oi_mul, oi_neg, rs_sh, rs_R, rs_N, rs_J, rs_F, rs_A, rs_o, rs_wA, rs_wF, rs_w, Int.add_zero, Int.zero_add, or_true, true_or, or_false, false_or, and_self, z_i2l, z_l2i, lo_nat, lo_add, lo_sub, lo_mul, lo_0, e_rem, mr_X10_movedNow, mh_X10_movedNow, sh, rf]
    refine rt_X10_movedNow_40 ?_
    simp (disch := omega) only [wp_c, wp_n, jj_n, Int.reduceToNat, Int.toNat_natCast, stE, wlE, lgt, lpu, lpw, v_c2, va_s, true_and, and_true, Option.toList, List.nil_append, List.cons_append, List.take, List.drop, List.reverse, List.reverseAux, List.length_cons, List.length_nil, reduceCtorEq, false_implies, true_implies, forall_const, not_true_eq_false, not_false_eq_true, ite_true, ite_false, Bool.false_eq_true, I_I, J_J, Nat.add_left_cancel_iff, Nat.reduceEqDiff, Nat.add_eq_left, Nat.left_eq_add, false_and, and_false, Nat.reduceSub, Nat.sub_self, Nat.le_refl, Nat.zero_le, ge_iff_le, Nat.reduceAdd, Nat.reduceLeDiff, Nat.zero_add, Nat.reduceLT, z_lt, z_le, z_eq, z_l0, z_g0, z_le0, z_ge0, z_e0, z_e1, z_vp, z_nc, z_rem, z_div, i_ltT, i_ltF, i_leT, i_leF, i_eqT, i_eqF, n_ltT, n_ltF, n_leT, n_leF, n_eqT, n_eqF, tn_9, tn_12, tn_14, tn_20, tn_28, tn_44, tn_52, tn_68, tn_84, tn_100, tn_116, tn_132, fu_e, up_eq, ob_0, ob_b, oi_add, oi_sub, oi_mul, oi_neg, rs_sh, rs_R, rs_N, rs_J, rs_F, rs_A, rs_o, rs_wA, rs_wF, rs_w, Int.add_zero, Int.zero_add, or_true, true_or, or_false, false_or, and_self, z_i2l, z_l2i, lo_nat, lo_add, lo_sub, lo_mul, lo_0, e_rem, mr_X10_movedNow, mh_X10_movedNow, sh, rf]
    rw [← e]; exact hq
  | succ n ih =>
    intro j hj
    have := ih (j + 1) (by omega)
    rw [m_ct] at this
    refine rt_X10_movedNow_4 ?_
    simp (disch := omega) only [wp_c, wp_n, jj_n, Int.reduceToNat, Int.toNat_natCast, stE, wlE, lgt, lpu, lpw, v_c2, va_s, true_and, and_true, Option.toList, List.nil_append, List.cons_append, List.take, List.drop, List.reverse, List.reverseAux, List.length_cons, List.length_nil, reduceCtorEq, false_implies, true_implies, forall_const, not_true_eq_false, not_false_eq_true, ite_true, ite_false, Bool.false_eq_true, I_I, J_J, Nat.add_left_cancel_iff, Nat.reduceEqDiff, Nat.add_eq_left, Nat.left_eq_add, false_and, and_false, Nat.reduceSub, Nat.sub_self, Nat.le_refl, Nat.zero_le, ge_iff_le, Nat.reduceAdd, Nat.reduceLeDiff, Nat.zero_add, Nat.reduceLT, z_lt, z_le, z_eq, z_l0, z_g0, z_le0, z_ge0, z_e0, z_e1, z_vp, z_nc, z_rem, z_div, i_ltT, i_ltF, i_leT, i_leF, i_eqT, i_eqF, n_ltT, n_ltF, n_leT, n_leF, n_eqT, n_eqF, tn_9, tn_12, tn_14, tn_20, tn_28, tn_44, tn_52, tn_68, tn_84, tn_100, tn_116, tn_132, fu_e, up_eq, ob_0, ob_b, oi_add, oi_sub, oi_mul, oi_neg, rs_sh, rs_R, rs_N, rs_J, rs_F, rs_A, rs_o, rs_wA, rs_wF, rs_w, Int.add_zero, Int.zero_add, or_true, true_or, or_false, false_or, and_self, z_i2l, z_l2i, lo_nat, lo_add, lo_sub, lo_mul, lo_0, e_rem, mr_X10_movedNow, mh_X10_movedNow, sh, rf]
    refine ⟨fun h => ?_, fun h => ?_⟩
    · rw [if_neg (Int32.not_lt.mpr h)] at this
      refine rt_X10_movedNow_31 ?_
      simp (disch := omega) only [wp_c, wp_n, jj_n, Int.reduceToNat, Int.toNat_natCast, stE, wlE, lgt, lpu, lpw, v_c2, va_s, true_and, and_true, Option.toList, List.nil_append, List.cons_append, List.take, List.drop, List.reverse, List.reverseAux, List.length_cons, List.length_nil, reduceCtorEq, false_implies, true_implies, forall_const, not_true_eq_false, not_false_eq_true, ite_true, ite_false, Bool.false_eq_true, I_I, J_J, Nat.add_left_cancel_iff, Nat.reduceEqDiff, Nat.add_eq_left, Nat.left_eq_add, false_and, and_false, Nat.reduceSub, Nat.sub_self, Nat.le_refl, Nat.zero_le, ge_iff_le, Nat.reduceAdd, Nat.reduceLeDiff, Nat.zero_add, Nat.reduceLT, z_lt, z_le, z_eq, z_l0, z_g0, z_le0, z_ge0, z_e0, z_e1, z_vp, z_nc, z_rem, z_div, i_ltT, i_ltF, i_leT, i_leF, i_eqT, i_eqF, n_ltT, n_ltF, n_leT, n_leF, n_eqT, n_eqF, tn_9, tn_12, tn_14, tn_20, tn_28, tn_44, tn_52, tn_68, tn_84, tn_100, tn_116, tn_132, fu_e, up_eq, ob_0, ob_b, oi_add, oi_sub, oi_mul, oi_neg, rs_sh, rs_R, rs_N, rs_J, rs_F, rs_A, rs_o, rs_wA, rs_wF, rs_w, Int.add_zero, Int.zero_add, or_true, true_or, or_false, false_or, and_self, z_i2l, z_l2i, lo_nat, lo_add, lo_sub, lo_mul, lo_0, e_rem, mr_X10_movedNow, mh_X10_movedNow, sh, rf]
      refine rt_X10_movedNow_32 ?_
      simp (disch := omega) only [wp_c, wp_n, jj_n, Int.reduceToNat, Int.toNat_natCast, stE, wlE, lgt, lpu, lpw, v_c2, va_s, true_and, and_true, Option.toList, List.nil_append, List.cons_append, List.take, List.drop, List.reverse, List.reverseAux, List.length_cons, List.length_nil, reduceCtorEq, false_implies, true_implies, forall_const, not_true_eq_false, not_false_eq_true, ite_true, ite_false, Bool.false_eq_true, I_I, J_J, Nat.add_left_cancel_iff, Nat.reduceEqDiff, Nat.add_eq_left, Nat.left_eq_add, false_and, and_false, Nat.reduceSub, Nat.sub_self, Nat.le_refl, Nat.zero_le, ge_iff_le, Nat.reduceAdd, Nat.reduceLeDiff, Nat.zero_add, Nat.reduceLT, z_lt, z_le, z_eq, z_l0, z_g0, z_le0, z_ge0, z_e0, z_e1, z_vp, z_nc, z_rem, z_div, i_ltT, i_ltF, i_leT, i_leF, i_eqT, i_eqF, n_ltT, n_ltF, n_leT, n_leF, n_eqT, n_eqF, tn_9, tn_12, tn_14, tn_20, tn_28, tn_44, tn_52, tn_68, tn_84, tn_100, tn_116, tn_132, fu_e, up_eq, ob_0, ob_b, oi_add, oi_sub, oi_mul, oi_neg, rs_sh, rs_R, rs_N, rs_J, rs_F, rs_A, rs_o, rs_wA, rs_wF, rs_w, Int.add_zero, Int.zero_add, or_true, true_or, or_false, false_or, and_self, z_i2l, z_l2i, lo_nat, lo_add, lo_sub, lo_mul, lo_0, e_rem, mr_X10_movedNow, mh_X10_movedNow, sh, rf]
      rw [Int.add_zero] at this
      exact this
    · rw [if_pos (Int32.not_le.mp h)] at this
      refine rt_X10_movedNow_32 ?_
      simp (disch := omega) only [wp_c, wp_n, jj_n, Int.reduceToNat, Int.toNat_natCast, stE, wlE, lgt, lpu, lpw, v_c2, va_s, true_and, and_true, Option.toList, List.nil_append, List.cons_append, List.take, List.drop, List.reverse, List.reverseAux, List.length_cons, List.length_nil, reduceCtorEq, false_implies, true_implies, forall_const, not_true_eq_false, not_false_eq_true, ite_true, ite_false, Bool.false_eq_true, I_I, J_J, Nat.add_left_cancel_iff, Nat.reduceEqDiff, Nat.add_eq_left, Nat.left_eq_add, false_and, and_false, Nat.reduceSub, Nat.sub_self, Nat.le_refl, Nat.zero_le, ge_iff_le, Nat.reduceAdd, Nat.reduceLeDiff, Nat.zero_add, Nat.reduceLT, z_lt, z_le, z_eq, z_l0, z_g0, z_le0, z_ge0, z_e0, z_e1, z_vp, z_nc, z_rem, z_div, i_ltT, i_ltF, i_leT, i_leF, i_eqT, i_eqF, n_ltT, n_ltF, n_leT, n_leF, n_eqT, n_eqF, tn_9, tn_12, tn_14, tn_20, tn_28, tn_44, tn_52, tn_68, tn_84, tn_100, tn_116, tn_132, fu_e, up_eq, ob_0, ob_b, oi_add, oi_sub, oi_mul, oi_neg, rs_sh, rs_R, rs_N, rs_J, rs_F, rs_A, rs_o, rs_wA, rs_wF, rs_w, Int.add_zero, Int.zero_add, or_true, true_or, or_false, false_or, and_self, z_i2l, z_l2i, lo_nat, lo_add, lo_sub, lo_mul, lo_0, e_rem, mr_X10_movedNow, mh_X10_movedNow, sh, rf]
      exact this
theorem c_movedNow {r : Nat} {w : mW} {A : Row} {F : Nat → Int32} {Q : mW → mO → Prop} (hR : Rb w r) (h1 : 0 ≤ A 1 ∧ A 1 ≤ 16) (hq : Q (rs r w A F) (.inl (some (.int (Int32.ofInt (m_ct A (A 1).toNat)))))) : CT n_X10_movedNow [.ref r] (rs r w A F) Q := by
  refine ct_X10_movedNow (rt_X10_movedNow_0 ?_)
  simp (disch := omega) only [wp_c, wp_n, jj_n, Int.reduceToNat, Int.toNat_natCast, stE, wlE, lgt, lpu, lpw, v_c2, va_s, true_and, and_true, Option.toList, List.nil_append, List.cons_append, List.take, List.drop, List.reverse, List.reverseAux, List.length_cons, List.length_nil, reduceCtorEq, false_implies, true_implies, forall_const, not_true_eq_false, not_false_eq_true, ite_true, ite_false, Bool.false_eq_true, I_I, J_J, Nat.add_left_cancel_iff, Nat.reduceEqDiff, Nat.add_eq_left, Nat.left_eq_add, false_and, and_false, Nat.reduceSub, Nat.sub_self, Nat.le_refl, Nat.zero_le, ge_iff_le, Nat.reduceAdd, Nat.reduceLeDiff, Nat.zero_add, Nat.reduceLT, z_lt, z_le, z_eq, z_l0, z_g0, z_le0, z_ge0, z_e0, z_e1, z_vp, z_nc, z_rem, z_div, i_ltT, i_ltF, i_leT, i_leF, i_eqT, i_eqF, n_ltT, n_ltF, n_leT, n_leF, n_eqT, n_eqF, tn_9, tn_12, tn_14, tn_20, tn_28, tn_44, tn_52, tn_68, tn_84, tn_100, tn_116, tn_132, fu_e, up_eq, ob_0, ob_b, oi_add, oi_sub, oi_mul, oi_neg, rs_sh, rs_R, rs_N, rs_J, rs_F, rs_A, rs_o, rs_wA, rs_wF, rs_w, Int.add_zero, Int.zero_add, or_true, true_or, or_false, false_or, and_self, z_i2l, z_l2i, lo_nat, lo_add, lo_sub, lo_mul, lo_0, e_rem, mr_X10_movedNow, mh_X10_movedNow]
  exact c_movedNow_4 hR h1 hq (A 1).toNat 0 (by omega)
/-! planning, on the reference's side -/
def RPL (w : mW) (r : Nat) (F : Nat → Int32) (l : List Int) : Prop := F 7 = Int32.ofInt l.length ∧ ∀ i, i < l.length → w_I w (r + 3) i = Int32.ofInt (l.getD i 0)
theorem Fr.Is {l : List Nat} {w w' : mW} {a i : Nat} {x : Int32} (h : Fr l w w') (ha : a ∈ l) : Fr l w (s_I w' a i x) := h.I ha
theorem c_plans_10 {r : Nat} {x : Int32} {s : Int} {w : mW} {A : Row} {F : Nat → Int32} {Q : mW → mO → Prop} (hR : Rb w r) (hs : s = 0 ∨ s = 1) : ∀ (f : Nat) (v c : Int) (done : List Int) (w1 : mW) (G : Nat → Int32) (y z : Value), done.length + f = 7 → 0 ≤ v ∧ v ≤ 999999 → (c = 0 ∨ c = 1) → ((f = 0 ∧ v = 0 ∧ c = 0) ∨ ∃ g, f = g + 1 ∧ v < 10 ^ g) → Fr [r + 3] w w1 → (∀ i, i ≠ 7 → G i = F i) → RPL w1 r G done →
    (∀ w' F', Fr [r + 3] w w' → (∀ i, i ≠ 7 → F' i = F i) → RPL w' r F' (done ++ a_pl f v c s) → Q (rs r w' A F') (.inl none)) →
    RT n_X10_plans 10 [.ref r, .int x, .int (Int32.ofInt s), .int (Int32.ofInt c), .int (Int32.ofInt v), y, z] [] (rs r w1 A G) (0, 0, false) Q := by
  intro f
  induction f with
  | zero =>
    intro v c done w1 G y z hf hv hc hp hW hG hP hq
    obtain ⟨sh, rf⟩ := hR.fr hW
    have hv0 : v = 0 := by rcases hp with h | ⟨g, h, -⟩ <;> omega
    have hc0 : c = 0 := by rcases hp with h | ⟨g, h, -⟩ <;> omega
    refine rt_X10_plans_10 ?_
    simp (disch := omega) only [wp_c, wp_n, jj_n, Int.reduceToNat, Int.toNat_natCast, stE, wlE, lgt, lpu, lpw, v_c2, va_s, true_and, and_true, Option.toList, List.nil_append, List.cons_append, List.take, List.drop, List.reverse, List.reverseAux, List.length_cons, List.length_nil, reduceCtorEq, false_implies, true_implies, forall_const, not_true_eq_false, not_false_eq_true, ite_true, ite_false, Bool.false_eq_true, I_I, J_J, Nat.add_left_cancel_iff, Nat.reduceEqDiff, Nat.add_eq_left, Nat.left_eq_add, false_and, and_false, Nat.reduceSub, Nat.sub_self, Nat.le_refl, Nat.zero_le, ge_iff_le, Nat.reduceAdd, Nat.reduceLeDiff, Nat.zero_add, Nat.reduceLT, z_lt, z_le, z_eq, z_l0, z_g0, z_le0, z_ge0, z_e0, z_e1, z_vp, z_nc, z_rem, z_div, i_ltT, i_ltF, i_leT, i_leF, i_eqT, i_eqF, n_ltT, n_ltF, n_leT, n_leF, n_eqT, n_eqF, tn_9, tn_12, tn_14, tn_20, tn_28, tn_44, tn_52, tn_68, tn_84, tn_100, tn_116, tn_132, fu_e, up_eq, ob_0, ob_b, oi_add, oi_sub, oi_mul, oi_neg, rs_sh, rs_R, rs_N, rs_J, rs_F, rs_A, rs_o, rs_wA, rs_wF, rs_w, Int.add_zero, Int.zero_add, or_true, true_or, or_false, false_or, and_self, z_i2l, z_l2i, lo_nat, lo_add, lo_sub, lo_mul, lo_0, e_rem, mr_X10_plans, mh_X10_plans, sh, rf]
    refine rt_X10_plans_101 ?_
    simp (disch := omega) only [wp_c, wp_n, jj_n, Int.reduceToNat, Int.toNat_natCast, stE, wlE, lgt, lpu, lpw, v_c2, va_s, true_and, and_true, Option.toList, List.nil_append, List.cons_append, List.take, List.drop, List.reverse, List.reverseAux, List.length_cons, List.length_nil, reduceCtorEq, false_implies, true_implies, forall_const, not_true_eq_false, not_false_eq_true, ite_true, ite_false, Bool.false_eq_true, I_I, J_J, Nat.add_left_cancel_iff, Nat.reduceEqDiff, Nat.add_eq_left, Nat.left_eq_add, false_and, and_false, Nat.reduceSub, Nat.sub_self, Nat.le_refl, Nat.zero_le, ge_iff_le, Nat.reduceAdd, Nat.reduceLeDiff, Nat.zero_add, Nat.reduceLT, z_lt, z_le, z_eq, z_l0, z_g0, z_le0, z_ge0, z_e0, z_e1, z_vp, z_nc, z_rem, z_div, i_ltT, i_ltF, i_leT, i_leF, i_eqT, i_eqF, n_ltT, n_ltF, n_leT, n_leF, n_eqT, n_eqF, tn_9, tn_12, tn_14, tn_20, tn_28, tn_44, tn_52, tn_68, tn_84, tn_100, tn_116, tn_132, fu_e, up_eq, ob_0, ob_b, oi_add, oi_sub, oi_mul, oi_neg, rs_sh, rs_R, rs_N, rs_J, rs_F, rs_A, rs_o, rs_wA, rs_wF, rs_w, Int.add_zero, Int.zero_add, or_true, true_or, or_false, false_or, and_self, z_i2l, z_l2i, lo_nat, lo_add, lo_sub, lo_mul, lo_0, e_rem, mr_X10_plans, mh_X10_plans, sh, rf]
    exact hq w1 G hW hG (by simpa [a_pl] using hP)
  | succ f ih =>
    intro v c done w1 G y z hf hv hc hp hW hG hP hq
    obtain ⟨sh, rf⟩ := hR.fr hW
    rw [a_pl] at hq
    refine rt_X10_plans_10 ?_
    simp (disch := omega) only [wp_c, wp_n, jj_n, Int.reduceToNat, Int.toNat_natCast, stE, wlE, lgt, lpu, lpw, v_c2, va_s, true_and, and_true, Option.toList, List.nil_append, List.cons_append, List.take, List.drop, List.reverse, List.reverseAux, List.length_cons, List.length_nil, reduceCtorEq, false_implies, true_implies, forall_const, not_true_eq_false, not_false_eq_true, ite_true, ite_false, Bool.false_eq_true, I_I, J_J, Nat.add_left_cancel_iff, Nat.reduceEqDiff, Nat.add_eq_left, Nat.left_eq_add, false_and, and_false, Nat.reduceSub, Nat.sub_self, Nat.le_refl, Nat.zero_le, ge_iff_le, Nat.reduceAdd, Nat.reduceLeDiff, Nat.zero_add, Nat.reduceLT, z_lt, z_le, z_eq, z_l0, z_g0, z_le0, z_ge0, z_e0, z_e1, z_vp, z_nc, z_rem, z_div, i_ltT, i_ltF, i_leT, i_leF, i_eqT, i_eqF, n_ltT, n_ltF, n_leT, n_leF, n_eqT, n_eqF, tn_9, tn_12, tn_14, tn_20, tn_28, tn_44, tn_52, tn_68, tn_84, tn_100, tn_116, tn_132, fu_e, up_eq, ob_0, ob_b, oi_add, oi_sub, oi_mul, oi_neg, rs_sh, rs_R, rs_N, rs_J, rs_F, rs_A, rs_o, rs_wA, rs_wF, rs_w, Int.add_zero, Int.zero_add, or_true, true_or, or_false, false_or, and_self, z_i2l, z_l2i, lo_nat, lo_add, lo_sub, lo_mul, lo_0, e_rem, mr_X10_plans, mh_X10_plans, sh, rf]
    have h19 : 0 < v + c → RT n_X10_plans 19 [.ref r, .int x, .int (Int32.ofInt s), .int (Int32.ofInt c), .int (Int32.ofInt v), y, z] [] (rs r w1 A G) (0, 0, false) Q := by
      intro hpos
      rw [if_neg (by omega)] at hq
      have h44 : ∀ c' : Int, (c' = 0 ∨ c' = 1) → c' = (if ¬ s = 0 ∧ 6 ≤ v % 10 + c then 1 else 0) → RT n_X10_plans 44 [.ref r, .int x, .int (Int32.ofInt s), .int (Int32.ofInt c), .int (Int32.ofInt v), .int (Int32.ofInt (v % 10 + c)), z] [.int (Int32.ofInt c')] (rs r w1 A G) (0, 0, false) Q := by
        intro c' hc01 hc'
        rw [← hc'] at hq
        have hnx : RT n_X10_plans 10 [.ref r, .int x, .int (Int32.ofInt s), .int (Int32.ofInt c'), .int (Int32.ofInt (v / 10)), .int (Int32.ofInt (v % 10 + c)), .int (Int32.ofInt c')] [] (rs r (s_I w1 (r + 3) done.length (Int32.ofInt (v % 10 + c - 10 * c'))) A (upd G 7 (Int32.ofInt ((done.length : Int) + 1)))) (0, 0, false) Q := by
          refine ih (v / 10) c' (done ++ [v % 10 + c - 10 * c']) _ _ _ _ (by simp; omega) (by omega) hc01 ?_ (hW.I (by simp)) (fun i hi => ?_) ⟨?_, fun i hi => ?_⟩ (fun w' F' q1 q2 q3 => ?_)
          · rcases hp with h | ⟨g, h, hg⟩
            · omega
            · have eg : g = f := by omega
              subst eg
              cases g with
              | zero =>
                refine Or.inl ⟨rfl, ?_⟩
                have h1 : v < 1 := hg
                have h2 : ¬ (¬ s = 0 ∧ 6 ≤ v % 10 + c) := by omega
                rw [if_neg h2] at hc'
                omega
              | succ g' =>
                refine Or.inr ⟨g', rfl, ?_⟩
                rw [Int.pow_succ] at hg
                omega
          · rw [fu_e, if_neg hi]; exact hG i hi
          · rw [fu_e, if_pos rfl, List.length_append]; push_cast; rfl
          · simp only [List.length_append, List.length_cons, List.length_nil] at hi
            rw [I_I]
            by_cases h : i = done.length
            · rw [if_pos ⟨rfl, h⟩, h]; simp
            · rw [if_neg (fun q => h q.2), hP.2 i (by omega)]
              congr 1
              simp [List.getD_eq_getElem?_getD, List.getElem?_append_left (show i < done.length by omega)]
          · exact hq w' F' q1 q2 (by simpa using q3)
        have h7 := hP.1
        have hdl : done.length < 8 := by omega
        clear ih hq hP hp
        refine rt_X10_plans_44 ?_
        simp (disch := omega) only [wp_c, wp_n, jj_n, Int.reduceToNat, Int.toNat_natCast, stE, wlE, lgt, lpu, lpw, v_c2, va_s, true_and, and_true, Option.toList, List.nil_append, List.cons_append, List.take, List.drop, List.reverse, List.reverseAux, List.length_cons, List.length_nil, reduceCtorEq, false_implies, true_implies, forall_const, not_true_eq_false, not_false_eq_true, ite_true, ite_false, Bool.false_eq_true, I_I, J_J, Nat.add_left_cancel_iff, Nat.reduceEqDiff, Nat.add_eq_left, Nat.left_eq_add, false_and, and_false, Nat.reduceSub, Nat.sub_self, Nat.le_refl, Nat.zero_le, ge_iff_le, Nat.reduceAdd, Nat.reduceLeDiff, Nat.zero_add, Nat.reduceLT, z_lt, z_le, z_eq, z_l0, z_g0, z_le0, z_ge0, z_e0, z_e1, z_vp, z_nc, z_rem, z_div, i_ltT, i_ltF, i_leT, i_leF, i_eqT, i_eqF, n_ltT, n_ltF, n_leT, n_leF, n_eqT, n_eqF, tn_9, tn_12, tn_14, tn_20, tn_28, tn_44, tn_52, tn_68, tn_84, tn_100, tn_116, tn_132, fu_e, up_eq, ob_0, ob_b, oi_add, oi_sub, oi_mul, oi_neg, rs_sh, rs_R, rs_N, rs_J, rs_F, rs_A, rs_o, rs_wA, rs_wF, rs_w, Int.add_zero, Int.zero_add, or_true, true_or, or_false, false_or, and_self, z_i2l, z_l2i, lo_nat, lo_add, lo_sub, lo_mul, lo_0, e_rem, mr_X10_plans, mh_X10_plans, sh, rf, h7]
        rcases hc01 with rfl | rfl
        · simp only [Int.mul_zero, Int.sub_zero] at hnx
          repeat' (first | (with_reducible refine And.intro ?_ ?_) | (with_reducible intro _) | ((first | refine rt_X10_plans_19 ?_ | refine rt_X10_plans_43 ?_ | refine rt_X10_plans_44 ?_ | refine rt_X10_plans_67 ?_ | refine rt_X10_plans_69 ?_ | refine rt_X10_plans_79 ?_ | refine rt_X10_plans_80 ?_ | refine rt_X10_plans_101 ?_); simp (disch := omega) only [wp_c, wp_n, jj_n, Int.reduceToNat, Int.toNat_natCast, stE, wlE, lgt, lpu, lpw, v_c2, va_s, true_and, and_true, Option.toList, List.nil_append, List.cons_append, List.take, List.drop, List.reverse, List.reverseAux, List.length_cons, List.length_nil, reduceCtorEq, false_implies, true_implies, forall_const, not_true_eq_false, not_false_eq_true, ite_true, ite_false, Bool.false_eq_true, I_I, J_J, Nat.add_left_cancel_iff, Nat.reduceEqDiff, Nat.add_eq_left, Nat.left_eq_add, false_and, and_false, Nat.reduceSub, Nat.sub_self, Nat.le_refl, Nat.zero_le, ge_iff_le, Nat.reduceAdd, Nat.reduceLeDiff, Nat.zero_add, Nat.reduceLT, z_lt, z_le, z_eq, z_l0, z_g0, z_le0, z_ge0, z_e0, z_e1, z_vp, z_nc, z_rem, z_div, i_ltT, i_ltF, i_leT, i_leF, i_eqT, i_eqF, n_ltT, n_ltF, n_leT, n_leF, n_eqT, n_eqF, tn_9, tn_12, tn_14, tn_20, tn_28, tn_44, tn_52, tn_68, tn_84, tn_100, tn_116, tn_132, fu_e, up_eq, ob_0, ob_b, oi_add, oi_sub, oi_mul, oi_neg, rs_sh, rs_R, rs_N, rs_J, rs_F, rs_A, rs_o, rs_wA, rs_wF, rs_w, Int.add_zero, Int.zero_add, or_true, true_or, or_false, false_or, and_self, z_i2l, z_l2i, lo_nat, lo_add, lo_sub, lo_mul, lo_0, e_rem, mr_X10_plans, mh_X10_plans, sh, rf, h7]))
          all_goals first | (exfalso; omega) | exact hnx
        · simp only [Int.mul_one] at hnx
          repeat' (first | (with_reducible refine And.intro ?_ ?_) | (with_reducible intro _) | ((first | refine rt_X10_plans_19 ?_ | refine rt_X10_plans_43 ?_ | refine rt_X10_plans_44 ?_ | refine rt_X10_plans_67 ?_ | refine rt_X10_plans_69 ?_ | refine rt_X10_plans_79 ?_ | refine rt_X10_plans_80 ?_ | refine rt_X10_plans_101 ?_); simp (disch := omega) only [wp_c, wp_n, jj_n, Int.reduceToNat, Int.toNat_natCast, stE, wlE, lgt, lpu, lpw, v_c2, va_s, true_and, and_true, Option.toList, List.nil_append, List.cons_append, List.take, List.drop, List.reverse, List.reverseAux, List.length_cons, List.length_nil, reduceCtorEq, false_implies, true_implies, forall_const, not_true_eq_false, not_false_eq_true, ite_true, ite_false, Bool.false_eq_true, I_I, J_J, Nat.add_left_cancel_iff, Nat.reduceEqDiff, Nat.add_eq_left, Nat.left_eq_add, false_and, and_false, Nat.reduceSub, Nat.sub_self, Nat.le_refl, Nat.zero_le, ge_iff_le, Nat.reduceAdd, Nat.reduceLeDiff, Nat.zero_add, Nat.reduceLT, z_lt, z_le, z_eq, z_l0, z_g0, z_le0, z_ge0, z_e0, z_e1, z_vp, z_nc, z_rem, z_div, i_ltT, i_ltF, i_leT, i_leF, i_eqT, i_eqF, n_ltT, n_ltF, n_leT, n_leF, n_eqT, n_eqF, tn_9, tn_12, tn_14, tn_20, tn_28, tn_44, tn_52, tn_68, tn_84, tn_100, tn_116, tn_132, fu_e, up_eq, ob_0, ob_b, oi_add, oi_sub, oi_mul, oi_neg, rs_sh, rs_R, rs_N, rs_J, rs_F, rs_A, rs_o, rs_wA, rs_wF, rs_w, Int.add_zero, Int.zero_add, or_true, true_or, or_false, false_or, and_self, z_i2l, z_l2i, lo_nat, lo_add, lo_sub, lo_mul, lo_0, e_rem, mr_X10_plans, mh_X10_plans, sh, rf, h7]))
          all_goals first | (exfalso; omega) | exact hnx
      clear hq ih
      refine rt_X10_plans_19 ?_
      simp (disch := omega) only [wp_c, wp_n, jj_n, Int.reduceToNat, Int.toNat_natCast, stE, wlE, lgt, lpu, lpw, v_c2, va_s, true_and, and_true, Option.toList, List.nil_append, List.cons_append, List.take, List.drop, List.reverse, List.reverseAux, List.length_cons, List.length_nil, reduceCtorEq, false_implies, true_implies, forall_const, not_true_eq_false, not_false_eq_true, ite_true, ite_false, Bool.false_eq_true, I_I, J_J, Nat.add_left_cancel_iff, Nat.reduceEqDiff, Nat.add_eq_left, Nat.left_eq_add, false_and, and_false, Nat.reduceSub, Nat.sub_self, Nat.le_refl, Nat.zero_le, ge_iff_le, Nat.reduceAdd, Nat.reduceLeDiff, Nat.zero_add, Nat.reduceLT, z_lt, z_le, z_eq, z_l0, z_g0, z_le0, z_ge0, z_e0, z_e1, z_vp, z_nc, z_rem, z_div, i_ltT, i_ltF, i_leT, i_leF, i_eqT, i_eqF, n_ltT, n_ltF, n_leT, n_leF, n_eqT, n_eqF, tn_9, tn_12, tn_14, tn_20, tn_28, tn_44, tn_52, tn_68, tn_84, tn_100, tn_116, tn_132, fu_e, up_eq, ob_0, ob_b, oi_add, oi_sub, oi_mul, oi_neg, rs_sh, rs_R, rs_N, rs_J, rs_F, rs_A, rs_o, rs_wA, rs_wF, rs_w, Int.add_zero, Int.zero_add, or_true, true_or, or_false, false_or, and_self, z_i2l, z_l2i, lo_nat, lo_add, lo_sub, lo_mul, lo_0, e_rem, mr_X10_plans, mh_X10_plans, sh, rf]
      have h43 : ¬ (¬ s = 0 ∧ 6 ≤ v % 10 + c) → RT n_X10_plans 43 [.ref r, .int x, .int (Int32.ofInt s), .int (Int32.ofInt c), .int (Int32.ofInt v), .int (Int32.ofInt (v % 10 + c)), z] [] (rs r w1 A G) (0, 0, false) Q := by
        intro h
        refine rt_X10_plans_43 ?_
        simp (disch := omega) only [wp_c, wp_n, jj_n, Int.reduceToNat, Int.toNat_natCast, stE, wlE, lgt, lpu, lpw, v_c2, va_s, true_and, and_true, Option.toList, List.nil_append, List.cons_append, List.take, List.drop, List.reverse, List.reverseAux, List.length_cons, List.length_nil, reduceCtorEq, false_implies, true_implies, forall_const, not_true_eq_false, not_false_eq_true, ite_true, ite_false, Bool.false_eq_true, I_I, J_J, Nat.add_left_cancel_iff, Nat.reduceEqDiff, Nat.add_eq_left, Nat.left_eq_add, false_and, and_false, Nat.reduceSub, Nat.sub_self, Nat.le_refl, Nat.zero_le, ge_iff_le, Nat.reduceAdd, Nat.reduceLeDiff, Nat.zero_add, Nat.reduceLT, z_lt, z_le, z_eq, z_l0, z_g0, z_le0, z_ge0, z_e0, z_e1, z_vp, z_nc, z_rem, z_div, i_ltT, i_ltF, i_leT, i_leF, i_eqT, i_eqF, n_ltT, n_ltF, n_leT, n_leF, n_eqT, n_eqF, tn_9, tn_12, tn_14, tn_20, tn_28, tn_44, tn_52, tn_68, tn_84, tn_100, tn_116, tn_132, fu_e, up_eq, ob_0, ob_b, oi_add, oi_sub, oi_mul, oi_neg, rs_sh, rs_R, rs_N, rs_J, rs_F, rs_A, rs_o, rs_wA, rs_wF, rs_w, Int.add_zero, Int.zero_add, or_true, true_or, or_false, false_or, and_self, z_i2l, z_l2i, lo_nat, lo_add, lo_sub, lo_mul, lo_0, e_rem, mr_X10_plans, mh_X10_plans]
        exact h44 0 (Or.inl rfl) (by rw [if_neg h])
      refine ⟨fun h => h43 (by omega), fun h => ⟨fun h' => h43 (by omega), fun h' => h44 1 (Or.inr rfl) (by rw [if_pos (by omega)])⟩⟩
    clear hp
    refine ⟨fun h => h19 (by omega), fun h => ⟨fun h' => ?_, fun h' => h19 (by omega)⟩⟩
    rw [if_pos (by omega)] at hq
    refine rt_X10_plans_101 ?_
    simp (disch := omega) only [wp_c, wp_n, jj_n, Int.reduceToNat, Int.toNat_natCast, stE, wlE, lgt, lpu, lpw, v_c2, va_s, true_and, and_true, Option.toList, List.nil_append, List.cons_append, List.take, List.drop, List.reverse, List.reverseAux, List.length_cons, List.length_nil, reduceCtorEq, false_implies, true_implies, forall_const, not_true_eq_false, not_false_eq_true, ite_true, ite_false, Bool.false_eq_true, I_I, J_J, Nat.add_left_cancel_iff, Nat.reduceEqDiff, Nat.add_eq_left, Nat.left_eq_add, false_and, and_false, Nat.reduceSub, Nat.sub_self, Nat.le_refl, Nat.zero_le, ge_iff_le, Nat.reduceAdd, Nat.reduceLeDiff, Nat.zero_add, Nat.reduceLT, z_lt, z_le, z_eq, z_l0, z_g0, z_le0, z_ge0, z_e0, z_e1, z_vp, z_nc, z_rem, z_div, i_ltT, i_ltF, i_leT, i_leF, i_eqT, i_eqF, n_ltT, n_ltF, n_leT, n_leF, n_eqT, n_eqF, tn_9, tn_12, tn_14, tn_20, tn_28, tn_44, tn_52, tn_68, tn_84, tn_100, tn_116, tn_132, fu_e, up_eq, ob_0, ob_b, oi_add, oi_sub, oi_mul, oi_neg, rs_sh, rs_R, rs_N, rs_J, rs_F, rs_A, rs_o, rs_wA, rs_wF, rs_w, Int.add_zero, Int.zero_add, or_true, true_or, or_false, false_or, and_self, z_i2l, z_l2i, lo_nat, lo_add, lo_sub, lo_mul, lo_0, e_rem, mr_X10_plans, mh_X10_plans, sh, rf]
    exact hq w1 G hW hG (by simpa using hP)
theorem c_plans {r : Nat} {v s : Int} {w : mW} {A : Row} {F : Nat → Int32} {Q : mW → mO → Prop} (hR : Rb w r) (hs : s = 0 ∨ s = 1) (hv : 0 ≤ v ∧ v ≤ 999999) (hq : ∀ w' F', Fr [r + 3] w w' → (∀ i, i ≠ 7 → F' i = F i) → RPL w' r F' (a_pl 7 v 0 s) → Q (rs r w' A F') (.inl none)) : CT n_X10_plans [.ref r, .int (Int32.ofInt v), .int (Int32.ofInt s)] (rs r w A F) Q := by
  have hR0 := hR
  obtain ⟨sh, rf⟩ := hR
  refine ct_X10_plans (rt_X10_plans_0 ?_)
  simp (disch := omega) only [wp_c, wp_n, jj_n, Int.reduceToNat, Int.toNat_natCast, stE, wlE, lgt, lpu, lpw, v_c2, va_s, true_and, and_true, Option.toList, List.nil_append, List.cons_append, List.take, List.drop, List.reverse, List.reverseAux, List.length_cons, List.length_nil, reduceCtorEq, false_implies, true_implies, forall_const, not_true_eq_false, not_false_eq_true, ite_true, ite_false, Bool.false_eq_true, I_I, J_J, Nat.add_left_cancel_iff, Nat.reduceEqDiff, Nat.add_eq_left, Nat.left_eq_add, false_and, and_false, Nat.reduceSub, Nat.sub_self, Nat.le_refl, Nat.zero_le, ge_iff_le, Nat.reduceAdd, Nat.reduceLeDiff, Nat.zero_add, Nat.reduceLT, z_lt, z_le, z_eq, z_l0, z_g0, z_le0, z_ge0, z_e0, z_e1, z_vp, z_nc, z_rem, z_div, i_ltT, i_ltF, i_leT, i_leF, i_eqT, i_eqF, n_ltT, n_ltF, n_leT, n_leF, n_eqT, n_eqF, tn_9, tn_12, tn_14, tn_20, tn_28, tn_44, tn_52, tn_68, tn_84, tn_100, tn_116, tn_132, fu_e, up_eq, ob_0, ob_b, oi_add, oi_sub, oi_mul, oi_neg, rs_sh, rs_R, rs_N, rs_J, rs_F, rs_A, rs_o, rs_wA, rs_wF, rs_w, Int.add_zero, Int.zero_add, or_true, true_or, or_false, false_or, and_self, z_i2l, z_l2i, lo_nat, lo_add, lo_sub, lo_mul, lo_0, e_rem, mr_X10_plans, mh_X10_plans, sh, rf]
  refine c_plans_10 hR0 hs 7 v 0 [] w _ _ _ rfl hv (Or.inl rfl) (Or.inr ⟨6, rfl, (by have h6 : (10 : Int) ^ 6 = 1000000 := (by decide); omega)⟩) (Fr.refl _ _) (fun i hi => by rw [fu_e, if_neg hi]) ⟨rfl, fun i hi => absurd hi (by simp)⟩ (fun w' F' q1 q2 q3 => ?_)
  exact hq w' F' q1 q2 (by simpa using q3)
theorem c_plTurns_4 {r : Nat} {l : List Int} {w : mW} {A : Row} {F : Nat → Int32} {Q : mW → mO → Prop} (hl : l.length ≤ 7) (hR : Rb w r) (hP : RPL w r F l) (hr : ∀ i, -1000 ≤ l.getD i 0 ∧ l.getD i 0 ≤ 1000) (hq : Q (rs r w A F) (.inl (some (.int (Int32.ofInt (a_tt l l.length)))))) : ∀ (n j : Nat), j + n = l.length → RT n_X10_plannedTurns 4 [.ref r, .int (Int32.ofInt (a_tt l j)), .int (Int32.ofInt j)] [] (rs r w A F) (0, 0, false) Q := by
  obtain ⟨sh, rf⟩ := hR
  have h7 := hP.1
  intro n
  induction n with
  | zero =>
    intro j hn
    have e : j = l.length := by omega
    refine rt_X10_plannedTurns_4 ?_
    simp (disch := omega) only [wp_c, wp_n, jj_n, Int.reduceToNat, Int.toNat_natCast, stE, wlE, lgt, lpu, lpw, v_c2, va_s, true_and, and_true, Option.toList, List.nil_append, List.cons_append, List.take, List.drop, List.reverse, List.reverseAux, List.length_cons, List.length_nil, reduceCtorEq, false_implies, true_implies, forall_const, not_true_eq_false, not_false_eq_true, ite_true, ite_false, Bool.false_eq_true, I_I, J_J, Nat.add_left_cancel_iff, Nat.reduceEqDiff, Nat.add_eq_left, Nat.left_eq_add, false_and, and_false, Nat.reduceSub, Nat.sub_self, Nat.le_refl, Nat.zero_le, ge_iff_le, Nat.reduceAdd, Nat.reduceLeDiff, Nat.zero_add, Nat.reduceLT, z_lt, z_le, z_eq, z_l0, z_g0, z_le0, z_ge0, z_e0, z_e1, z_vp, z_nc, z_rem, z_div, i_ltT, i_ltF, i_leT, i_leF, i_eqT, i_eqF, n_ltT, n_ltF, n_leT, n_leF, n_eqT, n_eqF, tn_9, tn_12, tn_14, tn_20, tn_28, tn_44, tn_52, tn_68, tn_84, tn_100, tn_116, tn_132, fu_e, up_eq, ob_0, ob_b, oi_add, oi_sub, oi_mul, oi_neg, rs_sh, rs_R, rs_N, rs_J, rs_F, rs_A, rs_o, rs_wA, rs_wF, rs_w, Int.add_zero, Int.zero_add, or_true, true_or, or_false, false_or, and_self, z_i2l, z_l2i, lo_nat, lo_add, lo_sub, lo_mul, lo_0, e_rem, mr_X10_plannedTurns, mh_X10_plannedTurns, sh, rf, h7]
    refine rt_X10_plannedTurns_46 ?_
    simp (disch := omega) only [wp_c, wp_n, jj_n, Int.reduceToNat, Int.toNat_natCast, stE, wlE, lgt, lpu, lpw, v_c2, va_s, true_and, and_true, Option.toList, List.nil_append, List.cons_append, List.take, List.drop, List.reverse, List.reverseAux, List.length_cons, List.length_nil, reduceCtorEq, false_implies, true_implies, forall_const, not_true_eq_false, not_false_eq_true, ite_true, ite_false, Bool.false_eq_true, I_I, J_J, Nat.add_left_cancel_iff, Nat.reduceEqDiff, Nat.add_eq_left, Nat.left_eq_add, false_and, and_false, Nat.reduceSub, Nat.sub_self, Nat.le_refl, Nat.zero_le, ge_iff_le, Nat.reduceAdd, Nat.reduceLeDiff, Nat.zero_add, Nat.reduceLT, z_lt, z_le, z_eq, z_l0, z_g0, z_le0, z_ge0, z_e0, z_e1, z_vp, z_nc, z_rem, z_div, i_ltT, i_ltF, i_leT, i_leF, i_eqT, i_eqF, n_ltT, n_ltF, n_leT, n_leF, n_eqT, n_eqF, tn_9, tn_12, tn_14, tn_20, tn_28, tn_44, tn_52, tn_68, tn_84, tn_100, tn_116, tn_132, fu_e, up_eq, ob_0, ob_b, oi_add, oi_sub, oi_mul, oi_neg, rs_sh, rs_R, rs_N, rs_J, rs_F, rs_A, rs_o, rs_wA, rs_wF, rs_w, Int.add_zero, Int.zero_add, or_true, true_or, or_false, false_or, and_self, z_i2l, z_l2i, lo_nat, lo_add, lo_sub, lo_mul, lo_0, e_rem, mr_X10_plannedTurns, mh_X10_plannedTurns, sh, rf, h7]
    rw [e]; exact hq
  | succ n ih =>
    intro j hn
    have hj := hP.2 j (by omega)
    have hrj := hr j
    have := ih (j + 1) (by omega)
    rw [a_tt] at this
    clear ih
    refine rt_X10_plannedTurns_4 ?_
    simp (disch := omega) only [wp_c, wp_n, jj_n, Int.reduceToNat, Int.toNat_natCast, stE, wlE, lgt, lpu, lpw, v_c2, va_s, true_and, and_true, Option.toList, List.nil_append, List.cons_append, List.take, List.drop, List.reverse, List.reverseAux, List.length_cons, List.length_nil, reduceCtorEq, false_implies, true_implies, forall_const, not_true_eq_false, not_false_eq_true, ite_true, ite_false, Bool.false_eq_true, I_I, J_J, Nat.add_left_cancel_iff, Nat.reduceEqDiff, Nat.add_eq_left, Nat.left_eq_add, false_and, and_false, Nat.reduceSub, Nat.sub_self, Nat.le_refl, Nat.zero_le, ge_iff_le, Nat.reduceAdd, Nat.reduceLeDiff, Nat.zero_add, Nat.reduceLT, z_lt, z_le, z_eq, z_l0, z_g0, z_le0, z_ge0, z_e0, z_e1, z_vp, z_nc, z_rem, z_div, i_ltT, i_ltF, i_leT, i_leF, i_eqT, i_eqF, n_ltT, n_ltF, n_leT, n_leF, n_eqT, n_eqF, tn_9, tn_12, tn_14, tn_20, tn_28, tn_44, tn_52, tn_68, tn_84, tn_100, tn_116, tn_132, fu_e, up_eq, ob_0, ob_b, oi_add, oi_sub, oi_mul, oi_neg, rs_sh, rs_R, rs_N, rs_J, rs_F, rs_A, rs_o, rs_wA, rs_wF, rs_w, Int.add_zero, Int.zero_add, or_true, true_or, or_false, false_or, and_self, z_i2l, z_l2i, lo_nat, lo_add, lo_sub, lo_mul, lo_0, e_rem, mr_X10_plannedTurns, mh_X10_plannedTurns, sh, rf, h7, hj]
    repeat' (first | (with_reducible refine And.intro ?_ ?_) | (with_reducible intro _) | ((first | refine rt_X10_plannedTurns_32 ?_ | refine rt_X10_plannedTurns_38 ?_ | refine rt_X10_plannedTurns_46 ?_); simp (disch := omega) only [wp_c, wp_n, jj_n, Int.reduceToNat, Int.toNat_natCast, stE, wlE, lgt, lpu, lpw, v_c2, va_s, true_and, and_true, Option.toList, List.nil_append, List.cons_append, List.take, List.drop, List.reverse, List.reverseAux, List.length_cons, List.length_nil, reduceCtorEq, false_implies, true_implies, forall_const, not_true_eq_false, not_false_eq_true, ite_true, ite_false, Bool.false_eq_true, I_I, J_J, Nat.add_left_cancel_iff, Nat.reduceEqDiff, Nat.add_eq_left, Nat.left_eq_add, false_and, and_false, Nat.reduceSub, Nat.sub_self, Nat.le_refl, Nat.zero_le, ge_iff_le, Nat.reduceAdd, Nat.reduceLeDiff, Nat.zero_add, Nat.reduceLT, z_lt, z_le, z_eq, z_l0, z_g0, z_le0, z_ge0, z_e0, z_e1, z_vp, z_nc, z_rem, z_div, i_ltT, i_ltF, i_leT, i_leF, i_eqT, i_eqF, n_ltT, n_ltF, n_leT, n_leF, n_eqT, n_eqF, tn_9, tn_12, tn_14, tn_20, tn_28, tn_44, tn_52, tn_68, tn_84, tn_100, tn_116, tn_132, fu_e, up_eq, ob_0, ob_b, oi_add, oi_sub, oi_mul, oi_neg, rs_sh, rs_R, rs_N, rs_J, rs_F, rs_A, rs_o, rs_wA, rs_wF, rs_w, Int.add_zero, Int.zero_add, or_true, true_or, or_false, false_or, and_self, z_i2l, z_l2i, lo_nat, lo_add, lo_sub, lo_mul, lo_0, e_rem, mr_X10_plannedTurns, mh_X10_plannedTurns, sh, rf, h7, hj]))
    · rw [if_neg (by omega)] at this; exact this
    · rw [if_pos (by omega)] at this; exact this
theorem c_plTurns {r : Nat} {l : List Int} {w : mW} {A : Row} {F : Nat → Int32} {Q : mW → mO → Prop} (hl : l.length ≤ 7) (hR : Rb w r) (hP : RPL w r F l) (hr : ∀ i, -1000 ≤ l.getD i 0 ∧ l.getD i 0 ≤ 1000) (hq : Q (rs r w A F) (.inl (some (.int (Int32.ofInt (a_tt l l.length)))))) : CT n_X10_plannedTurns [.ref r] (rs r w A F) Q := by
  refine ct_X10_plannedTurns (rt_X10_plannedTurns_0 ?_)
  simp (disch := omega) only [wp_c, wp_n, jj_n, Int.reduceToNat, Int.toNat_natCast, stE, wlE, lgt, lpu, lpw, v_c2, va_s, true_and, and_true, Option.toList, List.nil_append, List.cons_append, List.take, List.drop, List.reverse, List.reverseAux, List.length_cons, List.length_nil, reduceCtorEq, false_implies, true_implies, forall_const, not_true_eq_false, not_false_eq_true, ite_true, ite_false, Bool.false_eq_true, I_I, J_J, Nat.add_left_cancel_iff, Nat.reduceEqDiff, Nat.add_eq_left, Nat.left_eq_add, false_and, and_false, Nat.reduceSub, Nat.sub_self, Nat.le_refl, Nat.zero_le, ge_iff_le, Nat.reduceAdd, Nat.reduceLeDiff, Nat.zero_add, Nat.reduceLT, z_lt, z_le, z_eq, z_l0, z_g0, z_le0, z_ge0, z_e0, z_e1, z_vp, z_nc, z_rem, z_div, i_ltT, i_ltF, i_leT, i_leF, i_eqT, i_eqF, n_ltT, n_ltF, n_leT, n_leF, n_eqT, n_eqF, tn_9, tn_12, tn_14, tn_20, tn_28, tn_44, tn_52, tn_68, tn_84, tn_100, tn_116, tn_132, fu_e, up_eq, ob_0, ob_b, oi_add, oi_sub, oi_mul, oi_neg, rs_sh, rs_R, rs_N, rs_J, rs_F, rs_A, rs_o, rs_wA, rs_wF, rs_w, Int.add_zero, Int.zero_add, or_true, true_or, or_false, false_or, and_self, z_i2l, z_l2i, lo_nat, lo_add, lo_sub, lo_mul, lo_0, e_rem, mr_X10_plannedTurns, mh_X10_plannedTurns]
  exact c_plTurns_4 hl hR hP hr hq l.length 0 (by omega)
theorem c_canPlan {r : Nat} {l : List Int} {w : mW} {A : Row} {F : Nat → Int32} {Q : mW → mO → Prop} (hl : l.length ≤ 7) (hR : Rb w r) (hP : RPL w r F l) (hz : 0 ≤ A 0 ∧ A 0 ≤ A 1 ∧ A 1 ≤ 16) (hq : Q (rs r w A F) (.inl (some (.int (Int32.ofInt (if (l.length : Int) - 1 ≤ A 1 - A 0 then 1 else 0)))))) : CT n_X10_canPlan [.ref r] (rs r w A F) Q := by
  have hR0 := hR
  obtain ⟨sh, rf⟩ := hR
  have h7 := hP.1
  refine ct_X10_canPlan (rt_X10_canPlan_0 ?_)
  simp (disch := omega) only [wp_c, wp_n, jj_n, Int.reduceToNat, Int.toNat_natCast, stE, wlE, lgt, lpu, lpw, v_c2, va_s, true_and, and_true, Option.toList, List.nil_append, List.cons_append, List.take, List.drop, List.reverse, List.reverseAux, List.length_cons, List.length_nil, reduceCtorEq, false_implies, true_implies, forall_const, not_true_eq_false, not_false_eq_true, ite_true, ite_false, Bool.false_eq_true, I_I, J_J, Nat.add_left_cancel_iff, Nat.reduceEqDiff, Nat.add_eq_left, Nat.left_eq_add, false_and, and_false, Nat.reduceSub, Nat.sub_self, Nat.le_refl, Nat.zero_le, ge_iff_le, Nat.reduceAdd, Nat.reduceLeDiff, Nat.zero_add, Nat.reduceLT, z_lt, z_le, z_eq, z_l0, z_g0, z_le0, z_ge0, z_e0, z_e1, z_vp, z_nc, z_rem, z_div, i_ltT, i_ltF, i_leT, i_leF, i_eqT, i_eqF, n_ltT, n_ltF, n_leT, n_leF, n_eqT, n_eqF, tn_9, tn_12, tn_14, tn_20, tn_28, tn_44, tn_52, tn_68, tn_84, tn_100, tn_116, tn_132, fu_e, up_eq, ob_0, ob_b, oi_add, oi_sub, oi_mul, oi_neg, rs_sh, rs_R, rs_N, rs_J, rs_F, rs_A, rs_o, rs_wA, rs_wF, rs_w, Int.add_zero, Int.zero_add, or_true, true_or, or_false, false_or, and_self, z_i2l, z_l2i, lo_nat, lo_add, lo_sub, lo_mul, lo_0, e_rem, mr_X10_canPlan, mh_X10_canPlan, sh, rf, h7]
  refine c_top hR0 ?_
  simp (disch := omega) only [wp_c, wp_n, jj_n, Int.reduceToNat, Int.toNat_natCast, stE, wlE, lgt, lpu, lpw, v_c2, va_s, true_and, and_true, Option.toList, List.nil_append, List.cons_append, List.take, List.drop, List.reverse, List.reverseAux, List.length_cons, List.length_nil, reduceCtorEq, false_implies, true_implies, forall_const, not_true_eq_false, not_false_eq_true, ite_true, ite_false, Bool.false_eq_true, I_I, J_J, Nat.add_left_cancel_iff, Nat.reduceEqDiff, Nat.add_eq_left, Nat.left_eq_add, false_and, and_false, Nat.reduceSub, Nat.sub_self, Nat.le_refl, Nat.zero_le, ge_iff_le, Nat.reduceAdd, Nat.reduceLeDiff, Nat.zero_add, Nat.reduceLT, z_lt, z_le, z_eq, z_l0, z_g0, z_le0, z_ge0, z_e0, z_e1, z_vp, z_nc, z_rem, z_div, i_ltT, i_ltF, i_leT, i_leF, i_eqT, i_eqF, n_ltT, n_ltF, n_leT, n_leF, n_eqT, n_eqF, tn_9, tn_12, tn_14, tn_20, tn_28, tn_44, tn_52, tn_68, tn_84, tn_100, tn_116, tn_132, fu_e, up_eq, ob_0, ob_b, oi_add, oi_sub, oi_mul, oi_neg, rs_sh, rs_R, rs_N, rs_J, rs_F, rs_A, rs_o, rs_wA, rs_wF, rs_w, Int.add_zero, Int.zero_add, or_true, true_or, or_false, false_or, and_self, z_i2l, z_l2i, lo_nat, lo_add, lo_sub, lo_mul, lo_0, e_rem, mr_X10_canPlan, mh_X10_canPlan, sh, rf, h7]
  repeat' (first | (with_reducible refine And.intro ?_ ?_) | (with_reducible intro _) | ((first | refine rt_X10_canPlan_17 ?_ | refine rt_X10_canPlan_18 ?_); simp (disch := omega) only [wp_c, wp_n, jj_n, Int.reduceToNat, Int.toNat_natCast, stE, wlE, lgt, lpu, lpw, v_c2, va_s, true_and, and_true, Option.toList, List.nil_append, List.cons_append, List.take, List.drop, List.reverse, List.reverseAux, List.length_cons, List.length_nil, reduceCtorEq, false_implies, true_implies, forall_const, not_true_eq_false, not_false_eq_true, ite_true, ite_false, Bool.false_eq_true, I_I, J_J, Nat.add_left_cancel_iff, Nat.reduceEqDiff, Nat.add_eq_left, Nat.left_eq_add, false_and, and_false, Nat.reduceSub, Nat.sub_self, Nat.le_refl, Nat.zero_le, ge_iff_le, Nat.reduceAdd, Nat.reduceLeDiff, Nat.zero_add, Nat.reduceLT, z_lt, z_le, z_eq, z_l0, z_g0, z_le0, z_ge0, z_e0, z_e1, z_vp, z_nc, z_rem, z_div, i_ltT, i_ltF, i_leT, i_leF, i_eqT, i_eqF, n_ltT, n_ltF, n_leT, n_leF, n_eqT, n_eqF, tn_9, tn_12, tn_14, tn_20, tn_28, tn_44, tn_52, tn_68, tn_84, tn_100, tn_116, tn_132, fu_e, up_eq, ob_0, ob_b, oi_add, oi_sub, oi_mul, oi_neg, rs_sh, rs_R, rs_N, rs_J, rs_F, rs_A, rs_o, rs_wA, rs_wF, rs_w, Int.add_zero, Int.zero_add, or_true, true_or, or_false, false_or, and_self, z_i2l, z_l2i, lo_nat, lo_add, lo_sub, lo_mul, lo_0, e_rem, mr_X10_canPlan, mh_X10_canPlan, sh, rf, h7]))
  all_goals first | (rw [if_pos (by omega)] at hq; exact hq) | (rw [if_neg (by omega)] at hq; exact hq)
/-- multiplying, on rows -/
def a_mul : List Int → Nat → Row → Nat → Row × Nat
  | [], _, A, t => (A, t)
  | x :: l, k, A, t => if 0 < (a_many x.natAbs (up A 4 k) (if x < 0 then -1 else 1)).1 5 then ((a_many x.natAbs (up A 4 k) (if x < 0 then -1 else 1)).1, t + (a_many x.natAbs (up A 4 k) (if x < 0 then -1 else 1)).2) else a_mul l (k + 1) (a_many x.natAbs (up A 4 k) (if x < 0 then -1 else 1)).1 (t + (a_many x.natAbs (up A 4 k) (if x < 0 then -1 else 1)).2)
theorem go_p {A : Row} {part pl : Nat} {c l : Int32} : match (a_go A part pl c l).2.1 with | none => True | some (p, _) => p ≤ 1 := by
  have key : ∀ (B : Row) (wh : Nat) (r : Row × Option (Nat × Nat) × Int32), (r = match a_lev ((A 1).toNat - wh) B wh c l with | (B', none, l') => (a_endC B', none, l') | (B', some k, l') => (B', some (1, k), l')) → match r.2.1 with | none => True | some (p, _) => p ≤ 1 := by
    intro B wh r hr
    generalize a_lev ((A 1).toNat - wh) B wh c l = z at hr
    obtain ⟨B', ok, l'⟩ := z
    cases ok with
    | none => subst hr; trivial
    | some k => subst hr; exact Nat.le_refl _
  by_cases hp0 : part = 0
  · simp only [a_go, if_pos hp0]
    generalize a_pins ((A 0).toNat - pl) A pl = z
    obtain ⟨B, ok⟩ := z
    cases ok with
    | none => exact key B _ _ rfl
    | some k => exact Nat.zero_le _
  · simp only [a_go, if_neg hp0]
    exact key A _ _ rfl
theorem one_52 {A : Row} {way : Int} (hJ : TJ A) (hw : way = 1 ∨ way = -1) (h18 : 0 ≤ A 18) : 0 ≤ a_fin (a_one A way) 5 ∧ a_fin (a_one A way) 5 ≤ 2 := by
  have hI := beg_TI (way := way) hJ.1 hw
  have h0 := hI.1
  have f4 := (fin_k (A := a_beg A way) (c := Int32.ofInt 0) (l := Int32.ofInt 0) (part := 0) (pl := 0) hI (Or.inl ⟨rfl, by omega⟩) (by rw [beg_k _ _ _ (by omega)]; exact h18) (fun j hj => by rw [beg_k _ _ _ (by omega)]; exact hJ.2 j hj)).2.2.2
  have f5 := go_p (A := a_beg A way) (part := 0) (pl := 0) (c := Int32.ofInt 0) (l := Int32.ofInt 0)
  unfold a_one
  generalize a_go (a_beg A way) 0 0 (Int32.ofInt 0) (Int32.ofInt 0) = r at f4 f5 ⊢
  obtain ⟨B, ok, l⟩ := r
  cases ok with
  | none => simp only at f4 ⊢; omega
  | some x => obtain ⟨p, k⟩ := x; simp only at f4 f5 ⊢; rw [f4]; omega
theorem many_RI {way : Int} (hw : way = 1 ∨ way = -1) : ∀ (n : Nat) (A : Row), RI A → RI (a_many n A way).1 ∧ (∀ j, j < 5 → (a_many n A way).1 j = A j) ∧ (a_many n A way).1 8 = A 8 := by
  intro n
  induction n with
  | zero => intro A h; exact ⟨h, fun _ _ => rfl, rfl⟩
  | succ n ih =>
    intro A h
    have h1 := one_RI h hw
    have h2 := one_sz h.1 hw h.2.2.1
    have h3 := (one_TJ h.1 hw h.2.2.1).2.1
    rw [a_many]
    cases ho : (a_one A way).2.1 with
    | none =>
      obtain ⟨g1, g2, g3⟩ := ih _ h1
      exact ⟨g1, fun j hj => (g2 j hj).trans (h2 j hj), g3.trans h3⟩
    | some y => exact ⟨h1, h2, h3⟩
theorem many_5 {way : Int} (hw : way = 1 ∨ way = -1) : ∀ (n : Nat) (A : Row), RI A → A 5 = 0 → (0 ≤ (a_many n A way).1 5 ∧ (a_many n A way).1 5 ≤ 2) ∧ ((a_many n A way).1 5 = 0 ↔ (a_many n A way).2 = n) ∧ (a_many n A way).2 ≤ n := by
  intro n
  induction n with
  | zero => intro A h h5; exact ⟨by show 0 ≤ A 5 ∧ A 5 ≤ 2; omega, ⟨fun _ => rfl, fun _ => h5⟩, Nat.le_refl _⟩
  | succ n ih =>
    intro A h h5
    have h1 := one_RI h hw
    have h2 := one_5 h.1 hw h.2.2.1
    have h22 := one_52 h.1 hw h.2.2.1
    rw [a_many]
    cases ho : (a_one A way).2.1 with
    | none =>
      rw [ho] at h2
      obtain ⟨g1, g2, g3⟩ := ih _ h1 h2
      refine ⟨g1, ?_, by show _ + 1 ≤ n + 1; omega⟩
      show _ ↔ _ + 1 = n + 1
      rw [g2]; omega
    | some y =>
      rw [ho] at h2
      simp only at h2
      refine ⟨h22, ?_, by show 0 ≤ n + 1; omega⟩
      show a_fin (a_one A way) 5 = 0 ↔ 0 = n + 1
      omega
theorem RI.pos {A : Row} {c : Int} (h : RI A) (h0 : 0 ≤ c) (h1 : c + A 0 ≤ A 1) : RI (up A 4 c) :=
  ⟨h.1.pos h0 h1, by rw [up_eq, if_neg (by omega)]; exact h.2.1, by rw [up_eq, if_neg (by omega)]; exact h.2.2⟩
theorem drop_c (l : List Int) (k : Nat) (h : k < l.length) : l.drop k = l.getD k 0 :: l.drop (k + 1) := by
  rw [List.drop_eq_getElem_cons h]
  congr 1
  simp [List.getD_eq_getElem?_getD, List.getElem?_eq_getElem h]
theorem c_muls_19 {r : Nat} {l : List Int} {w : mW} {F : Nat → Int32} {Q : mW → mO → Prop} (hR : Rb w r) (hl : l.length ≤ 7) (hr : ∀ i, -1000 < l.getD i 0 ∧ l.getD i 0 < 1000) (hP : RPL w r F l) : ∀ (n k : Nat) (A : Row) (t : Nat) (G : Nat → Int32), k + n = l.length → RI A → 0 ≤ A 5 → A 5 ≤ 1000 → ((l.length : Int) - 1 ≤ A 1 - A 0) → FG F G → (∀ F', FG F F' → Q (rs r w (if 0 < A 5 then (A, t) else a_mul (l.drop k) k A t).1 F') (.inl (some (.int (Int32.ofInt (if 0 < A 5 then (A, t) else a_mul (l.drop k) k A t).2))))) →
    RT n_X10_multiplies 19 [.ref r, .int (Int32.ofInt t), .int (Int32.ofInt k)] [] (rs r w A G) (0, 0, false) Q := by
  have hR0 := hR
  obtain ⟨sh, rf⟩ := hR
  intro n
  induction n with
  | zero =>
    intro k A t G hk hI h50 h51 hz hG hq
    have h7 : G 7 = Int32.ofInt l.length := (hG.1 7 (by omega) (by omega)).trans hP.1
    have hz' := TJ_sz hI.1
    have e : (if 0 < A 5 then (A, t) else a_mul (l.drop k) k A t) = (A, t) := by
      split
      · rfl
      · rw [List.drop_eq_nil_of_le (by omega)]; rfl
    rw [e] at hq
    refine rt_X10_multiplies_19 ?_
    simp (disch := omega) only [wp_c, wp_n, jj_n, Int.reduceToNat, Int.toNat_natCast, stE, wlE, lgt, lpu, lpw, v_c2, va_s, true_and, and_true, Option.toList, List.nil_append, List.cons_append, List.take, List.drop, List.reverse, List.reverseAux, List.length_cons, List.length_nil, reduceCtorEq, false_implies, true_implies, forall_const, not_true_eq_false, not_false_eq_true, ite_true, ite_false, Bool.false_eq_true, I_I, J_J, Nat.add_left_cancel_iff, Nat.reduceEqDiff, Nat.add_eq_left, Nat.left_eq_add, false_and, and_false, Nat.reduceSub, Nat.sub_self, Nat.le_refl, Nat.zero_le, ge_iff_le, Nat.reduceAdd, Nat.reduceLeDiff, Nat.zero_add, Nat.reduceLT, z_lt, z_le, z_eq, z_l0, z_g0, z_le0, z_ge0, z_e0, z_e1, z_vp, z_nc, z_rem, z_div, i_ltT, i_ltF, i_leT, i_leF, i_eqT, i_eqF, n_ltT, n_ltF, n_leT, n_leF, n_eqT, n_eqF, tn_9, tn_12, tn_14, tn_20, tn_28, tn_44, tn_52, tn_68, tn_84, tn_100, tn_116, tn_132, fu_e, up_eq, ob_0, ob_b, oi_add, oi_sub, oi_mul, oi_neg, rs_sh, rs_R, rs_N, rs_J, rs_F, rs_A, rs_o, rs_wA, rs_wF, rs_w, Int.add_zero, Int.zero_add, or_true, true_or, or_false, false_or, and_self, z_i2l, z_l2i, lo_nat, lo_add, lo_sub, lo_mul, lo_0, e_rem, mr_X10_multiplies, mh_X10_multiplies, sh, rf, h7]
    refine rt_X10_multiplies_60 ?_
    simp (disch := omega) only [wp_c, wp_n, jj_n, Int.reduceToNat, Int.toNat_natCast, stE, wlE, lgt, lpu, lpw, v_c2, va_s, true_and, and_true, Option.toList, List.nil_append, List.cons_append, List.take, List.drop, List.reverse, List.reverseAux, List.length_cons, List.length_nil, reduceCtorEq, false_implies, true_implies, forall_const, not_true_eq_false, not_false_eq_true, ite_true, ite_false, Bool.false_eq_true, I_I, J_J, Nat.add_left_cancel_iff, Nat.reduceEqDiff, Nat.add_eq_left, Nat.left_eq_add, false_and, and_false, Nat.reduceSub, Nat.sub_self, Nat.le_refl, Nat.zero_le, ge_iff_le, Nat.reduceAdd, Nat.reduceLeDiff, Nat.zero_add, Nat.reduceLT, z_lt, z_le, z_eq, z_l0, z_g0, z_le0, z_ge0, z_e0, z_e1, z_vp, z_nc, z_rem, z_div, i_ltT, i_ltF, i_leT, i_leF, i_eqT, i_eqF, n_ltT, n_ltF, n_leT, n_leF, n_eqT, n_eqF, tn_9, tn_12, tn_14, tn_20, tn_28, tn_44, tn_52, tn_68, tn_84, tn_100, tn_116, tn_132, fu_e, up_eq, ob_0, ob_b, oi_add, oi_sub, oi_mul, oi_neg, rs_sh, rs_R, rs_N, rs_J, rs_F, rs_A, rs_o, rs_wA, rs_wF, rs_w, Int.add_zero, Int.zero_add, or_true, true_or, or_false, false_or, and_self, z_i2l, z_l2i, lo_nat, lo_add, lo_sub, lo_mul, lo_0, e_rem, mr_X10_multiplies, mh_X10_multiplies, sh, rf, h7]
    exact hq G hG
  | succ n ih =>
    intro k A t G hk hI h50 h51 hz hG hq
    have h7 : G 7 = Int32.ofInt l.length := (hG.1 7 (by omega) (by omega)).trans hP.1
    have hz' := TJ_sz hI.1
    have hpk := hP.2 k (by omega)
    have hrk := hr k
    refine rt_X10_multiplies_19 ?_
    simp (disch := omega) only [wp_c, wp_n, jj_n, Int.reduceToNat, Int.toNat_natCast, stE, wlE, lgt, lpu, lpw, v_c2, va_s, true_and, and_true, Option.toList, List.nil_append, List.cons_append, List.take, List.drop, List.reverse, List.reverseAux, List.length_cons, List.length_nil, reduceCtorEq, false_implies, true_implies, forall_const, not_true_eq_false, not_false_eq_true, ite_true, ite_false, Bool.false_eq_true, I_I, J_J, Nat.add_left_cancel_iff, Nat.reduceEqDiff, Nat.add_eq_left, Nat.left_eq_add, false_and, and_false, Nat.reduceSub, Nat.sub_self, Nat.le_refl, Nat.zero_le, ge_iff_le, Nat.reduceAdd, Nat.reduceLeDiff, Nat.zero_add, Nat.reduceLT, z_lt, z_le, z_eq, z_l0, z_g0, z_le0, z_ge0, z_e0, z_e1, z_vp, z_nc, z_rem, z_div, i_ltT, i_ltF, i_leT, i_leF, i_eqT, i_eqF, n_ltT, n_ltF, n_leT, n_leF, n_eqT, n_eqF, tn_9, tn_12, tn_14, tn_20, tn_28, tn_44, tn_52, tn_68, tn_84, tn_100, tn_116, tn_132, fu_e, up_eq, ob_0, ob_b, oi_add, oi_sub, oi_mul, oi_neg, rs_sh, rs_R, rs_N, rs_J, rs_F, rs_A, rs_o, rs_wA, rs_wF, rs_w, Int.add_zero, Int.zero_add, or_true, true_or, or_false, false_or, and_self, z_i2l, z_l2i, lo_nat, lo_add, lo_sub, lo_mul, lo_0, e_rem, mr_X10_multiplies, mh_X10_multiplies, sh, rf, h7]
    refine c_isJammed hR0 ⟨h50, h51⟩ ?_
    simp (disch := omega) only [wp_c, wp_n, jj_n, Int.reduceToNat, Int.toNat_natCast, stE, wlE, lgt, lpu, lpw, v_c2, va_s, true_and, and_true, Option.toList, List.nil_append, List.cons_append, List.take, List.drop, List.reverse, List.reverseAux, List.length_cons, List.length_nil, reduceCtorEq, false_implies, true_implies, forall_const, not_true_eq_false, not_false_eq_true, ite_true, ite_false, Bool.false_eq_true, I_I, J_J, Nat.add_left_cancel_iff, Nat.reduceEqDiff, Nat.add_eq_left, Nat.left_eq_add, false_and, and_false, Nat.reduceSub, Nat.sub_self, Nat.le_refl, Nat.zero_le, ge_iff_le, Nat.reduceAdd, Nat.reduceLeDiff, Nat.zero_add, Nat.reduceLT, z_lt, z_le, z_eq, z_l0, z_g0, z_le0, z_ge0, z_e0, z_e1, z_vp, z_nc, z_rem, z_div, i_ltT, i_ltF, i_leT, i_leF, i_eqT, i_eqF, n_ltT, n_ltF, n_leT, n_leF, n_eqT, n_eqF, tn_9, tn_12, tn_14, tn_20, tn_28, tn_44, tn_52, tn_68, tn_84, tn_100, tn_116, tn_132, fu_e, up_eq, ob_0, ob_b, oi_add, oi_sub, oi_mul, oi_neg, rs_sh, rs_R, rs_N, rs_J, rs_F, rs_A, rs_o, rs_wA, rs_wF, rs_w, Int.add_zero, Int.zero_add, or_true, true_or, or_false, false_or, and_self, z_i2l, z_l2i, lo_nat, lo_add, lo_sub, lo_mul, lo_0, e_rem, mr_X10_multiplies, mh_X10_multiplies, sh, rf, h7]
    refine ⟨fun h => ?_, fun h => ?_⟩
    · rw [if_pos (by omega)] at hq
      refine rt_X10_multiplies_60 ?_
      simp (disch := omega) only [wp_c, wp_n, jj_n, Int.reduceToNat, Int.toNat_natCast, stE, wlE, lgt, lpu, lpw, v_c2, va_s, true_and, and_true, Option.toList, List.nil_append, List.cons_append, List.take, List.drop, List.reverse, List.reverseAux, List.length_cons, List.length_nil, reduceCtorEq, false_implies, true_implies, forall_const, not_true_eq_false, not_false_eq_true, ite_true, ite_false, Bool.false_eq_true, I_I, J_J, Nat.add_left_cancel_iff, Nat.reduceEqDiff, Nat.add_eq_left, Nat.left_eq_add, false_and, and_false, Nat.reduceSub, Nat.sub_self, Nat.le_refl, Nat.zero_le, ge_iff_le, Nat.reduceAdd, Nat.reduceLeDiff, Nat.zero_add, Nat.reduceLT, z_lt, z_le, z_eq, z_l0, z_g0, z_le0, z_ge0, z_e0, z_e1, z_vp, z_nc, z_rem, z_div, i_ltT, i_ltF, i_leT, i_leF, i_eqT, i_eqF, n_ltT, n_ltF, n_leT, n_leF, n_eqT, n_eqF, tn_9, tn_12, tn_14, tn_20, tn_28, tn_44, tn_52, tn_68, tn_84, tn_100, tn_116, tn_132, fu_e, up_eq, ob_0, ob_b, oi_add, oi_sub, oi_mul, oi_neg, rs_sh, rs_R, rs_N, rs_J, rs_F, rs_A, rs_o, rs_wA, rs_wF, rs_w, Int.add_zero, Int.zero_add, or_true, true_or, or_false, false_or, and_self, z_i2l, z_l2i, lo_nat, lo_add, lo_sub, lo_mul, lo_0, e_rem, mr_X10_multiplies, mh_X10_multiplies, sh, rf, h7]
      exact hq G hG
    · rw [if_neg (by omega), drop_c l k (by omega), a_mul] at hq
      simp (disch := omega) only [wp_c, wp_n, jj_n, Int.reduceToNat, Int.toNat_natCast, stE, wlE, lgt, lpu, lpw, v_c2, va_s, true_and, and_true, Option.toList, List.nil_append, List.cons_append, List.take, List.drop, List.reverse, List.reverseAux, List.length_cons, List.length_nil, reduceCtorEq, false_implies, true_implies, forall_const, not_true_eq_false, not_false_eq_true, ite_true, ite_false, Bool.false_eq_true, I_I, J_J, Nat.add_left_cancel_iff, Nat.reduceEqDiff, Nat.add_eq_left, Nat.left_eq_add, false_and, and_false, Nat.reduceSub, Nat.sub_self, Nat.le_refl, Nat.zero_le, ge_iff_le, Nat.reduceAdd, Nat.reduceLeDiff, Nat.zero_add, Nat.reduceLT, z_lt, z_le, z_eq, z_l0, z_g0, z_le0, z_ge0, z_e0, z_e1, z_vp, z_nc, z_rem, z_div, i_ltT, i_ltF, i_leT, i_leF, i_eqT, i_eqF, n_ltT, n_ltF, n_leT, n_leF, n_eqT, n_eqF, tn_9, tn_12, tn_14, tn_20, tn_28, tn_44, tn_52, tn_68, tn_84, tn_100, tn_116, tn_132, fu_e, up_eq, ob_0, ob_b, oi_add, oi_sub, oi_mul, oi_neg, rs_sh, rs_R, rs_N, rs_J, rs_F, rs_A, rs_o, rs_wA, rs_wF, rs_w, Int.add_zero, Int.zero_add, or_true, true_or, or_false, false_or, and_self, z_i2l, z_l2i, lo_nat, lo_add, lo_sub, lo_mul, lo_0, e_rem, mr_X10_multiplies, mh_X10_multiplies, sh, rf, h7, hpk]
      have hI4 : RI (up A 4 (k : Int)) := hI.pos (by omega) (by omega)
      have hw : (if l.getD k 0 < 0 then (-1 : Int) else 1) = 1 ∨ (if l.getD k 0 < 0 then (-1 : Int) else 1) = -1 := by split; exact Or.inr rfl; exact Or.inl rfl
      obtain ⟨m1, m2, m3⟩ := many_RI hw (l.getD k 0).natAbs _ hI4
      obtain ⟨m4, m5, m6⟩ := many_5 hw (l.getD k 0).natAbs _ hI4 (by rw [up_eq, if_neg (by omega)]; omega)
      refine c_turns hR0 (by omega) hI4 fun F' hF => ?_
      generalize a_many (l.getD k 0).natAbs (up A 4 (k : Int)) (if l.getD k 0 < 0 then -1 else 1) = z at hq m1 m2 m3 m4 m5 m6 ⊢
      obtain ⟨B, s⟩ := z
      simp only at m4
      have e0 : B 0 = A 0 := (m2 0 (by omega)).trans (by rw [up_eq, if_neg (by omega)])
      have e1 : B 1 = A 1 := (m2 1 (by omega)).trans (by rw [up_eq, if_neg (by omega)])
      simp (disch := omega) only [wp_c, wp_n, jj_n, Int.reduceToNat, Int.toNat_natCast, stE, wlE, lgt, lpu, lpw, v_c2, va_s, true_and, and_true, Option.toList, List.nil_append, List.cons_append, List.take, List.drop, List.reverse, List.reverseAux, List.length_cons, List.length_nil, reduceCtorEq, false_implies, true_implies, forall_const, not_true_eq_false, not_false_eq_true, ite_true, ite_false, Bool.false_eq_true, I_I, J_J, Nat.add_left_cancel_iff, Nat.reduceEqDiff, Nat.add_eq_left, Nat.left_eq_add, false_and, and_false, Nat.reduceSub, Nat.sub_self, Nat.le_refl, Nat.zero_le, ge_iff_le, Nat.reduceAdd, Nat.reduceLeDiff, Nat.zero_add, Nat.reduceLT, z_lt, z_le, z_eq, z_l0, z_g0, z_le0, z_ge0, z_e0, z_e1, z_vp, z_nc, z_rem, z_div, i_ltT, i_ltF, i_leT, i_leF, i_eqT, i_eqF, n_ltT, n_ltF, n_leT, n_leF, n_eqT, n_eqF, tn_9, tn_12, tn_14, tn_20, tn_28, tn_44, tn_52, tn_68, tn_84, tn_100, tn_116, tn_132, fu_e, up_eq, ob_0, ob_b, oi_add, oi_sub, oi_mul, oi_neg, rs_sh, rs_R, rs_N, rs_J, rs_F, rs_A, rs_o, rs_wA, rs_wF, rs_w, Int.add_zero, Int.zero_add, or_true, true_or, or_false, false_or, and_self, z_i2l, z_l2i, lo_nat, lo_add, lo_sub, lo_mul, lo_0, e_rem, mr_X10_multiplies, mh_X10_multiplies, sh, rf, h7]
      refine ih (k + 1) B (t + s) F' (by omega) m1 m4.1 (by omega) (by rw [e0, e1]; exact hz) (hG.trans hF) hq
theorem c_muls {r : Nat} {l : List Int} {w : mW} {A : Row} {F : Nat → Int32} {Q : mW → mO → Prop} (hR : Rb w r) (hl : l.length ≤ 7) (hr : ∀ i, -1000 < l.getD i 0 ∧ l.getD i 0 < 1000) (hP : RPL w r F l) (hI : RI A) (h5 : A 5 = 0) (hz : (l.length : Int) - 1 ≤ A 1 - A 0)
  (hq : ∀ F', FG F F' → Q (rs r w (a_mul l 0 (up (up A 4 0) 8 0) 0).1 F') (.inl (some (.int (Int32.ofInt (a_mul l 0 (up (up A 4 0) 8 0) 0).2))))) : CT n_X10_multiplies [.ref r] (rs r w A F) Q := by
  have hR0 := hR
  obtain ⟨sh, rf⟩ := hR
  have hz' := TJ_sz hI.1
  have hI4 : RI (up A 4 0) := hI.pos (by omega) (by omega)
  have hI8 : RI (up (up A 4 0) 8 0) := ⟨hI4.1.up8, by rw [up_eq, if_pos rfl]; exact Or.inl rfl, by rw [up_eq, if_neg (by omega)]; exact hI4.2.2⟩
  have e5 : up (up A 4 0) 8 0 5 = 0 := by rw [up_eq, if_neg (by omega), up_eq, if_neg (by omega)]; exact h5
  refine ct_X10_multiplies (rt_X10_multiplies_0 ?_)
  simp (disch := omega) only [wp_c, wp_n, jj_n, Int.reduceToNat, Int.toNat_natCast, stE, wlE, lgt, lpu, lpw, v_c2, va_s, true_and, and_true, Option.toList, List.nil_append, List.cons_append, List.take, List.drop, List.reverse, List.reverseAux, List.length_cons, List.length_nil, reduceCtorEq, false_implies, true_implies, forall_const, not_true_eq_false, not_false_eq_true, ite_true, ite_false, Bool.false_eq_true, I_I, J_J, Nat.add_left_cancel_iff, Nat.reduceEqDiff, Nat.add_eq_left, Nat.left_eq_add, false_and, and_false, Nat.reduceSub, Nat.sub_self, Nat.le_refl, Nat.zero_le, ge_iff_le, Nat.reduceAdd, Nat.reduceLeDiff, Nat.zero_add, Nat.reduceLT, z_lt, z_le, z_eq, z_l0, z_g0, z_le0, z_ge0, z_e0, z_e1, z_vp, z_nc, z_rem, z_div, i_ltT, i_ltF, i_leT, i_leF, i_eqT, i_eqF, n_ltT, n_ltF, n_leT, n_leF, n_eqT, n_eqF, tn_9, tn_12, tn_14, tn_20, tn_28, tn_44, tn_52, tn_68, tn_84, tn_100, tn_116, tn_132, fu_e, up_eq, ob_0, ob_b, oi_add, oi_sub, oi_mul, oi_neg, rs_sh, rs_R, rs_N, rs_J, rs_F, rs_A, rs_o, rs_wA, rs_wF, rs_w, Int.add_zero, Int.zero_add, or_true, true_or, or_false, false_or, and_self, z_i2l, z_l2i, lo_nat, lo_add, lo_sub, lo_mul, lo_0, e_rem, mr_X10_multiplies, mh_X10_multiplies, sh, rf]
  have := c_muls_19 (Q := Q) hR0 hl hr hP l.length 0 (up (up A 4 0) 8 0) 0 F (by omega) hI8 (by omega) (by omega) (by rw [up_eq, if_neg (by omega), up_eq, if_neg (by omega), up_eq, if_neg (by omega), up_eq, if_neg (by omega)]; exact hz) (FG.refl F) (fun F' hF => by
    rw [if_neg (by omega)]; exact hq F' hF)
  exact this
/-! dividing -/
theorem c_dAt_51 {r : Nat} {k : Nat} {x : Int32} {w : mW} {A : Row} {F : Nat → Int32} {Q : mW → mO → Prop} (hR : Rb w r) (hI : RI A) (hk : k ≤ 100) (hq : ∀ F', FG F F' → Q (rs r w (a_fin (a_one A 1)) F') (.inl (some (.int (Int32.ofInt (match (a_one A 1).2.1 with | none => ((k + 1 : Nat) : Int) | some _ => (k : Int))))))) : RT n_X10_dividesAt 51 [.ref r, .int (Int32.ofInt k), .int (Int32.ofInt 1), .int x] [] (rs r w A F) (0, 0, false) Q := by
  have hR0 := hR
  obtain ⟨sh, rf⟩ := hR
  refine rt_X10_dividesAt_51 ?_
  simp (disch := omega) only [wp_c, wp_n, jj_n, Int.reduceToNat, Int.toNat_natCast, stE, wlE, lgt, lpu, lpw, v_c2, va_s, true_and, and_true, Option.toList, List.nil_append, List.cons_append, List.take, List.drop, List.reverse, List.reverseAux, List.length_cons, List.length_nil, reduceCtorEq, false_implies, true_implies, forall_const, not_true_eq_false, not_false_eq_true, ite_true, ite_false, Bool.false_eq_true, I_I, J_J, Nat.add_left_cancel_iff, Nat.reduceEqDiff, Nat.add_eq_left, Nat.left_eq_add, false_and, and_false, Nat.reduceSub, Nat.sub_self, Nat.le_refl, Nat.zero_le, ge_iff_le, Nat.reduceAdd, Nat.reduceLeDiff, Nat.zero_add, Nat.reduceLT, z_lt, z_le, z_eq, z_l0, z_g0, z_le0, z_ge0, z_e0, z_e1, z_vp, z_nc, z_rem, z_div, i_ltT, i_ltF, i_leT, i_leF, i_eqT, i_eqF, n_ltT, n_ltF, n_leT, n_leF, n_eqT, n_eqF, tn_9, tn_12, tn_14, tn_20, tn_28, tn_44, tn_52, tn_68, tn_84, tn_100, tn_116, tn_132, fu_e, up_eq, ob_0, ob_b, oi_add, oi_sub, oi_mul, oi_neg, rs_sh, rs_R, rs_N, rs_J, rs_F, rs_A, rs_o, rs_wA, rs_wF, rs_w, Int.add_zero, Int.zero_add, or_true, true_or, or_false, false_or, and_self, z_i2l, z_l2i, lo_nat, lo_add, lo_sub, lo_mul, lo_0, e_rem, mr_X10_dividesAt, mh_X10_dividesAt, sh, rf]
  refine c_turns hR0 (by omega) hI fun F' hF => ?_
  have hq' := hq F' hF
  have e1 : Int.natAbs 1 = 1 := rfl
  have e2 : (if (1 : Int) < 0 then (-1 : Int) else 1) = 1 := rfl
  rw [e1, e2, a_many]
  cases ho : (a_one A 1).2.1 with
  | none =>
    rw [ho] at hq'
    simp (disch := omega) only [wp_c, wp_n, jj_n, Int.reduceToNat, Int.toNat_natCast, stE, wlE, lgt, lpu, lpw, v_c2, va_s, true_and, and_true, Option.toList, List.nil_append, List.cons_append, List.take, List.drop, List.reverse, List.reverseAux, List.length_cons, List.length_nil, reduceCtorEq, false_implies, true_implies, forall_const, not_true_eq_false, not_false_eq_true, ite_true, ite_false, Bool.false_eq_true, I_I, J_J, Nat.add_left_cancel_iff, Nat.reduceEqDiff, Nat.add_eq_left, Nat.left_eq_add, false_and, and_false, Nat.reduceSub, Nat.sub_self, Nat.le_refl, Nat.zero_le, ge_iff_le, Nat.reduceAdd, Nat.reduceLeDiff, Nat.zero_add, Nat.reduceLT, z_lt, z_le, z_eq, z_l0, z_g0, z_le0, z_ge0, z_e0, z_e1, z_vp, z_nc, z_rem, z_div, i_ltT, i_ltF, i_leT, i_leF, i_eqT, i_eqF, n_ltT, n_ltF, n_leT, n_leF, n_eqT, n_eqF, tn_9, tn_12, tn_14, tn_20, tn_28, tn_44, tn_52, tn_68, tn_84, tn_100, tn_116, tn_132, fu_e, up_eq, ob_0, ob_b, oi_add, oi_sub, oi_mul, oi_neg, rs_sh, rs_R, rs_N, rs_J, rs_F, rs_A, rs_o, rs_wA, rs_wF, rs_w, Int.add_zero, Int.zero_add, or_true, true_or, or_false, false_or, and_self, z_i2l, z_l2i, lo_nat, lo_add, lo_sub, lo_mul, lo_0, e_rem, mr_X10_dividesAt, mh_X10_dividesAt, sh, rf]
    refine rt_X10_dividesAt_66 ?_
    simp (disch := omega) only [wp_c, wp_n, jj_n, Int.reduceToNat, Int.toNat_natCast, stE, wlE, lgt, lpu, lpw, v_c2, va_s, true_and, and_true, Option.toList, List.nil_append, List.cons_append, List.take, List.drop, List.reverse, List.reverseAux, List.length_cons, List.length_nil, reduceCtorEq, false_implies, true_implies, forall_const, not_true_eq_false, not_false_eq_true, ite_true, ite_false, Bool.false_eq_true, I_I, J_J, Nat.add_left_cancel_iff, Nat.reduceEqDiff, Nat.add_eq_left, Nat.left_eq_add, false_and, and_false, Nat.reduceSub, Nat.sub_self, Nat.le_refl, Nat.zero_le, ge_iff_le, Nat.reduceAdd, Nat.reduceLeDiff, Nat.zero_add, Nat.reduceLT, z_lt, z_le, z_eq, z_l0, z_g0, z_le0, z_ge0, z_e0, z_e1, z_vp, z_nc, z_rem, z_div, i_ltT, i_ltF, i_leT, i_leF, i_eqT, i_eqF, n_ltT, n_ltF, n_leT, n_leF, n_eqT, n_eqF, tn_9, tn_12, tn_14, tn_20, tn_28, tn_44, tn_52, tn_68, tn_84, tn_100, tn_116, tn_132, fu_e, up_eq, ob_0, ob_b, oi_add, oi_sub, oi_mul, oi_neg, rs_sh, rs_R, rs_N, rs_J, rs_F, rs_A, rs_o, rs_wA, rs_wF, rs_w, Int.add_zero, Int.zero_add, or_true, true_or, or_false, false_or, and_self, z_i2l, z_l2i, lo_nat, lo_add, lo_sub, lo_mul, lo_0, e_rem, mr_X10_dividesAt, mh_X10_dividesAt, sh, rf]
    exact hq'
  | some y =>
    rw [ho] at hq'
    simp (disch := omega) only [wp_c, wp_n, jj_n, Int.reduceToNat, Int.toNat_natCast, stE, wlE, lgt, lpu, lpw, v_c2, va_s, true_and, and_true, Option.toList, List.nil_append, List.cons_append, List.take, List.drop, List.reverse, List.reverseAux, List.length_cons, List.length_nil, reduceCtorEq, false_implies, true_implies, forall_const, not_true_eq_false, not_false_eq_true, ite_true, ite_false, Bool.false_eq_true, I_I, J_J, Nat.add_left_cancel_iff, Nat.reduceEqDiff, Nat.add_eq_left, Nat.left_eq_add, false_and, and_false, Nat.reduceSub, Nat.sub_self, Nat.le_refl, Nat.zero_le, ge_iff_le, Nat.reduceAdd, Nat.reduceLeDiff, Nat.zero_add, Nat.reduceLT, z_lt, z_le, z_eq, z_l0, z_g0, z_le0, z_ge0, z_e0, z_e1, z_vp, z_nc, z_rem, z_div, i_ltT, i_ltF, i_leT, i_leF, i_eqT, i_eqF, n_ltT, n_ltF, n_leT, n_leF, n_eqT, n_eqF, tn_9, tn_12, tn_14, tn_20, tn_28, tn_44, tn_52, tn_68, tn_84, tn_100, tn_116, tn_132, fu_e, up_eq, ob_0, ob_b, oi_add, oi_sub, oi_mul, oi_neg, rs_sh, rs_R, rs_N, rs_J, rs_F, rs_A, rs_o, rs_wA, rs_wF, rs_w, Int.add_zero, Int.zero_add, or_true, true_or, or_false, false_or, and_self, z_i2l, z_l2i, lo_nat, lo_add, lo_sub, lo_mul, lo_0, e_rem, mr_X10_dividesAt, mh_X10_dividesAt, sh, rf]
    refine rt_X10_dividesAt_66 ?_
    simp (disch := omega) only [wp_c, wp_n, jj_n, Int.reduceToNat, Int.toNat_natCast, stE, wlE, lgt, lpu, lpw, v_c2, va_s, true_and, and_true, Option.toList, List.nil_append, List.cons_append, List.take, List.drop, List.reverse, List.reverseAux, List.length_cons, List.length_nil, reduceCtorEq, false_implies, true_implies, forall_const, not_true_eq_false, not_false_eq_true, ite_true, ite_false, Bool.false_eq_true, I_I, J_J, Nat.add_left_cancel_iff, Nat.reduceEqDiff, Nat.add_eq_left, Nat.left_eq_add, false_and, and_false, Nat.reduceSub, Nat.sub_self, Nat.le_refl, Nat.zero_le, ge_iff_le, Nat.reduceAdd, Nat.reduceLeDiff, Nat.zero_add, Nat.reduceLT, z_lt, z_le, z_eq, z_l0, z_g0, z_le0, z_ge0, z_e0, z_e1, z_vp, z_nc, z_rem, z_div, i_ltT, i_ltF, i_leT, i_leF, i_eqT, i_eqF, n_ltT, n_ltF, n_leT, n_leF, n_eqT, n_eqF, tn_9, tn_12, tn_14, tn_20, tn_28, tn_44, tn_52, tn_68, tn_84, tn_100, tn_116, tn_132, fu_e, up_eq, ob_0, ob_b, oi_add, oi_sub, oi_mul, oi_neg, rs_sh, rs_R, rs_N, rs_J, rs_F, rs_A, rs_o, rs_wA, rs_wF, rs_w, Int.add_zero, Int.zero_add, or_true, true_or, or_false, false_or, and_self, z_i2l, z_l2i, lo_nat, lo_add, lo_sub, lo_mul, lo_0, e_rem, mr_X10_dividesAt, mh_X10_dividesAt, sh, rf]
    have e3 : Int32.ofInt ((k : Int) + ((0 : Nat) : Int)) = Int32.ofInt (k : Int) := by congr 1
    first | exact hq' | (rw [e3]; exact hq')
theorem c_dAt_6 {r : Nat} {w : mW} {F : Nat → Int32} {Q : mW → mO → Prop} (hR : Rb w r) : ∀ (n k : Nat) (A : Row) (G : Nat → Int32), k + n = 10 → RI A → FG F G → (∀ F', FG F F' → Q (rs r w (a_dh n A k).1 F') (.inl (some (.int (Int32.ofInt (a_dh n A k).2))))) →
    RT n_X10_dividesAt 6 [.ref r, .int (Int32.ofInt k), .int (Int32.ofInt 0), .int (Int32.ofInt k)] [] (rs r w A G) (0, 0, false) Q := by
  have hR0 := hR
  obtain ⟨sh, rf⟩ := hR
  intro n
  induction n with
  | zero =>
    intro k A G hk hI hG hq
    refine rt_X10_dividesAt_6 ?_
    simp (disch := omega) only [wp_c, wp_n, jj_n, Int.reduceToNat, Int.toNat_natCast, stE, wlE, lgt, lpu, lpw, v_c2, va_s, true_and, and_true, Option.toList, List.nil_append, List.cons_append, List.take, List.drop, List.reverse, List.reverseAux, List.length_cons, List.length_nil, reduceCtorEq, false_implies, true_implies, forall_const, not_true_eq_false, not_false_eq_true, ite_true, ite_false, Bool.false_eq_true, I_I, J_J, Nat.add_left_cancel_iff, Nat.reduceEqDiff, Nat.add_eq_left, Nat.left_eq_add, false_and, and_false, Nat.reduceSub, Nat.sub_self, Nat.le_refl, Nat.zero_le, ge_iff_le, Nat.reduceAdd, Nat.reduceLeDiff, Nat.zero_add, Nat.reduceLT, z_lt, z_le, z_eq, z_l0, z_g0, z_le0, z_ge0, z_e0, z_e1, z_vp, z_nc, z_rem, z_div, i_ltT, i_ltF, i_leT, i_leF, i_eqT, i_eqF, n_ltT, n_ltF, n_leT, n_leF, n_eqT, n_eqF, tn_9, tn_12, tn_14, tn_20, tn_28, tn_44, tn_52, tn_68, tn_84, tn_100, tn_116, tn_132, fu_e, up_eq, ob_0, ob_b, oi_add, oi_sub, oi_mul, oi_neg, rs_sh, rs_R, rs_N, rs_J, rs_F, rs_A, rs_o, rs_wA, rs_wF, rs_w, Int.add_zero, Int.zero_add, or_true, true_or, or_false, false_or, and_self, z_i2l, z_l2i, lo_nat, lo_add, lo_sub, lo_mul, lo_0, e_rem, mr_X10_dividesAt, mh_X10_dividesAt, sh, rf]
    refine rt_X10_dividesAt_51 ?_
    simp (disch := omega) only [wp_c, wp_n, jj_n, Int.reduceToNat, Int.toNat_natCast, stE, wlE, lgt, lpu, lpw, v_c2, va_s, true_and, and_true, Option.toList, List.nil_append, List.cons_append, List.take, List.drop, List.reverse, List.reverseAux, List.length_cons, List.length_nil, reduceCtorEq, false_implies, true_implies, forall_const, not_true_eq_false, not_false_eq_true, ite_true, ite_false, Bool.false_eq_true, I_I, J_J, Nat.add_left_cancel_iff, Nat.reduceEqDiff, Nat.add_eq_left, Nat.left_eq_add, false_and, and_false, Nat.reduceSub, Nat.sub_self, Nat.le_refl, Nat.zero_le, ge_iff_le, Nat.reduceAdd, Nat.reduceLeDiff, Nat.zero_add, Nat.reduceLT, z_lt, z_le, z_eq, z_l0, z_g0, z_le0, z_ge0, z_e0, z_e1, z_vp, z_nc, z_rem, z_div, i_ltT, i_ltF, i_leT, i_leF, i_eqT, i_eqF, n_ltT, n_ltF, n_leT, n_leF, n_eqT, n_eqF, tn_9, tn_12, tn_14, tn_20, tn_28, tn_44, tn_52, tn_68, tn_84, tn_100, tn_116, tn_132, fu_e, up_eq, ob_0, ob_b, oi_add, oi_sub, oi_mul, oi_neg, rs_sh, rs_R, rs_N, rs_J, rs_F, rs_A, rs_o, rs_wA, rs_wF, rs_w, Int.add_zero, Int.zero_add, or_true, true_or, or_false, false_or, and_self, z_i2l, z_l2i, lo_nat, lo_add, lo_sub, lo_mul, lo_0, e_rem, mr_X10_dividesAt, mh_X10_dividesAt, sh, rf]
    refine rt_X10_dividesAt_65 ?_
    simp (disch := omega) only [wp_c, wp_n, jj_n, Int.reduceToNat, Int.toNat_natCast, stE, wlE, lgt, lpu, lpw, v_c2, va_s, true_and, and_true, Option.toList, List.nil_append, List.cons_append, List.take, List.drop, List.reverse, List.reverseAux, List.length_cons, List.length_nil, reduceCtorEq, false_implies, true_implies, forall_const, not_true_eq_false, not_false_eq_true, ite_true, ite_false, Bool.false_eq_true, I_I, J_J, Nat.add_left_cancel_iff, Nat.reduceEqDiff, Nat.add_eq_left, Nat.left_eq_add, false_and, and_false, Nat.reduceSub, Nat.sub_self, Nat.le_refl, Nat.zero_le, ge_iff_le, Nat.reduceAdd, Nat.reduceLeDiff, Nat.zero_add, Nat.reduceLT, z_lt, z_le, z_eq, z_l0, z_g0, z_le0, z_ge0, z_e0, z_e1, z_vp, z_nc, z_rem, z_div, i_ltT, i_ltF, i_leT, i_leF, i_eqT, i_eqF, n_ltT, n_ltF, n_leT, n_leF, n_eqT, n_eqF, tn_9, tn_12, tn_14, tn_20, tn_28, tn_44, tn_52, tn_68, tn_84, tn_100, tn_116, tn_132, fu_e, up_eq, ob_0, ob_b, oi_add, oi_sub, oi_mul, oi_neg, rs_sh, rs_R, rs_N, rs_J, rs_F, rs_A, rs_o, rs_wA, rs_wF, rs_w, Int.add_zero, Int.zero_add, or_true, true_or, or_false, false_or, and_self, z_i2l, z_l2i, lo_nat, lo_add, lo_sub, lo_mul, lo_0, e_rem, mr_X10_dividesAt, mh_X10_dividesAt, sh, rf]
    refine rt_X10_dividesAt_66 ?_
    simp (disch := omega) only [wp_c, wp_n, jj_n, Int.reduceToNat, Int.toNat_natCast, stE, wlE, lgt, lpu, lpw, v_c2, va_s, true_and, and_true, Option.toList, List.nil_append, List.cons_append, List.take, List.drop, List.reverse, List.reverseAux, List.length_cons, List.length_nil, reduceCtorEq, false_implies, true_implies, forall_const, not_true_eq_false, not_false_eq_true, ite_true, ite_false, Bool.false_eq_true, I_I, J_J, Nat.add_left_cancel_iff, Nat.reduceEqDiff, Nat.add_eq_left, Nat.left_eq_add, false_and, and_false, Nat.reduceSub, Nat.sub_self, Nat.le_refl, Nat.zero_le, ge_iff_le, Nat.reduceAdd, Nat.reduceLeDiff, Nat.zero_add, Nat.reduceLT, z_lt, z_le, z_eq, z_l0, z_g0, z_le0, z_ge0, z_e0, z_e1, z_vp, z_nc, z_rem, z_div, i_ltT, i_ltF, i_leT, i_leF, i_eqT, i_eqF, n_ltT, n_ltF, n_leT, n_leF, n_eqT, n_eqF, tn_9, tn_12, tn_14, tn_20, tn_28, tn_44, tn_52, tn_68, tn_84, tn_100, tn_116, tn_132, fu_e, up_eq, ob_0, ob_b, oi_add, oi_sub, oi_mul, oi_neg, rs_sh, rs_R, rs_N, rs_J, rs_F, rs_A, rs_o, rs_wA, rs_wF, rs_w, Int.add_zero, Int.zero_add, or_true, true_or, or_false, false_or, and_self, z_i2l, z_l2i, lo_nat, lo_add, lo_sub, lo_mul, lo_0, e_rem, mr_X10_dividesAt, mh_X10_dividesAt, sh, rf]
    exact hq G hG
  | succ n ih =>
    intro k A G hk hI hG hq
    refine rt_X10_dividesAt_6 ?_
    simp (disch := omega) only [wp_c, wp_n, jj_n, Int.reduceToNat, Int.toNat_natCast, stE, wlE, lgt, lpu, lpw, v_c2, va_s, true_and, and_true, Option.toList, List.nil_append, List.cons_append, List.take, List.drop, List.reverse, List.reverseAux, List.length_cons, List.length_nil, reduceCtorEq, false_implies, true_implies, forall_const, not_true_eq_false, not_false_eq_true, ite_true, ite_false, Bool.false_eq_true, I_I, J_J, Nat.add_left_cancel_iff, Nat.reduceEqDiff, Nat.add_eq_left, Nat.left_eq_add, false_and, and_false, Nat.reduceSub, Nat.sub_self, Nat.le_refl, Nat.zero_le, ge_iff_le, Nat.reduceAdd, Nat.reduceLeDiff, Nat.zero_add, Nat.reduceLT, z_lt, z_le, z_eq, z_l0, z_g0, z_le0, z_ge0, z_e0, z_e1, z_vp, z_nc, z_rem, z_div, i_ltT, i_ltF, i_leT, i_leF, i_eqT, i_eqF, n_ltT, n_ltF, n_leT, n_leF, n_eqT, n_eqF, tn_9, tn_12, tn_14, tn_20, tn_28, tn_44, tn_52, tn_68, tn_84, tn_100, tn_116, tn_132, fu_e, up_eq, ob_0, ob_b, oi_add, oi_sub, oi_mul, oi_neg, rs_sh, rs_R, rs_N, rs_J, rs_F, rs_A, rs_o, rs_wA, rs_wF, rs_w, Int.add_zero, Int.zero_add, or_true, true_or, or_false, false_or, and_self, z_i2l, z_l2i, lo_nat, lo_add, lo_sub, lo_mul, lo_0, e_rem, mr_X10_dividesAt, mh_X10_dividesAt, sh, rf]
    refine c_turnsOnce hR0 (Or.inr rfl) hI fun F' hF hF5 => ?_
    have hG' : FG F F' := hG.trans ⟨hF, fun _ => by rw [hF5]; exact one_l hI (Or.inr rfl)⟩
    have hI' := one_RI hI (Or.inr rfl : (-1 : Int) = 1 ∨ (-1 : Int) = -1)
    have h9 := one_9 hI.1 (Or.inr rfl : (-1 : Int) = 1 ∨ (-1 : Int) = -1) hI.2.2.1
    rw [a_dh] at hq
    cases ho : (a_one A (-1)).2.1 with
    | some y =>
      rw [ho] at hq
      simp only at hq
      simp (disch := omega) only [wp_c, wp_n, jj_n, Int.reduceToNat, Int.toNat_natCast, stE, wlE, lgt, lpu, lpw, v_c2, va_s, true_and, and_true, Option.toList, List.nil_append, List.cons_append, List.take, List.drop, List.reverse, List.reverseAux, List.length_cons, List.length_nil, reduceCtorEq, false_implies, true_implies, forall_const, not_true_eq_false, not_false_eq_true, ite_true, ite_false, Bool.false_eq_true, I_I, J_J, Nat.add_left_cancel_iff, Nat.reduceEqDiff, Nat.add_eq_left, Nat.left_eq_add, false_and, and_false, Nat.reduceSub, Nat.sub_self, Nat.le_refl, Nat.zero_le, ge_iff_le, Nat.reduceAdd, Nat.reduceLeDiff, Nat.zero_add, Nat.reduceLT, z_lt, z_le, z_eq, z_l0, z_g0, z_le0, z_ge0, z_e0, z_e1, z_vp, z_nc, z_rem, z_div, i_ltT, i_ltF, i_leT, i_leF, i_eqT, i_eqF, n_ltT, n_ltF, n_leT, n_leF, n_eqT, n_eqF, tn_9, tn_12, tn_14, tn_20, tn_28, tn_44, tn_52, tn_68, tn_84, tn_100, tn_116, tn_132, fu_e, up_eq, ob_0, ob_b, oi_add, oi_sub, oi_mul, oi_neg, rs_sh, rs_R, rs_N, rs_J, rs_F, rs_A, rs_o, rs_wA, rs_wF, rs_w, Int.add_zero, Int.zero_add, or_true, true_or, or_false, false_or, and_self, z_i2l, z_l2i, lo_nat, lo_add, lo_sub, lo_mul, lo_0, e_rem, mr_X10_dividesAt, mh_X10_dividesAt, sh, rf]
      exact hq F' hG'
    | none =>
      rw [ho] at hq
      simp only at hq
      generalize a_fin (a_one A (-1)) = B at hq h9 hI' ⊢
      simp (disch := omega) only [wp_c, wp_n, jj_n, Int.reduceToNat, Int.toNat_natCast, stE, wlE, lgt, lpu, lpw, v_c2, va_s, true_and, and_true, Option.toList, List.nil_append, List.cons_append, List.take, List.drop, List.reverse, List.reverseAux, List.length_cons, List.length_nil, reduceCtorEq, false_implies, true_implies, forall_const, not_true_eq_false, not_false_eq_true, ite_true, ite_false, Bool.false_eq_true, I_I, J_J, Nat.add_left_cancel_iff, Nat.reduceEqDiff, Nat.add_eq_left, Nat.left_eq_add, false_and, and_false, Nat.reduceSub, Nat.sub_self, Nat.le_refl, Nat.zero_le, ge_iff_le, Nat.reduceAdd, Nat.reduceLeDiff, Nat.zero_add, Nat.reduceLT, z_lt, z_le, z_eq, z_l0, z_g0, z_le0, z_ge0, z_e0, z_e1, z_vp, z_nc, z_rem, z_div, i_ltT, i_ltF, i_leT, i_leF, i_eqT, i_eqF, n_ltT, n_ltF, n_leT, n_leF, n_eqT, n_eqF, tn_9, tn_12, tn_14, tn_20, tn_28, tn_44, tn_52, tn_68, tn_84, tn_100, tn_116, tn_132, fu_e, up_eq, ob_0, ob_b, oi_add, oi_sub, oi_mul, oi_neg, rs_sh, rs_R, rs_N, rs_J, rs_F, rs_A, rs_o, rs_wA, rs_wF, rs_w, Int.add_zero, Int.zero_add, or_true, true_or, or_false, false_or, and_self, z_i2l, z_l2i, lo_nat, lo_add, lo_sub, lo_mul, lo_0, e_rem, mr_X10_dividesAt, mh_X10_dividesAt, sh, rf]
      refine rt_X10_dividesAt_26 ?_
      simp (disch := omega) only [wp_c, wp_n, jj_n, Int.reduceToNat, Int.toNat_natCast, stE, wlE, lgt, lpu, lpw, v_c2, va_s, true_and, and_true, Option.toList, List.nil_append, List.cons_append, List.take, List.drop, List.reverse, List.reverseAux, List.length_cons, List.length_nil, reduceCtorEq, false_implies, true_implies, forall_const, not_true_eq_false, not_false_eq_true, ite_true, ite_false, Bool.false_eq_true, I_I, J_J, Nat.add_left_cancel_iff, Nat.reduceEqDiff, Nat.add_eq_left, Nat.left_eq_add, false_and, and_false, Nat.reduceSub, Nat.sub_self, Nat.le_refl, Nat.zero_le, ge_iff_le, Nat.reduceAdd, Nat.reduceLeDiff, Nat.zero_add, Nat.reduceLT, z_lt, z_le, z_eq, z_l0, z_g0, z_le0, z_ge0, z_e0, z_e1, z_vp, z_nc, z_rem, z_div, i_ltT, i_ltF, i_leT, i_leF, i_eqT, i_eqF, n_ltT, n_ltF, n_leT, n_leF, n_eqT, n_eqF, tn_9, tn_12, tn_14, tn_20, tn_28, tn_44, tn_52, tn_68, tn_84, tn_100, tn_116, tn_132, fu_e, up_eq, ob_0, ob_b, oi_add, oi_sub, oi_mul, oi_neg, rs_sh, rs_R, rs_N, rs_J, rs_F, rs_A, rs_o, rs_wA, rs_wF, rs_w, Int.add_zero, Int.zero_add, or_true, true_or, or_false, false_or, and_self, z_i2l, z_l2i, lo_nat, lo_add, lo_sub, lo_mul, lo_0, e_rem, mr_X10_dividesAt, mh_X10_dividesAt, sh, rf]
      have h9' : B 9 = 0 ∨ B 9 = 1 := by omega
      rcases h9' with h9' | h9'
      · rw [if_neg (by omega)] at hq
        simp (disch := omega) only [wp_c, wp_n, jj_n, Int.reduceToNat, Int.toNat_natCast, stE, wlE, lgt, lpu, lpw, v_c2, va_s, true_and, and_true, Option.toList, List.nil_append, List.cons_append, List.take, List.drop, List.reverse, List.reverseAux, List.length_cons, List.length_nil, reduceCtorEq, false_implies, true_implies, forall_const, not_true_eq_false, not_false_eq_true, ite_true, ite_false, Bool.false_eq_true, I_I, J_J, Nat.add_left_cancel_iff, Nat.reduceEqDiff, Nat.add_eq_left, Nat.left_eq_add, false_and, and_false, Nat.reduceSub, Nat.sub_self, Nat.le_refl, Nat.zero_le, ge_iff_le, Nat.reduceAdd, Nat.reduceLeDiff, Nat.zero_add, Nat.reduceLT, z_lt, z_le, z_eq, z_l0, z_g0, z_le0, z_ge0, z_e0, z_e1, z_vp, z_nc, z_rem, z_div, i_ltT, i_ltF, i_leT, i_leF, i_eqT, i_eqF, n_ltT, n_ltF, n_leT, n_leF, n_eqT, n_eqF, tn_9, tn_12, tn_14, tn_20, tn_28, tn_44, tn_52, tn_68, tn_84, tn_100, tn_116, tn_132, fu_e, up_eq, ob_0, ob_b, oi_add, oi_sub, oi_mul, oi_neg, rs_sh, rs_R, rs_N, rs_J, rs_F, rs_A, rs_o, rs_wA, rs_wF, rs_w, Int.add_zero, Int.zero_add, or_true, true_or, or_false, false_or, and_self, z_i2l, z_l2i, lo_nat, lo_add, lo_sub, lo_mul, lo_0, e_rem, mr_X10_dividesAt, mh_X10_dividesAt, sh, rf, h9']
        refine rt_X10_dividesAt_43 ?_
        simp (disch := omega) only [wp_c, wp_n, jj_n, Int.reduceToNat, Int.toNat_natCast, stE, wlE, lgt, lpu, lpw, v_c2, va_s, true_and, and_true, Option.toList, List.nil_append, List.cons_append, List.take, List.drop, List.reverse, List.reverseAux, List.length_cons, List.length_nil, reduceCtorEq, false_implies, true_implies, forall_const, not_true_eq_false, not_false_eq_true, ite_true, ite_false, Bool.false_eq_true, I_I, J_J, Nat.add_left_cancel_iff, Nat.reduceEqDiff, Nat.add_eq_left, Nat.left_eq_add, false_and, and_false, Nat.reduceSub, Nat.sub_self, Nat.le_refl, Nat.zero_le, ge_iff_le, Nat.reduceAdd, Nat.reduceLeDiff, Nat.zero_add, Nat.reduceLT, z_lt, z_le, z_eq, z_l0, z_g0, z_le0, z_ge0, z_e0, z_e1, z_vp, z_nc, z_rem, z_div, i_ltT, i_ltF, i_leT, i_leF, i_eqT, i_eqF, n_ltT, n_ltF, n_leT, n_leF, n_eqT, n_eqF, tn_9, tn_12, tn_14, tn_20, tn_28, tn_44, tn_52, tn_68, tn_84, tn_100, tn_116, tn_132, fu_e, up_eq, ob_0, ob_b, oi_add, oi_sub, oi_mul, oi_neg, rs_sh, rs_R, rs_N, rs_J, rs_F, rs_A, rs_o, rs_wA, rs_wF, rs_w, Int.add_zero, Int.zero_add, or_true, true_or, or_false, false_or, and_self, z_i2l, z_l2i, lo_nat, lo_add, lo_sub, lo_mul, lo_0, e_rem, mr_X10_dividesAt, mh_X10_dividesAt, sh, rf]
        refine rt_X10_dividesAt_44 ?_
        simp (disch := omega) only [wp_c, wp_n, jj_n, Int.reduceToNat, Int.toNat_natCast, stE, wlE, lgt, lpu, lpw, v_c2, va_s, true_and, and_true, Option.toList, List.nil_append, List.cons_append, List.take, List.drop, List.reverse, List.reverseAux, List.length_cons, List.length_nil, reduceCtorEq, false_implies, true_implies, forall_const, not_true_eq_false, not_false_eq_true, ite_true, ite_false, Bool.false_eq_true, I_I, J_J, Nat.add_left_cancel_iff, Nat.reduceEqDiff, Nat.add_eq_left, Nat.left_eq_add, false_and, and_false, Nat.reduceSub, Nat.sub_self, Nat.le_refl, Nat.zero_le, ge_iff_le, Nat.reduceAdd, Nat.reduceLeDiff, Nat.zero_add, Nat.reduceLT, z_lt, z_le, z_eq, z_l0, z_g0, z_le0, z_ge0, z_e0, z_e1, z_vp, z_nc, z_rem, z_div, i_ltT, i_ltF, i_leT, i_leF, i_eqT, i_eqF, n_ltT, n_ltF, n_leT, n_leF, n_eqT, n_eqF, tn_9, tn_12, tn_14, tn_20, tn_28, tn_44, tn_52, tn_68, tn_84, tn_100, tn_116, tn_132, fu_e, up_eq, ob_0, ob_b, oi_add, oi_sub, oi_mul, oi_neg, rs_sh, rs_R, rs_N, rs_J, rs_F, rs_A, rs_o, rs_wA, rs_wF, rs_w, Int.add_zero, Int.zero_add, or_true, true_or, or_false, false_or, and_self, z_i2l, z_l2i, lo_nat, lo_add, lo_sub, lo_mul, lo_0, e_rem, mr_X10_dividesAt, mh_X10_dividesAt, sh, rf]
        exact ih (k + 1) B F' (by omega) hI' hG' hq
      · rw [if_pos (by omega)] at hq
        simp (disch := omega) only [wp_c, wp_n, jj_n, Int.reduceToNat, Int.toNat_natCast, stE, wlE, lgt, lpu, lpw, v_c2, va_s, true_and, and_true, Option.toList, List.nil_append, List.cons_append, List.take, List.drop, List.reverse, List.reverseAux, List.length_cons, List.length_nil, reduceCtorEq, false_implies, true_implies, forall_const, not_true_eq_false, not_false_eq_true, ite_true, ite_false, Bool.false_eq_true, I_I, J_J, Nat.add_left_cancel_iff, Nat.reduceEqDiff, Nat.add_eq_left, Nat.left_eq_add, false_and, and_false, Nat.reduceSub, Nat.sub_self, Nat.le_refl, Nat.zero_le, ge_iff_le, Nat.reduceAdd, Nat.reduceLeDiff, Nat.zero_add, Nat.reduceLT, z_lt, z_le, z_eq, z_l0, z_g0, z_le0, z_ge0, z_e0, z_e1, z_vp, z_nc, z_rem, z_div, i_ltT, i_ltF, i_leT, i_leF, i_eqT, i_eqF, n_ltT, n_ltF, n_leT, n_leF, n_eqT, n_eqF, tn_9, tn_12, tn_14, tn_20, tn_28, tn_44, tn_52, tn_68, tn_84, tn_100, tn_116, tn_132, fu_e, up_eq, ob_0, ob_b, oi_add, oi_sub, oi_mul, oi_neg, rs_sh, rs_R, rs_N, rs_J, rs_F, rs_A, rs_o, rs_wA, rs_wF, rs_w, Int.add_zero, Int.zero_add, or_true, true_or, or_false, false_or, and_self, z_i2l, z_l2i, lo_nat, lo_add, lo_sub, lo_mul, lo_0, e_rem, mr_X10_dividesAt, mh_X10_dividesAt, sh, rf, h9']
        refine rt_X10_dividesAt_44 ?_
        simp (disch := omega) only [wp_c, wp_n, jj_n, Int.reduceToNat, Int.toNat_natCast, stE, wlE, lgt, lpu, lpw, v_c2, va_s, true_and, and_true, Option.toList, List.nil_append, List.cons_append, List.take, List.drop, List.reverse, List.reverseAux, List.length_cons, List.length_nil, reduceCtorEq, false_implies, true_implies, forall_const, not_true_eq_false, not_false_eq_true, ite_true, ite_false, Bool.false_eq_true, I_I, J_J, Nat.add_left_cancel_iff, Nat.reduceEqDiff, Nat.add_eq_left, Nat.left_eq_add, false_and, and_false, Nat.reduceSub, Nat.sub_self, Nat.le_refl, Nat.zero_le, ge_iff_le, Nat.reduceAdd, Nat.reduceLeDiff, Nat.zero_add, Nat.reduceLT, z_lt, z_le, z_eq, z_l0, z_g0, z_le0, z_ge0, z_e0, z_e1, z_vp, z_nc, z_rem, z_div, i_ltT, i_ltF, i_leT, i_leF, i_eqT, i_eqF, n_ltT, n_ltF, n_leT, n_leF, n_eqT, n_eqF, tn_9, tn_12, tn_14, tn_20, tn_28, tn_44, tn_52, tn_68, tn_84, tn_100, tn_116, tn_132, fu_e, up_eq, ob_0, ob_b, oi_add, oi_sub, oi_mul, oi_neg, rs_sh, rs_R, rs_N, rs_J, rs_F, rs_A, rs_o, rs_wA, rs_wF, rs_w, Int.add_zero, Int.zero_add, or_true, true_or, or_false, false_or, and_self, z_i2l, z_l2i, lo_nat, lo_add, lo_sub, lo_mul, lo_0, e_rem, mr_X10_dividesAt, mh_X10_dividesAt, sh, rf]
        refine rt_X10_dividesAt_6 ?_
        have h51 := c_dAt_51 (k := k + 1) (x := Int32.ofInt ((k : Int) + 1)) (F := F') (Q := Q) hR0 hI' (by omega) (fun F'' hF'' => by
          have hG'' : FG F F'' := hG'.trans hF''
          have := hq F'' 
          cases ho2 : (a_one B 1).2.1 with
          | none => rw [ho2] at this; exact this hG''
          | some y => rw [ho2] at this; exact this hG'')
        simp (disch := omega) only [wp_c, wp_n, jj_n, Int.reduceToNat, Int.toNat_natCast, stE, wlE, lgt, lpu, lpw, v_c2, va_s, true_and, and_true, Option.toList, List.nil_append, List.cons_append, List.take, List.drop, List.reverse, List.reverseAux, List.length_cons, List.length_nil, reduceCtorEq, false_implies, true_implies, forall_const, not_true_eq_false, not_false_eq_true, ite_true, ite_false, Bool.false_eq_true, I_I, J_J, Nat.add_left_cancel_iff, Nat.reduceEqDiff, Nat.add_eq_left, Nat.left_eq_add, false_and, and_false, Nat.reduceSub, Nat.sub_self, Nat.le_refl, Nat.zero_le, ge_iff_le, Nat.reduceAdd, Nat.reduceLeDiff, Nat.zero_add, Nat.reduceLT, z_lt, z_le, z_eq, z_l0, z_g0, z_le0, z_ge0, z_e0, z_e1, z_vp, z_nc, z_rem, z_div, i_ltT, i_ltF, i_leT, i_leF, i_eqT, i_eqF, n_ltT, n_ltF, n_leT, n_leF, n_eqT, n_eqF, tn_9, tn_12, tn_14, tn_20, tn_28, tn_44, tn_52, tn_68, tn_84, tn_100, tn_116, tn_132, fu_e, up_eq, ob_0, ob_b, oi_add, oi_sub, oi_mul, oi_neg, rs_sh, rs_R, rs_N, rs_J, rs_F, rs_A, rs_o, rs_wA, rs_wF, rs_w, Int.add_zero, Int.zero_add, or_true, true_or, or_false, false_or, and_self, z_i2l, z_l2i, lo_nat, lo_add, lo_sub, lo_mul, lo_0, e_rem, mr_X10_dividesAt, mh_X10_dividesAt, sh, rf]
        by_cases hk9 : (k : Int) + 1 < 10
        · simp (disch := omega) only [wp_c, wp_n, jj_n, Int.reduceToNat, Int.toNat_natCast, stE, wlE, lgt, lpu, lpw, v_c2, va_s, true_and, and_true, Option.toList, List.nil_append, List.cons_append, List.take, List.drop, List.reverse, List.reverseAux, List.length_cons, List.length_nil, reduceCtorEq, false_implies, true_implies, forall_const, not_true_eq_false, not_false_eq_true, ite_true, ite_false, Bool.false_eq_true, I_I, J_J, Nat.add_left_cancel_iff, Nat.reduceEqDiff, Nat.add_eq_left, Nat.left_eq_add, false_and, and_false, Nat.reduceSub, Nat.sub_self, Nat.le_refl, Nat.zero_le, ge_iff_le, Nat.reduceAdd, Nat.reduceLeDiff, Nat.zero_add, Nat.reduceLT, z_lt, z_le, z_eq, z_l0, z_g0, z_le0, z_ge0, z_e0, z_e1, z_vp, z_nc, z_rem, z_div, i_ltT, i_ltF, i_leT, i_leF, i_eqT, i_eqF, n_ltT, n_ltF, n_leT, n_leF, n_eqT, n_eqF, tn_9, tn_12, tn_14, tn_20, tn_28, tn_44, tn_52, tn_68, tn_84, tn_100, tn_116, tn_132, fu_e, up_eq, ob_0, ob_b, oi_add, oi_sub, oi_mul, oi_neg, rs_sh, rs_R, rs_N, rs_J, rs_F, rs_A, rs_o, rs_wA, rs_wF, rs_w, Int.add_zero, Int.zero_add, or_true, true_or, or_false, false_or, and_self, z_i2l, z_l2i, lo_nat, lo_add, lo_sub, lo_mul, lo_0, e_rem, mr_X10_dividesAt, mh_X10_dividesAt, sh, rf]
          exact h51
        · simp (disch := omega) only [wp_c, wp_n, jj_n, Int.reduceToNat, Int.toNat_natCast, stE, wlE, lgt, lpu, lpw, v_c2, va_s, true_and, and_true, Option.toList, List.nil_append, List.cons_append, List.take, List.drop, List.reverse, List.reverseAux, List.length_cons, List.length_nil, reduceCtorEq, false_implies, true_implies, forall_const, not_true_eq_false, not_false_eq_true, ite_true, ite_false, Bool.false_eq_true, I_I, J_J, Nat.add_left_cancel_iff, Nat.reduceEqDiff, Nat.add_eq_left, Nat.left_eq_add, false_and, and_false, Nat.reduceSub, Nat.sub_self, Nat.le_refl, Nat.zero_le, ge_iff_le, Nat.reduceAdd, Nat.reduceLeDiff, Nat.zero_add, Nat.reduceLT, z_lt, z_le, z_eq, z_l0, z_g0, z_le0, z_ge0, z_e0, z_e1, z_vp, z_nc, z_rem, z_div, i_ltT, i_ltF, i_leT, i_leF, i_eqT, i_eqF, n_ltT, n_ltF, n_leT, n_leF, n_eqT, n_eqF, tn_9, tn_12, tn_14, tn_20, tn_28, tn_44, tn_52, tn_68, tn_84, tn_100, tn_116, tn_132, fu_e, up_eq, ob_0, ob_b, oi_add, oi_sub, oi_mul, oi_neg, rs_sh, rs_R, rs_N, rs_J, rs_F, rs_A, rs_o, rs_wA, rs_wF, rs_w, Int.add_zero, Int.zero_add, or_true, true_or, or_false, false_or, and_self, z_i2l, z_l2i, lo_nat, lo_add, lo_sub, lo_mul, lo_0, e_rem, mr_X10_dividesAt, mh_X10_dividesAt, sh, rf]
          exact h51
theorem c_dAt {r : Nat} {w : mW} {A : Row} {F : Nat → Int32} {Q : mW → mO → Prop} (hR : Rb w r) (hI : RI A) (hq : ∀ F', FG F F' → Q (rs r w (a_dh 10 A 0).1 F') (.inl (some (.int (Int32.ofInt (a_dh 10 A 0).2))))) : CT n_X10_dividesAt [.ref r] (rs r w A F) Q := by
  refine ct_X10_dividesAt (rt_X10_dividesAt_0 ?_)
  simp (disch := omega) only [wp_c, wp_n, jj_n, Int.reduceToNat, Int.toNat_natCast, stE, wlE, lgt, lpu, lpw, v_c2, va_s, true_and, and_true, Option.toList, List.nil_append, List.cons_append, List.take, List.drop, List.reverse, List.reverseAux, List.length_cons, List.length_nil, reduceCtorEq, false_implies, true_implies, forall_const, not_true_eq_false, not_false_eq_true, ite_true, ite_false, Bool.false_eq_true, I_I, J_J, Nat.add_left_cancel_iff, Nat.reduceEqDiff, Nat.add_eq_left, Nat.left_eq_add, false_and, and_false, Nat.reduceSub, Nat.sub_self, Nat.le_refl, Nat.zero_le, ge_iff_le, Nat.reduceAdd, Nat.reduceLeDiff, Nat.zero_add, Nat.reduceLT, z_lt, z_le, z_eq, z_l0, z_g0, z_le0, z_ge0, z_e0, z_e1, z_vp, z_nc, z_rem, z_div, i_ltT, i_ltF, i_leT, i_leF, i_eqT, i_eqF, n_ltT, n_ltF, n_leT, n_leF, n_eqT, n_eqF, tn_9, tn_12, tn_14, tn_20, tn_28, tn_44, tn_52, tn_68, tn_84, tn_100, tn_116, tn_132, fu_e, up_eq, ob_0, ob_b, oi_add, oi_sub, oi_mul, oi_neg, rs_sh, rs_R, rs_N, rs_J, rs_F, rs_A, rs_o, rs_wA, rs_wF, rs_w, Int.add_zero, Int.zero_add, or_true, true_or, or_false, false_or, and_self, z_i2l, z_l2i, lo_nat, lo_add, lo_sub, lo_mul, lo_0, e_rem, mr_X10_dividesAt, mh_X10_dividesAt]
  exact c_dAt_6 hR 10 0 A F rfl hI (FG.refl F) hq
theorem dh_RI : ∀ (n : Nat) (A : Row) (k : Nat), RI A → 0 ≤ A 5 → A 5 ≤ 2 → RI (a_dh n A k).1 ∧ (∀ j, j < 5 → (a_dh n A k).1 j = A j) ∧ (0 ≤ (a_dh n A k).1 5 ∧ (a_dh n A k).1 5 ≤ 2) ∧ (a_dh n A k).1 8 = A 8 := by
  intro n
  induction n with
  | zero => intro A k h h5 h52; exact ⟨h, fun _ _ => rfl, ⟨h5, h52⟩, rfl⟩
  | succ n ih =>
    intro A k h h5 h52
    have hw : (-1 : Int) = 1 ∨ (-1 : Int) = -1 := Or.inr rfl
    have h1 := one_RI h hw
    have h2 := one_sz h.1 hw h.2.2.1
    have h3 := one_52 h.1 hw h.2.2.1
    have h4 := (one_TJ h.1 hw h.2.2.1).2.1
    rw [a_dh]
    cases ho : (a_one A (-1)).2.1 with
    | some y => exact ⟨h1, h2, h3, h4⟩
    | none =>
      simp only
      generalize a_fin (a_one A (-1)) = B at h1 h2 h3 h4
      have g1 := one_RI h1 (Or.inl rfl : (1 : Int) = 1 ∨ (1 : Int) = -1)
      have g2 := one_sz h1.1 (Or.inl rfl : (1 : Int) = 1 ∨ (1 : Int) = -1) h1.2.2.1
      have g3 := one_52 h1.1 (Or.inl rfl : (1 : Int) = 1 ∨ (1 : Int) = -1) h1.2.2.1
      have g4 := (one_TJ h1.1 (Or.inl rfl : (1 : Int) = 1 ∨ (1 : Int) = -1) h1.2.2.1).2.1
      split
      · cases ho2 : (a_one B 1).2.1 with
        | none => exact ⟨g1, fun j hj => (g2 j hj).trans (h2 j hj), g3, g4.trans h4⟩
        | some y => exact ⟨g1, fun j hj => (g2 j hj).trans (h2 j hj), g3, g4.trans h4⟩
      · obtain ⟨q1, q2, q3, q4⟩ := ih B (k + 1) h1 h3.1 h3.2
        exact ⟨q1, fun j hj => (q2 j hj).trans (h2 j hj), q3, q4.trans h4⟩
theorem dh_k : ∀ (n : Nat) (A : Row) (k : Nat), (a_dh n A k).2 ≤ k + n + 1 := by
  intro n
  induction n with
  | zero => intro A k; show k ≤ _; omega
  | succ n ih =>
    intro A k
    rw [a_dh]
    cases (a_one A (-1)).2.1 with
    | some y => show k ≤ _; omega
    | none =>
      simp only
      generalize a_fin (a_one A (-1)) = B
      split
      · cases (a_one B 1).2.1 with
        | none => show k + 2 ≤ _; omega
        | some y => show k + 1 ≤ _; omega
      · have := ih B (k + 1); omega
theorem c_rdv_15 {r : Nat} {w : mW} {F : Nat → Int32} {Q : mW → mO → Prop} (hR : Rb w r) : ∀ (m : Nat) (A : Row) (t : Nat) (G : Nat → Int32), (m : Int) + A 0 ≤ A 1 + 1 → RI A → 0 ≤ A 5 → A 5 ≤ 2 → FG F G → (∀ F', FG F F' → Q (rs r w (if 0 < A 5 then (A, t) else a_dv m A t).1 F') (.inl (some (.int (Int32.ofInt (if 0 < A 5 then (A, t) else a_dv m A t).2))))) →
    RT n_X10_divides 15 [.ref r, .int (Int32.ofInt t), .int (Int32.ofInt ((m : Int) - 1))] [] (rs r w A G) (0, 0, false) Q := by
  have hR0 := hR
  obtain ⟨sh, rf⟩ := hR
  intro m
  induction m with
  | zero =>
    intro A t G hm hI h50 h52 hG hq
    have e : (if 0 < A 5 then (A, t) else a_dv 0 A t) = (A, t) := by split <;> rfl
    rw [e] at hq
    refine rt_X10_divides_15 ?_
    simp (disch := omega) only [wp_c, wp_n, jj_n, Int.reduceToNat, Int.toNat_natCast, stE, wlE, lgt, lpu, lpw, v_c2, va_s, true_and, and_true, Option.toList, List.nil_append, List.cons_append, List.take, List.drop, List.reverse, List.reverseAux, List.length_cons, List.length_nil, reduceCtorEq, false_implies, true_implies, forall_const, not_true_eq_false, not_false_eq_true, ite_true, ite_false, Bool.false_eq_true, I_I, J_J, Nat.add_left_cancel_iff, Nat.reduceEqDiff, Nat.add_eq_left, Nat.left_eq_add, false_and, and_false, Nat.reduceSub, Nat.sub_self, Nat.le_refl, Nat.zero_le, ge_iff_le, Nat.reduceAdd, Nat.reduceLeDiff, Nat.zero_add, Nat.reduceLT, z_lt, z_le, z_eq, z_l0, z_g0, z_le0, z_ge0, z_e0, z_e1, z_vp, z_nc, z_rem, z_div, i_ltT, i_ltF, i_leT, i_leF, i_eqT, i_eqF, n_ltT, n_ltF, n_leT, n_leF, n_eqT, n_eqF, tn_9, tn_12, tn_14, tn_20, tn_28, tn_44, tn_52, tn_68, tn_84, tn_100, tn_116, tn_132, fu_e, up_eq, ob_0, ob_b, oi_add, oi_sub, oi_mul, oi_neg, rs_sh, rs_R, rs_N, rs_J, rs_F, rs_A, rs_o, rs_wA, rs_wF, rs_w, Int.add_zero, Int.zero_add, or_true, true_or, or_false, false_or, and_self, z_i2l, z_l2i, lo_nat, lo_add, lo_sub, lo_mul, lo_0, e_rem, mr_X10_divides, mh_X10_divides, sh, rf]
    refine rt_X10_divides_46 ?_
    simp (disch := omega) only [wp_c, wp_n, jj_n, Int.reduceToNat, Int.toNat_natCast, stE, wlE, lgt, lpu, lpw, v_c2, va_s, true_and, and_true, Option.toList, List.nil_append, List.cons_append, List.take, List.drop, List.reverse, List.reverseAux, List.length_cons, List.length_nil, reduceCtorEq, false_implies, true_implies, forall_const, not_true_eq_false, not_false_eq_true, ite_true, ite_false, Bool.false_eq_true, I_I, J_J, Nat.add_left_cancel_iff, Nat.reduceEqDiff, Nat.add_eq_left, Nat.left_eq_add, false_and, and_false, Nat.reduceSub, Nat.sub_self, Nat.le_refl, Nat.zero_le, ge_iff_le, Nat.reduceAdd, Nat.reduceLeDiff, Nat.zero_add, Nat.reduceLT, z_lt, z_le, z_eq, z_l0, z_g0, z_le0, z_ge0, z_e0, z_e1, z_vp, z_nc, z_rem, z_div, i_ltT, i_ltF, i_leT, i_leF, i_eqT, i_eqF, n_ltT, n_ltF, n_leT, n_leF, n_eqT, n_eqF, tn_9, tn_12, tn_14, tn_20, tn_28, tn_44, tn_52, tn_68, tn_84, tn_100, tn_116, tn_132, fu_e, up_eq, ob_0, ob_b, oi_add, oi_sub, oi_mul, oi_neg, rs_sh, rs_R, rs_N, rs_J, rs_F, rs_A, rs_o, rs_wA, rs_wF, rs_w, Int.add_zero, Int.zero_add, or_true, true_or, or_false, false_or, and_self, z_i2l, z_l2i, lo_nat, lo_add, lo_sub, lo_mul, lo_0, e_rem, mr_X10_divides, mh_X10_divides, sh, rf]
    exact hq G hG
  | succ m ih =>
    intro A t G hm hI h50 h52 hG hq
    have hz := TJ_sz hI.1
    have e1 : (((m + 1 : Nat) : Int) - 1) = (m : Int) := by omega
    refine rt_X10_divides_15 ?_
    rw [e1]
    simp (disch := omega) only [wp_c, wp_n, jj_n, Int.reduceToNat, Int.toNat_natCast, stE, wlE, lgt, lpu, lpw, v_c2, va_s, true_and, and_true, Option.toList, List.nil_append, List.cons_append, List.take, List.drop, List.reverse, List.reverseAux, List.length_cons, List.length_nil, reduceCtorEq, false_implies, true_implies, forall_const, not_true_eq_false, not_false_eq_true, ite_true, ite_false, Bool.false_eq_true, I_I, J_J, Nat.add_left_cancel_iff, Nat.reduceEqDiff, Nat.add_eq_left, Nat.left_eq_add, false_and, and_false, Nat.reduceSub, Nat.sub_self, Nat.le_refl, Nat.zero_le, ge_iff_le, Nat.reduceAdd, Nat.reduceLeDiff, Nat.zero_add, Nat.reduceLT, z_lt, z_le, z_eq, z_l0, z_g0, z_le0, z_ge0, z_e0, z_e1, z_vp, z_nc, z_rem, z_div, i_ltT, i_ltF, i_leT, i_leF, i_eqT, i_eqF, n_ltT, n_ltF, n_leT, n_leF, n_eqT, n_eqF, tn_9, tn_12, tn_14, tn_20, tn_28, tn_44, tn_52, tn_68, tn_84, tn_100, tn_116, tn_132, fu_e, up_eq, ob_0, ob_b, oi_add, oi_sub, oi_mul, oi_neg, rs_sh, rs_R, rs_N, rs_J, rs_F, rs_A, rs_o, rs_wA, rs_wF, rs_w, Int.add_zero, Int.zero_add, or_true, true_or, or_false, false_or, and_self, z_i2l, z_l2i, lo_nat, lo_add, lo_sub, lo_mul, lo_0, e_rem, mr_X10_divides, mh_X10_divides, sh, rf]
    refine c_isJammed hR0 (by omega) ?_
    simp (disch := omega) only [wp_c, wp_n, jj_n, Int.reduceToNat, Int.toNat_natCast, stE, wlE, lgt, lpu, lpw, v_c2, va_s, true_and, and_true, Option.toList, List.nil_append, List.cons_append, List.take, List.drop, List.reverse, List.reverseAux, List.length_cons, List.length_nil, reduceCtorEq, false_implies, true_implies, forall_const, not_true_eq_false, not_false_eq_true, ite_true, ite_false, Bool.false_eq_true, I_I, J_J, Nat.add_left_cancel_iff, Nat.reduceEqDiff, Nat.add_eq_left, Nat.left_eq_add, false_and, and_false, Nat.reduceSub, Nat.sub_self, Nat.le_refl, Nat.zero_le, ge_iff_le, Nat.reduceAdd, Nat.reduceLeDiff, Nat.zero_add, Nat.reduceLT, z_lt, z_le, z_eq, z_l0, z_g0, z_le0, z_ge0, z_e0, z_e1, z_vp, z_nc, z_rem, z_div, i_ltT, i_ltF, i_leT, i_leF, i_eqT, i_eqF, n_ltT, n_ltF, n_leT, n_leF, n_eqT, n_eqF, tn_9, tn_12, tn_14, tn_20, tn_28, tn_44, tn_52, tn_68, tn_84, tn_100, tn_116, tn_132, fu_e, up_eq, ob_0, ob_b, oi_add, oi_sub, oi_mul, oi_neg, rs_sh, rs_R, rs_N, rs_J, rs_F, rs_A, rs_o, rs_wA, rs_wF, rs_w, Int.add_zero, Int.zero_add, or_true, true_or, or_false, false_or, and_self, z_i2l, z_l2i, lo_nat, lo_add, lo_sub, lo_mul, lo_0, e_rem, mr_X10_divides, mh_X10_divides, sh, rf]
    refine ⟨fun h => ?_, fun h => ?_⟩
    · rw [if_pos (by omega)] at hq
      refine rt_X10_divides_46 ?_
      simp (disch := omega) only [wp_c, wp_n, jj_n, Int.reduceToNat, Int.toNat_natCast, stE, wlE, lgt, lpu, lpw, v_c2, va_s, true_and, and_true, Option.toList, List.nil_append, List.cons_append, List.take, List.drop, List.reverse, List.reverseAux, List.length_cons, List.length_nil, reduceCtorEq, false_implies, true_implies, forall_const, not_true_eq_false, not_false_eq_true, ite_true, ite_false, Bool.false_eq_true, I_I, J_J, Nat.add_left_cancel_iff, Nat.reduceEqDiff, Nat.add_eq_left, Nat.left_eq_add, false_and, and_false, Nat.reduceSub, Nat.sub_self, Nat.le_refl, Nat.zero_le, ge_iff_le, Nat.reduceAdd, Nat.reduceLeDiff, Nat.zero_add, Nat.reduceLT, z_lt, z_le, z_eq, z_l0, z_g0, z_le0, z_ge0, z_e0, z_e1, z_vp, z_nc, z_rem, z_div, i_ltT, i_ltF, i_leT, i_leF, i_eqT, i_eqF, n_ltT, n_ltF, n_leT, n_leF, n_eqT, n_eqF, tn_9, tn_12, tn_14, tn_20, tn_28, tn_44, tn_52, tn_68, tn_84, tn_100, tn_116, tn_132, fu_e, up_eq, ob_0, ob_b, oi_add, oi_sub, oi_mul, oi_neg, rs_sh, rs_R, rs_N, rs_J, rs_F, rs_A, rs_o, rs_wA, rs_wF, rs_w, Int.add_zero, Int.zero_add, or_true, true_or, or_false, false_or, and_self, z_i2l, z_l2i, lo_nat, lo_add, lo_sub, lo_mul, lo_0, e_rem, mr_X10_divides, mh_X10_divides, sh, rf]
      exact hq G hG
    · rw [if_neg (by omega), a_dv] at hq
      have hI4 : RI (up A 4 (m : Int)) := hI.pos (by omega) (by omega)
      have e5 : up A 4 (m : Int) 5 = A 5 := by rw [up_eq, if_neg (by omega)]
      obtain ⟨m1, m2, m3, m4⟩ := dh_RI 10 (up A 4 (m : Int)) 0 hI4 (by omega) (by omega)
      refine c_dAt hR0 hI4 fun F' hF => ?_
      generalize a_dh 10 (up A 4 (m : Int)) 0 = z at hq m1 m2 m3 m4 ⊢
      obtain ⟨B, s⟩ := z
      simp only at m3
      have e0 : B 0 = A 0 := (m2 0 (by omega)).trans (by rw [up_eq, if_neg (by omega)])
      have e1 : B 1 = A 1 := (m2 1 (by omega)).trans (by rw [up_eq, if_neg (by omega)])
      simp (disch := omega) only [wp_c, wp_n, jj_n, Int.reduceToNat, Int.toNat_natCast, stE, wlE, lgt, lpu, lpw, v_c2, va_s, true_and, and_true, Option.toList, List.nil_append, List.cons_append, List.take, List.drop, List.reverse, List.reverseAux, List.length_cons, List.length_nil, reduceCtorEq, false_implies, true_implies, forall_const, not_true_eq_false, not_false_eq_true, ite_true, ite_false, Bool.false_eq_true, I_I, J_J, Nat.add_left_cancel_iff, Nat.reduceEqDiff, Nat.add_eq_left, Nat.left_eq_add, false_and, and_false, Nat.reduceSub, Nat.sub_self, Nat.le_refl, Nat.zero_le, ge_iff_le, Nat.reduceAdd, Nat.reduceLeDiff, Nat.zero_add, Nat.reduceLT, z_lt, z_le, z_eq, z_l0, z_g0, z_le0, z_ge0, z_e0, z_e1, z_vp, z_nc, z_rem, z_div, i_ltT, i_ltF, i_leT, i_leF, i_eqT, i_eqF, n_ltT, n_ltF, n_leT, n_leF, n_eqT, n_eqF, tn_9, tn_12, tn_14, tn_20, tn_28, tn_44, tn_52, tn_68, tn_84, tn_100, tn_116, tn_132, fu_e, up_eq, ob_0, ob_b, oi_add, oi_sub, oi_mul, oi_neg, rs_sh, rs_R, rs_N, rs_J, rs_F, rs_A, rs_o, rs_wA, rs_wF, rs_w, Int.add_zero, Int.zero_add, or_true, true_or, or_false, false_or, and_self, z_i2l, z_l2i, lo_nat, lo_add, lo_sub, lo_mul, lo_0, e_rem, mr_X10_divides, mh_X10_divides, sh, rf]
      have en : (m : Int) + -1 = (m : Int) - 1 := by omega
      rw [en]
      exact ih B (t + s) F' (by omega) m1 m3.1 m3.2 (hG.trans hF) hq
theorem c_rdivides {r : Nat} {w : mW} {A : Row} {F : Nat → Int32} {Q : mW → mO → Prop} (hR : Rb w r) (hI : RI A) (h5 : A 5 = 0) (hq : ∀ F', FG F F' → Q (rs r w (a_dv (A 1 - A 0 + 1).toNat (up A 8 1) 0).1 F') (.inl (some (.int (Int32.ofInt (a_dv (A 1 - A 0 + 1).toNat (up A 8 1) 0).2))))) : CT n_X10_divides [.ref r] (rs r w A F) Q := by
  have hR0 := hR
  have hz := TJ_sz hI.1
  obtain ⟨sh, rf⟩ := hR
  have hI8 : RI (up A 8 1) := ⟨hI.1.up8, by rw [up_eq, if_pos rfl]; exact Or.inr rfl, by rw [up_eq, if_neg (by omega)]; exact hI.2.2⟩
  have e0 : up A 8 1 0 = A 0 := by rw [up_eq, if_neg (by omega)]
  have e1 : up A 8 1 1 = A 1 := by rw [up_eq, if_neg (by omega)]
  have e5 : up A 8 1 5 = 0 := by rw [up_eq, if_neg (by omega)]; exact h5
  refine ct_X10_divides (rt_X10_divides_0 ?_)
  simp (disch := omega) only [wp_c, wp_n, jj_n, Int.reduceToNat, Int.toNat_natCast, stE, wlE, lgt, lpu, lpw, v_c2, va_s, true_and, and_true, Option.toList, List.nil_append, List.cons_append, List.take, List.drop, List.reverse, List.reverseAux, List.length_cons, List.length_nil, reduceCtorEq, false_implies, true_implies, forall_const, not_true_eq_false, not_false_eq_true, ite_true, ite_false, Bool.false_eq_true, I_I, J_J, Nat.add_left_cancel_iff, Nat.reduceEqDiff, Nat.add_eq_left, Nat.left_eq_add, false_and, and_false, Nat.reduceSub, Nat.sub_self, Nat.le_refl, Nat.zero_le, ge_iff_le, Nat.reduceAdd, Nat.reduceLeDiff, Nat.zero_add, Nat.reduceLT, z_lt, z_le, z_eq, z_l0, z_g0, z_le0, z_ge0, z_e0, z_e1, z_vp, z_nc, z_rem, z_div, i_ltT, i_ltF, i_leT, i_leF, i_eqT, i_eqF, n_ltT, n_ltF, n_leT, n_leF, n_eqT, n_eqF, tn_9, tn_12, tn_14, tn_20, tn_28, tn_44, tn_52, tn_68, tn_84, tn_100, tn_116, tn_132, fu_e, up_eq, ob_0, ob_b, oi_add, oi_sub, oi_mul, oi_neg, rs_sh, rs_R, rs_N, rs_J, rs_F, rs_A, rs_o, rs_wA, rs_wF, rs_w, Int.add_zero, Int.zero_add, or_true, true_or, or_false, false_or, and_self, z_i2l, z_l2i, lo_nat, lo_add, lo_sub, lo_mul, lo_0, e_rem, mr_X10_divides, mh_X10_divides, sh, rf]
  refine c_top hR0 ?_
  simp (disch := omega) only [wp_c, wp_n, jj_n, Int.reduceToNat, Int.toNat_natCast, stE, wlE, lgt, lpu, lpw, v_c2, va_s, true_and, and_true, Option.toList, List.nil_append, List.cons_append, List.take, List.drop, List.reverse, List.reverseAux, List.length_cons, List.length_nil, reduceCtorEq, false_implies, true_implies, forall_const, not_true_eq_false, not_false_eq_true, ite_true, ite_false, Bool.false_eq_true, I_I, J_J, Nat.add_left_cancel_iff, Nat.reduceEqDiff, Nat.add_eq_left, Nat.left_eq_add, false_and, and_false, Nat.reduceSub, Nat.sub_self, Nat.le_refl, Nat.zero_le, ge_iff_le, Nat.reduceAdd, Nat.reduceLeDiff, Nat.zero_add, Nat.reduceLT, z_lt, z_le, z_eq, z_l0, z_g0, z_le0, z_ge0, z_e0, z_e1, z_vp, z_nc, z_rem, z_div, i_ltT, i_ltF, i_leT, i_leF, i_eqT, i_eqF, n_ltT, n_ltF, n_leT, n_leF, n_eqT, n_eqF, tn_9, tn_12, tn_14, tn_20, tn_28, tn_44, tn_52, tn_68, tn_84, tn_100, tn_116, tn_132, fu_e, up_eq, ob_0, ob_b, oi_add, oi_sub, oi_mul, oi_neg, rs_sh, rs_R, rs_N, rs_J, rs_F, rs_A, rs_o, rs_wA, rs_wF, rs_w, Int.add_zero, Int.zero_add, or_true, true_or, or_false, false_or, and_self, z_i2l, z_l2i, lo_nat, lo_add, lo_sub, lo_mul, lo_0, e_rem, mr_X10_divides, mh_X10_divides, sh, rf]
  have := c_rdv_15 (Q := Q) hR0 (A 1 - A 0 + 1).toNat (up A 8 1) 0 F (by omega) hI8 (by omega) (by omega) (FG.refl F) (fun F' hF => by rw [if_neg (by omega)]; exact hq F' hF)
  have ec : (((A 1 - A 0 + 1).toNat : Nat) : Int) - 1 = A 1 - A 0 := by omega
  rw [ec] at this
  exact this
/-! pins, and clearing -/
theorem c_pinsAre_4 {r : Nat} {x : Int32} {w : mW} {F : Nat → Int32} {Q : mW → mO → Prop} (hR : Rb w r) : ∀ (n j : Nat) (v : Int) (A : Row), (j : Int) + n = A 0 → A 0 ≤ 8 → 0 ≤ v ∧ v ≤ 2147483647 → Q (rs r w (a_pp n A j v) F) (.inl none) →
    RT n_X10_pinsAre 4 [.ref r, .int x, .int (Int32.ofInt v), .int (Int32.ofInt j)] [] (rs r w A F) (0, 0, false) Q := by
  obtain ⟨sh, rf⟩ := hR
  intro n
  induction n with
  | zero =>
    intro j v A hn h8 hv hq
    refine rt_X10_pinsAre_4 ?_
    simp (disch := omega) only [wp_c, wp_n, jj_n, Int.reduceToNat, Int.toNat_natCast, stE, wlE, lgt, lpu, lpw, v_c2, va_s, true_and, and_true, Option.toList, List.nil_append, List.cons_append, List.take, List.drop, List.reverse, List.reverseAux, List.length_cons, List.length_nil, reduceCtorEq, false_implies, true_implies, forall_const, not_true_eq_false, not_false_eq_true, ite_true, ite_false, Bool.false_eq_true, I_I, J_J, Nat.add_left_cancel_iff, Nat.reduceEqDiff, Nat.add_eq_left, Nat.left_eq_add, false_and, and_false, Nat.reduceSub, Nat.sub_self, Nat.le_refl, Nat.zero_le, ge_iff_le, Nat.reduceAdd, Nat.reduceLeDiff, Nat.zero_add, Nat.reduceLT, z_lt, z_le, z_eq, z_l0, z_g0, z_le0, z_ge0, z_e0, z_e1, z_vp, z_nc, z_rem, z_div, i_ltT, i_ltF, i_leT, i_leF, i_eqT, i_eqF, n_ltT, n_ltF, n_leT, n_leF, n_eqT, n_eqF, tn_9, tn_12, tn_14, tn_20, tn_28, tn_44, tn_52, tn_68, tn_84, tn_100, tn_116, tn_132, fu_e, up_eq, ob_0, ob_b, oi_add, oi_sub, oi_mul, oi_neg, rs_sh, rs_R, rs_N, rs_J, rs_F, rs_A, rs_o, rs_wA, rs_wF, rs_w, Int.add_zero, Int.zero_add, or_true, true_or, or_false, false_or, and_self, z_i2l, z_l2i, lo_nat, lo_add, lo_sub, lo_mul, lo_0, e_rem, mr_X10_pinsAre, mh_X10_pinsAre, sh, rf]
    refine rt_X10_pinsAre_38 ?_
    simp (disch := omega) only [wp_c, wp_n, jj_n, Int.reduceToNat, Int.toNat_natCast, stE, wlE, lgt, lpu, lpw, v_c2, va_s, true_and, and_true, Option.toList, List.nil_append, List.cons_append, List.take, List.drop, List.reverse, List.reverseAux, List.length_cons, List.length_nil, reduceCtorEq, false_implies, true_implies, forall_const, not_true_eq_false, not_false_eq_true, ite_true, ite_false, Bool.false_eq_true, I_I, J_J, Nat.add_left_cancel_iff, Nat.reduceEqDiff, Nat.add_eq_left, Nat.left_eq_add, false_and, and_false, Nat.reduceSub, Nat.sub_self, Nat.le_refl, Nat.zero_le, ge_iff_le, Nat.reduceAdd, Nat.reduceLeDiff, Nat.zero_add, Nat.reduceLT, z_lt, z_le, z_eq, z_l0, z_g0, z_le0, z_ge0, z_e0, z_e1, z_vp, z_nc, z_rem, z_div, i_ltT, i_ltF, i_leT, i_leF, i_eqT, i_eqF, n_ltT, n_ltF, n_leT, n_leF, n_eqT, n_eqF, tn_9, tn_12, tn_14, tn_20, tn_28, tn_44, tn_52, tn_68, tn_84, tn_100, tn_116, tn_132, fu_e, up_eq, ob_0, ob_b, oi_add, oi_sub, oi_mul, oi_neg, rs_sh, rs_R, rs_N, rs_J, rs_F, rs_A, rs_o, rs_wA, rs_wF, rs_w, Int.add_zero, Int.zero_add, or_true, true_or, or_false, false_or, and_self, z_i2l, z_l2i, lo_nat, lo_add, lo_sub, lo_mul, lo_0, e_rem, mr_X10_pinsAre, mh_X10_pinsAre, sh, rf]
    exact hq
  | succ n ih =>
    intro j v A hn h8 hv hq
    refine rt_X10_pinsAre_4 ?_
    simp (disch := omega) only [wp_c, wp_n, jj_n, Int.reduceToNat, Int.toNat_natCast, stE, wlE, lgt, lpu, lpw, v_c2, va_s, true_and, and_true, Option.toList, List.nil_append, List.cons_append, List.take, List.drop, List.reverse, List.reverseAux, List.length_cons, List.length_nil, reduceCtorEq, false_implies, true_implies, forall_const, not_true_eq_false, not_false_eq_true, ite_true, ite_false, Bool.false_eq_true, I_I, J_J, Nat.add_left_cancel_iff, Nat.reduceEqDiff, Nat.add_eq_left, Nat.left_eq_add, false_and, and_false, Nat.reduceSub, Nat.sub_self, Nat.le_refl, Nat.zero_le, ge_iff_le, Nat.reduceAdd, Nat.reduceLeDiff, Nat.zero_add, Nat.reduceLT, z_lt, z_le, z_eq, z_l0, z_g0, z_le0, z_ge0, z_e0, z_e1, z_vp, z_nc, z_rem, z_div, i_ltT, i_ltF, i_leT, i_leF, i_eqT, i_eqF, n_ltT, n_ltF, n_leT, n_leF, n_eqT, n_eqF, tn_9, tn_12, tn_14, tn_20, tn_28, tn_44, tn_52, tn_68, tn_84, tn_100, tn_116, tn_132, fu_e, up_eq, ob_0, ob_b, oi_add, oi_sub, oi_mul, oi_neg, rs_sh, rs_R, rs_N, rs_J, rs_F, rs_A, rs_o, rs_wA, rs_wF, rs_w, Int.add_zero, Int.zero_add, or_true, true_or, or_false, false_or, and_self, z_i2l, z_l2i, lo_nat, lo_add, lo_sub, lo_mul, lo_0, e_rem, mr_X10_pinsAre, mh_X10_pinsAre, sh, rf]
    exact ih (j + 1) (v / 10) _ (by rw [up_eq, if_neg (by omega)]; omega) (by rw [up_eq, if_neg (by omega)]; exact h8) (by omega) hq
theorem c_pinsAre {r : Nat} {v : Int} {w : mW} {A : Row} {F : Nat → Int32} {Q : mW → mO → Prop} (hR : Rb w r) (h0 : 0 ≤ A 0 ∧ A 0 ≤ 8) (hv : 0 ≤ v ∧ v ≤ 2147483647) (hq : Q (rs r w (a_pp (A 0).toNat A 0 v) F) (.inl none)) : CT n_X10_pinsAre [.ref r, .int (Int32.ofInt v)] (rs r w A F) Q := by
  refine ct_X10_pinsAre (rt_X10_pinsAre_0 ?_)
  simp (disch := omega) only [wp_c, wp_n, jj_n, Int.reduceToNat, Int.toNat_natCast, stE, wlE, lgt, lpu, lpw, v_c2, va_s, true_and, and_true, Option.toList, List.nil_append, List.cons_append, List.take, List.drop, List.reverse, List.reverseAux, List.length_cons, List.length_nil, reduceCtorEq, false_implies, true_implies, forall_const, not_true_eq_false, not_false_eq_true, ite_true, ite_false, Bool.false_eq_true, I_I, J_J, Nat.add_left_cancel_iff, Nat.reduceEqDiff, Nat.add_eq_left, Nat.left_eq_add, false_and, and_false, Nat.reduceSub, Nat.sub_self, Nat.le_refl, Nat.zero_le, ge_iff_le, Nat.reduceAdd, Nat.reduceLeDiff, Nat.zero_add, Nat.reduceLT, z_lt, z_le, z_eq, z_l0, z_g0, z_le0, z_ge0, z_e0, z_e1, z_vp, z_nc, z_rem, z_div, i_ltT, i_ltF, i_leT, i_leF, i_eqT, i_eqF, n_ltT, n_ltF, n_leT, n_leF, n_eqT, n_eqF, tn_9, tn_12, tn_14, tn_20, tn_28, tn_44, tn_52, tn_68, tn_84, tn_100, tn_116, tn_132, fu_e, up_eq, ob_0, ob_b, oi_add, oi_sub, oi_mul, oi_neg, rs_sh, rs_R, rs_N, rs_J, rs_F, rs_A, rs_o, rs_wA, rs_wF, rs_w, Int.add_zero, Int.zero_add, or_true, true_or, or_false, false_or, and_self, z_i2l, z_l2i, lo_nat, lo_add, lo_sub, lo_mul, lo_0, e_rem, mr_X10_pinsAre, mh_X10_pinsAre]
  exact c_pinsAre_4 hR (A 0).toNat 0 v A (by omega) h0.2 hv hq
theorem num_b {A : Row} (h0 : 0 ≤ A 0 ∧ A 0 ≤ 8) (hd : ∀ j, j < 8 → 0 ≤ A (20 + j) ∧ A (20 + j) ≤ 9) : 0 ≤ p_num A ∧ p_num A < 100000000 := by
  have := hn_b (fun i => A (20 + i)) (A 0).toNat 0 (fun i hi => hd i (by omega)) (by omega)
  have h8 := p10 (A 0).toNat (by omega)
  unfold p_num
  omega
theorem c_hasPins {r : Nat} {w : mW} {A : Row} {F : Nat → Int32} {Q : mW → mO → Prop} (hR : Rb w r) (h0 : 0 ≤ A 0 ∧ A 0 ≤ 8) (hd : ∀ j, j < 8 → 0 ≤ A (20 + j) ∧ A (20 + j) ≤ 9) (hq : Q (rs r w A F) (.inl (some (.int (Int32.ofInt (if 0 < p_num A then 1 else 0)))))) : CT n_X10_hasPins [.ref r] (rs r w A F) Q := by
  have hR0 := hR
  have hb := num_b h0 hd
  obtain ⟨sh, rf⟩ := hR
  refine ct_X10_hasPins (rt_X10_hasPins_0 ?_)
  simp (disch := omega) only [wp_c, wp_n, jj_n, Int.reduceToNat, Int.toNat_natCast, stE, wlE, lgt, lpu, lpw, v_c2, va_s, true_and, and_true, Option.toList, List.nil_append, List.cons_append, List.take, List.drop, List.reverse, List.reverseAux, List.length_cons, List.length_nil, reduceCtorEq, false_implies, true_implies, forall_const, not_true_eq_false, not_false_eq_true, ite_true, ite_false, Bool.false_eq_true, I_I, J_J, Nat.add_left_cancel_iff, Nat.reduceEqDiff, Nat.add_eq_left, Nat.left_eq_add, false_and, and_false, Nat.reduceSub, Nat.sub_self, Nat.le_refl, Nat.zero_le, ge_iff_le, Nat.reduceAdd, Nat.reduceLeDiff, Nat.zero_add, Nat.reduceLT, z_lt, z_le, z_eq, z_l0, z_g0, z_le0, z_ge0, z_e0, z_e1, z_vp, z_nc, z_rem, z_div, i_ltT, i_ltF, i_leT, i_leF, i_eqT, i_eqF, n_ltT, n_ltF, n_leT, n_leF, n_eqT, n_eqF, tn_9, tn_12, tn_14, tn_20, tn_28, tn_44, tn_52, tn_68, tn_84, tn_100, tn_116, tn_132, fu_e, up_eq, ob_0, ob_b, oi_add, oi_sub, oi_mul, oi_neg, rs_sh, rs_R, rs_N, rs_J, rs_F, rs_A, rs_o, rs_wA, rs_wF, rs_w, Int.add_zero, Int.zero_add, or_true, true_or, or_false, false_or, and_self, z_i2l, z_l2i, lo_nat, lo_add, lo_sub, lo_mul, lo_0, e_rem, mr_X10_hasPins, mh_X10_hasPins, sh, rf]
  refine c_rpins hR0 h0 hd ?_
  simp (disch := omega) only [wp_c, wp_n, jj_n, Int.reduceToNat, Int.toNat_natCast, stE, wlE, lgt, lpu, lpw, v_c2, va_s, true_and, and_true, Option.toList, List.nil_append, List.cons_append, List.take, List.drop, List.reverse, List.reverseAux, List.length_cons, List.length_nil, reduceCtorEq, false_implies, true_implies, forall_const, not_true_eq_false, not_false_eq_true, ite_true, ite_false, Bool.false_eq_true, I_I, J_J, Nat.add_left_cancel_iff, Nat.reduceEqDiff, Nat.add_eq_left, Nat.left_eq_add, false_and, and_false, Nat.reduceSub, Nat.sub_self, Nat.le_refl, Nat.zero_le, ge_iff_le, Nat.reduceAdd, Nat.reduceLeDiff, Nat.zero_add, Nat.reduceLT, z_lt, z_le, z_eq, z_l0, z_g0, z_le0, z_ge0, z_e0, z_e1, z_vp, z_nc, z_rem, z_div, i_ltT, i_ltF, i_leT, i_leF, i_eqT, i_eqF, n_ltT, n_ltF, n_leT, n_leF, n_eqT, n_eqF, tn_9, tn_12, tn_14, tn_20, tn_28, tn_44, tn_52, tn_68, tn_84, tn_100, tn_116, tn_132, fu_e, up_eq, ob_0, ob_b, oi_add, oi_sub, oi_mul, oi_neg, rs_sh, rs_R, rs_N, rs_J, rs_F, rs_A, rs_o, rs_wA, rs_wF, rs_w, Int.add_zero, Int.zero_add, or_true, true_or, or_false, false_or, and_self, z_i2l, z_l2i, lo_nat, lo_add, lo_sub, lo_mul, lo_0, e_rem, mr_X10_hasPins, mh_X10_hasPins, sh, rf]
  repeat' (first | (with_reducible refine And.intro ?_ ?_) | (with_reducible intro _) | ((first | refine rt_X10_hasPins_11 ?_ | refine rt_X10_hasPins_12 ?_); simp (disch := omega) only [wp_c, wp_n, jj_n, Int.reduceToNat, Int.toNat_natCast, stE, wlE, lgt, lpu, lpw, v_c2, va_s, true_and, and_true, Option.toList, List.nil_append, List.cons_append, List.take, List.drop, List.reverse, List.reverseAux, List.length_cons, List.length_nil, reduceCtorEq, false_implies, true_implies, forall_const, not_true_eq_false, not_false_eq_true, ite_true, ite_false, Bool.false_eq_true, I_I, J_J, Nat.add_left_cancel_iff, Nat.reduceEqDiff, Nat.add_eq_left, Nat.left_eq_add, false_and, and_false, Nat.reduceSub, Nat.sub_self, Nat.le_refl, Nat.zero_le, ge_iff_le, Nat.reduceAdd, Nat.reduceLeDiff, Nat.zero_add, Nat.reduceLT, z_lt, z_le, z_eq, z_l0, z_g0, z_le0, z_ge0, z_e0, z_e1, z_vp, z_nc, z_rem, z_div, i_ltT, i_ltF, i_leT, i_leF, i_eqT, i_eqF, n_ltT, n_ltF, n_leT, n_leF, n_eqT, n_eqF, tn_9, tn_12, tn_14, tn_20, tn_28, tn_44, tn_52, tn_68, tn_84, tn_100, tn_116, tn_132, fu_e, up_eq, ob_0, ob_b, oi_add, oi_sub, oi_mul, oi_neg, rs_sh, rs_R, rs_N, rs_J, rs_F, rs_A, rs_o, rs_wA, rs_wF, rs_w, Int.add_zero, Int.zero_add, or_true, true_or, or_false, false_or, and_self, z_i2l, z_l2i, lo_nat, lo_add, lo_sub, lo_mul, lo_0, e_rem, mr_X10_hasPins, mh_X10_hasPins, sh, rf]))
  all_goals first | (rw [if_pos (by omega)] at hq; exact hq) | (rw [if_neg (by omega)] at hq; exact hq)
theorem z_up (A : Row) (lo k : Nat) : up (a_z lo k A) (lo + k) 0 = a_z lo (k + 1) A := by
  funext j
  simp only [up_eq, a_z]
  by_cases h : j = lo + k
  · rw [if_pos h, if_pos (by omega)]
  · rw [if_neg h]
    by_cases h2 : lo ≤ j ∧ j < lo + k
    · rw [if_pos h2, if_pos (by omega)]
    · rw [if_neg h2, if_neg (by omega)]
theorem c_empties_5 {r lo n : Nat} {w : mW} {A : Row} {F : Nat → Int32} {Q : mW → mO → Prop} (hR : Rb w r) (hl : lo + n ≤ 252) (hd : ∀ i, i < n → 0 ≤ A (lo + i) ∧ A (lo + i) ≤ 9) (hq : Q (rs r w (a_z lo n A) F) (.inl (some (.int (Int32.ofInt (a_zc A lo n)))))) : ∀ (m k : Nat), k + m = n →
    RT n_X10_empties 5 [.ref r, .int (Int32.ofInt lo), .int (Int32.ofInt n), .int (Int32.ofInt (a_zc A lo k)), .int (Int32.ofInt ((lo + k : Nat) : Int))] [] (rs r w (a_z lo k A) F) (0, 0, false) Q := by
  obtain ⟨sh, rf⟩ := hR
  intro m
  induction m with
  | zero =>
    intro k hk
    have e : k = n := by omega
    subst e
    refine rt_X10_empties_5 ?_
    simp (disch := omega) only [wp_c, wp_n, jj_n, Int.reduceToNat, Int.toNat_natCast, stE, wlE, lgt, lpu, lpw, v_c2, va_s, true_and, and_true, Option.toList, List.nil_append, List.cons_append, List.take, List.drop, List.reverse, List.reverseAux, List.length_cons, List.length_nil, reduceCtorEq, false_implies, true_implies, forall_const, not_true_eq_false, not_false_eq_true, ite_true, ite_false, Bool.false_eq_true, I_I, J_J, Nat.add_left_cancel_iff, Nat.reduceEqDiff, Nat.add_eq_left, Nat.left_eq_add, false_and, and_false, Nat.reduceSub, Nat.sub_self, Nat.le_refl, Nat.zero_le, ge_iff_le, Nat.reduceAdd, Nat.reduceLeDiff, Nat.zero_add, Nat.reduceLT, z_lt, z_le, z_eq, z_l0, z_g0, z_le0, z_ge0, z_e0, z_e1, z_vp, z_nc, z_rem, z_div, i_ltT, i_ltF, i_leT, i_leF, i_eqT, i_eqF, n_ltT, n_ltF, n_leT, n_leF, n_eqT, n_eqF, tn_9, tn_12, tn_14, tn_20, tn_28, tn_44, tn_52, tn_68, tn_84, tn_100, tn_116, tn_132, fu_e, up_eq, ob_0, ob_b, oi_add, oi_sub, oi_mul, oi_neg, rs_sh, rs_R, rs_N, rs_J, rs_F, rs_A, rs_o, rs_wA, rs_wF, rs_w, Int.add_zero, Int.zero_add, or_true, true_or, or_false, false_or, and_self, z_i2l, z_l2i, lo_nat, lo_add, lo_sub, lo_mul, lo_0, e_rem, mr_X10_empties, mh_X10_empties, sh, rf]
    refine rt_X10_empties_45 ?_
    simp (disch := omega) only [wp_c, wp_n, jj_n, Int.reduceToNat, Int.toNat_natCast, stE, wlE, lgt, lpu, lpw, v_c2, va_s, true_and, and_true, Option.toList, List.nil_append, List.cons_append, List.take, List.drop, List.reverse, List.reverseAux, List.length_cons, List.length_nil, reduceCtorEq, false_implies, true_implies, forall_const, not_true_eq_false, not_false_eq_true, ite_true, ite_false, Bool.false_eq_true, I_I, J_J, Nat.add_left_cancel_iff, Nat.reduceEqDiff, Nat.add_eq_left, Nat.left_eq_add, false_and, and_false, Nat.reduceSub, Nat.sub_self, Nat.le_refl, Nat.zero_le, ge_iff_le, Nat.reduceAdd, Nat.reduceLeDiff, Nat.zero_add, Nat.reduceLT, z_lt, z_le, z_eq, z_l0, z_g0, z_le0, z_ge0, z_e0, z_e1, z_vp, z_nc, z_rem, z_div, i_ltT, i_ltF, i_leT, i_leF, i_eqT, i_eqF, n_ltT, n_ltF, n_leT, n_leF, n_eqT, n_eqF, tn_9, tn_12, tn_14, tn_20, tn_28, tn_44, tn_52, tn_68, tn_84, tn_100, tn_116, tn_132, fu_e, up_eq, ob_0, ob_b, oi_add, oi_sub, oi_mul, oi_neg, rs_sh, rs_R, rs_N, rs_J, rs_F, rs_A, rs_o, rs_wA, rs_wF, rs_w, Int.add_zero, Int.zero_add, or_true, true_or, or_false, false_or, and_self, z_i2l, z_l2i, lo_nat, lo_add, lo_sub, lo_mul, lo_0, e_rem, mr_X10_empties, mh_X10_empties, sh, rf]
    exact hq
  | succ m ih =>
    intro k hk
    have hdk := hd k (by omega)
    have ek : a_z lo k A (lo + k) = A (lo + k) := by simp only [a_z]; rw [if_neg (by omega)]
    have := ih (k + 1) (by omega)
    rw [a_zc, ← z_up, show ((lo + (k + 1) : Nat) : Int) = ((lo + k : Nat) : Int) + 1 by omega] at this
    clear ih
    refine rt_X10_empties_5 ?_
    simp (disch := omega) only [wp_c, wp_n, jj_n, Int.reduceToNat, Int.toNat_natCast, stE, wlE, lgt, lpu, lpw, v_c2, va_s, true_and, and_true, Option.toList, List.nil_append, List.cons_append, List.take, List.drop, List.reverse, List.reverseAux, List.length_cons, List.length_nil, reduceCtorEq, false_implies, true_implies, forall_const, not_true_eq_false, not_false_eq_true, ite_true, ite_false, Bool.false_eq_true, I_I, J_J, Nat.add_left_cancel_iff, Nat.reduceEqDiff, Nat.add_eq_left, Nat.left_eq_add, false_and, and_false, Nat.reduceSub, Nat.sub_self, Nat.le_refl, Nat.zero_le, ge_iff_le, Nat.reduceAdd, Nat.reduceLeDiff, Nat.zero_add, Nat.reduceLT, z_lt, z_le, z_eq, z_l0, z_g0, z_le0, z_ge0, z_e0, z_e1, z_vp, z_nc, z_rem, z_div, i_ltT, i_ltF, i_leT, i_leF, i_eqT, i_eqF, n_ltT, n_ltF, n_leT, n_leF, n_eqT, n_eqF, tn_9, tn_12, tn_14, tn_20, tn_28, tn_44, tn_52, tn_68, tn_84, tn_100, tn_116, tn_132, fu_e, up_eq, ob_0, ob_b, oi_add, oi_sub, oi_mul, oi_neg, rs_sh, rs_R, rs_N, rs_J, rs_F, rs_A, rs_o, rs_wA, rs_wF, rs_w, Int.add_zero, Int.zero_add, or_true, true_or, or_false, false_or, and_self, z_i2l, z_l2i, lo_nat, lo_add, lo_sub, lo_mul, lo_0, e_rem, mr_X10_empties, mh_X10_empties, sh, rf, ek]
    repeat' (first | (with_reducible refine And.intro ?_ ?_) | (with_reducible intro _) | ((first | refine rt_X10_empties_28 ?_ | refine rt_X10_empties_29 ?_ | refine rt_X10_empties_45 ?_); simp (disch := omega) only [wp_c, wp_n, jj_n, Int.reduceToNat, Int.toNat_natCast, stE, wlE, lgt, lpu, lpw, v_c2, va_s, true_and, and_true, Option.toList, List.nil_append, List.cons_append, List.take, List.drop, List.reverse, List.reverseAux, List.length_cons, List.length_nil, reduceCtorEq, false_implies, true_implies, forall_const, not_true_eq_false, not_false_eq_true, ite_true, ite_false, Bool.false_eq_true, I_I, J_J, Nat.add_left_cancel_iff, Nat.reduceEqDiff, Nat.add_eq_left, Nat.left_eq_add, false_and, and_false, Nat.reduceSub, Nat.sub_self, Nat.le_refl, Nat.zero_le, ge_iff_le, Nat.reduceAdd, Nat.reduceLeDiff, Nat.zero_add, Nat.reduceLT, z_lt, z_le, z_eq, z_l0, z_g0, z_le0, z_ge0, z_e0, z_e1, z_vp, z_nc, z_rem, z_div, i_ltT, i_ltF, i_leT, i_leF, i_eqT, i_eqF, n_ltT, n_ltF, n_leT, n_leF, n_eqT, n_eqF, tn_9, tn_12, tn_14, tn_20, tn_28, tn_44, tn_52, tn_68, tn_84, tn_100, tn_116, tn_132, fu_e, up_eq, ob_0, ob_b, oi_add, oi_sub, oi_mul, oi_neg, rs_sh, rs_R, rs_N, rs_J, rs_F, rs_A, rs_o, rs_wA, rs_wF, rs_w, Int.add_zero, Int.zero_add, or_true, true_or, or_false, false_or, and_self, z_i2l, z_l2i, lo_nat, lo_add, lo_sub, lo_mul, lo_0, e_rem, mr_X10_empties, mh_X10_empties, sh, rf, ek]))
    all_goals first | (rw [if_pos (by omega), Int.add_zero] at this; exact this) | (rw [if_neg (by omega)] at this; exact this)
theorem c_empties {r lo n : Nat} {u v : Int} {w : mW} {A : Row} {F : Nat → Int32} {Q : mW → mO → Prop} (hR : Rb w r) (hu : u = (lo : Int)) (hv : v = (n : Int)) (hl : lo + n ≤ 252) (hd : ∀ i, i < n → 0 ≤ A (lo + i) ∧ A (lo + i) ≤ 9) (hq : Q (rs r w (a_z lo n A) F) (.inl (some (.int (Int32.ofInt (a_zc A lo n)))))) : CT n_X10_empties [.ref r, .int (Int32.ofInt u), .int (Int32.ofInt v)] (rs r w A F) Q := by
  subst hu; subst hv
  refine ct_X10_empties (rt_X10_empties_0 ?_)
  simp (disch := omega) only [wp_c, wp_n, jj_n, Int.reduceToNat, Int.toNat_natCast, stE, wlE, lgt, lpu, lpw, v_c2, va_s, true_and, and_true, Option.toList, List.nil_append, List.cons_append, List.take, List.drop, List.reverse, List.reverseAux, List.length_cons, List.length_nil, reduceCtorEq, false_implies, true_implies, forall_const, not_true_eq_false, not_false_eq_true, ite_true, ite_false, Bool.false_eq_true, I_I, J_J, Nat.add_left_cancel_iff, Nat.reduceEqDiff, Nat.add_eq_left, Nat.left_eq_add, false_and, and_false, Nat.reduceSub, Nat.sub_self, Nat.le_refl, Nat.zero_le, ge_iff_le, Nat.reduceAdd, Nat.reduceLeDiff, Nat.zero_add, Nat.reduceLT, z_lt, z_le, z_eq, z_l0, z_g0, z_le0, z_ge0, z_e0, z_e1, z_vp, z_nc, z_rem, z_div, i_ltT, i_ltF, i_leT, i_leF, i_eqT, i_eqF, n_ltT, n_ltF, n_leT, n_leF, n_eqT, n_eqF, tn_9, tn_12, tn_14, tn_20, tn_28, tn_44, tn_52, tn_68, tn_84, tn_100, tn_116, tn_132, fu_e, up_eq, ob_0, ob_b, oi_add, oi_sub, oi_mul, oi_neg, rs_sh, rs_R, rs_N, rs_J, rs_F, rs_A, rs_o, rs_wA, rs_wF, rs_w, Int.add_zero, Int.zero_add, or_true, true_or, or_false, false_or, and_self, z_i2l, z_l2i, lo_nat, lo_add, lo_sub, lo_mul, lo_0, e_rem, mr_X10_empties, mh_X10_empties]
  have e0 : a_z lo 0 A = A := by funext j; simp only [a_z]; rw [if_neg (by omega)]
  have := c_empties_5 (F := F) (Q := Q) hR hl hd hq n 0 (by omega)
  rw [e0] at this
  exact this
