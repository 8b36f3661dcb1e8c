theorem FO.K {b q : Nat} {w w' : mW} (h : FO b w w') (hq : w_n w' ≤ q) : FO b w (s_K w' q) := ⟨h.1, by have := h.2; show w_n w ≤ q; omega⟩
section
variable {b o ga gb : Nat} {P : Nat → Nat} {B : Row} {t : Int} {D : Int32} {v3 v4 : Value} {w : mW} {Q : mW → mO → Prop}
theorem z_cl_157 (hO : OW w b o P B) (ht : 0 ≤ t ∧ t ≤ 3) (h1 : 1 ≤ ga) (h8 : 8 ≤ gb) (hq : ∀ w' P' B', OW w' b o P' B' → FO b w w' → (∀ j, B' j = if (20 ≤ j ∧ j < 28) ∧ (t = 0 ∨ t = 3) then 0 else B j) → Q w' (.inl (some (.int D)))) : RT n_X10_clear 157 [.ref o, .int (Int32.ofInt t), .int D, v3, v4] [] w (ga, gb, false) Q := by
  have hF := hO.F
  have hge := hO.ge
  have hlt := hO.lt
  have hb0 := hO.1.2.1
  have c8 : (Int32.ofInt 8).toNatClampNeg = 8 := by decide
  have h166 : (t = 0 ∨ t = 3) → RT n_X10_clear 166 [.ref o, .int (Int32.ofInt t), .int D, v3, v4] [] w (ga, gb, false) Q := by
    intro h03
    refine rt_X10_clear_166 ?_
    simp (disch := omega) only [wp_c, wp_n, jj_n, v_ct, Int.reduceToNat, Int.toNat_natCast, stE, wlE, lgt, lpu, lpw, v_c2, va_s, true_and, and_true, Option.toList, List.nil_append, List.cons_append, List.take, List.drop, List.reverse, List.reverseAux, List.length_cons, List.length_nil, reduceCtorEq, false_implies, true_implies, forall_const, not_true_eq_false, not_false_eq_true, ite_true, ite_false, Bool.false_eq_true, I_I, J_J, Nat.add_left_cancel_iff, Nat.reduceEqDiff, Nat.add_eq_left, Nat.left_eq_add, false_and, and_false, Nat.reduceSub, Nat.sub_self, Nat.le_refl, Nat.zero_le, ge_iff_le, Nat.reduceAdd, Nat.reduceLeDiff, Nat.zero_add, Nat.reduceLT, z_lt, z_le, z_eq, z_l0, z_g0, z_le0, z_ge0, z_e0, z_e1, z_vp, z_nc, z_rem, z_div, i_ltT, i_ltF, i_leT, i_leF, i_eqT, i_eqF, n_ltT, n_ltF, n_leT, n_leF, n_eqT, n_eqF, tn_9, tn_12, tn_14, tn_20, tn_28, tn_44, tn_52, tn_68, tn_84, tn_100, tn_116, tn_132, fu_e, up_eq, ob_0, ob_b, oi_add, oi_sub, oi_mul, oi_neg, Int.add_zero, Int.zero_add, or_true, true_or, or_false, false_or, and_self, z_i2l, z_l2i, lo_nat, lo_add, lo_sub, lo_mul, lo_0, e_rem, hF, c8]
    try refine ⟨by omega, ?_⟩
    intro q hq0
    have h2 := hO.new (f := 15) (n := 8) (by omega) rfl hq0
    have no : ¬ o = 100 + q := by omega
    have f2 : FO b w (s_R (s_N (s_K w q) (1, 8)) o 15 (some (100 + q))) := ((FO.refl _ _).N hq0 (by omega)).R hge.1
    simp (disch := omega) only [wp_c, wp_n, jj_n, v_ct, Int.reduceToNat, Int.toNat_natCast, stE, wlE, lgt, lpu, lpw, v_c2, va_s, true_and, and_true, Option.toList, List.nil_append, List.cons_append, List.take, List.drop, List.reverse, List.reverseAux, List.length_cons, List.length_nil, reduceCtorEq, false_implies, true_implies, forall_const, not_true_eq_false, not_false_eq_true, ite_true, ite_false, Bool.false_eq_true, I_I, J_J, Nat.add_left_cancel_iff, Nat.reduceEqDiff, Nat.add_eq_left, Nat.left_eq_add, false_and, and_false, Nat.reduceSub, Nat.sub_self, Nat.le_refl, Nat.zero_le, ge_iff_le, Nat.reduceAdd, Nat.reduceLeDiff, Nat.zero_add, Nat.reduceLT, z_lt, z_le, z_eq, z_l0, z_g0, z_le0, z_ge0, z_e0, z_e1, z_vp, z_nc, z_rem, z_div, i_ltT, i_ltF, i_leT, i_leF, i_eqT, i_eqF, n_ltT, n_ltF, n_leT, n_leF, n_eqT, n_eqF, tn_9, tn_12, tn_14, tn_20, tn_28, tn_44, tn_52, tn_68, tn_84, tn_100, tn_116, tn_132, fu_e, up_eq, ob_0, ob_b, oi_add, oi_sub, oi_mul, oi_neg, Int.add_zero, Int.zero_add, or_true, true_or, or_false, false_or, and_self, z_i2l, z_l2i, lo_nat, lo_add, lo_sub, lo_mul, lo_0, e_rem, NK_sh, NK_shn no, NK_Rn no, R_sh, hF]
    refine rt_X10_clear_174 ?_
    simp (disch := omega) only [wp_c, wp_n, jj_n, v_ct, Int.reduceToNat, Int.toNat_natCast, stE, wlE, lgt, lpu, lpw, v_c2, va_s, true_and, and_true, Option.toList, List.nil_append, List.cons_append, List.take, List.drop, List.reverse, List.reverseAux, List.length_cons, List.length_nil, reduceCtorEq, false_implies, true_implies, forall_const, not_true_eq_false, not_false_eq_true, ite_true, ite_false, Bool.false_eq_true, I_I, J_J, Nat.add_left_cancel_iff, Nat.reduceEqDiff, Nat.add_eq_left, Nat.left_eq_add, false_and, and_false, Nat.reduceSub, Nat.sub_self, Nat.le_refl, Nat.zero_le, ge_iff_le, Nat.reduceAdd, Nat.reduceLeDiff, Nat.zero_add, Nat.reduceLT, z_lt, z_le, z_eq, z_l0, z_g0, z_le0, z_ge0, z_e0, z_e1, z_vp, z_nc, z_rem, z_div, i_ltT, i_ltF, i_leT, i_leF, i_eqT, i_eqF, n_ltT, n_ltF, n_leT, n_leF, n_eqT, n_eqF, tn_9, tn_12, tn_14, tn_20, tn_28, tn_44, tn_52, tn_68, tn_84, tn_100, tn_116, tn_132, fu_e, up_eq, ob_0, ob_b, oi_add, oi_sub, oi_mul, oi_neg, Int.add_zero, Int.zero_add, or_true, true_or, or_false, false_or, and_self, z_i2l, z_l2i, lo_nat, lo_add, lo_sub, lo_mul, lo_0, e_rem, mr_X10_clear]
    refine hq _ _ _ h2 f2 (fun j => ?_)
    simp only [olen, oi, Nat.reduceEqDiff, ite_true, ite_false, Nat.add_zero, Nat.reduceAdd, h03, and_true]
  have h174 : ¬ (t = 0 ∨ t = 3) → RT n_X10_clear 174 [.ref o, .int (Int32.ofInt t), .int D, v3, v4] [] w (ga, gb, false) Q := by
    intro h03
    refine rt_X10_clear_174 ?_
    simp (disch := omega) only [wp_c, wp_n, jj_n, v_ct, Int.reduceToNat, Int.toNat_natCast, stE, wlE, lgt, lpu, lpw, v_c2, va_s, true_and, and_true, Option.toList, List.nil_append, List.cons_append, List.take, List.drop, List.reverse, List.reverseAux, List.length_cons, List.length_nil, reduceCtorEq, false_implies, true_implies, forall_const, not_true_eq_false, not_false_eq_true, ite_true, ite_false, Bool.false_eq_true, I_I, J_J, Nat.add_left_cancel_iff, Nat.reduceEqDiff, Nat.add_eq_left, Nat.left_eq_add, false_and, and_false, Nat.reduceSub, Nat.sub_self, Nat.le_refl, Nat.zero_le, ge_iff_le, Nat.reduceAdd, Nat.reduceLeDiff, Nat.zero_add, Nat.reduceLT, z_lt, z_le, z_eq, z_l0, z_g0, z_le0, z_ge0, z_e0, z_e1, z_vp, z_nc, z_rem, z_div, i_ltT, i_ltF, i_leT, i_leF, i_eqT, i_eqF, n_ltT, n_ltF, n_leT, n_leF, n_eqT, n_eqF, tn_9, tn_12, tn_14, tn_20, tn_28, tn_44, tn_52, tn_68, tn_84, tn_100, tn_116, tn_132, fu_e, up_eq, ob_0, ob_b, oi_add, oi_sub, oi_mul, oi_neg, Int.add_zero, Int.zero_add, or_true, true_or, or_false, false_or, and_self, z_i2l, z_l2i, lo_nat, lo_add, lo_sub, lo_mul, lo_0, e_rem, mr_X10_clear]
    exact hq w P B hO (FO.refl _ _) (fun j => by rw [if_neg (fun q => h03 q.2)])
  refine rt_X10_clear_157 ?_
  by_cases t0 : t = 0
  · simp (disch := omega) only [wp_c, wp_n, jj_n, v_ct, Int.reduceToNat, Int.toNat_natCast, stE, wlE, lgt, lpu, lpw, v_c2, va_s, true_and, and_true, Option.toList, List.nil_append, List.cons_append, List.take, List.drop, List.reverse, List.reverseAux, List.length_cons, List.length_nil, reduceCtorEq, false_implies, true_implies, forall_const, not_true_eq_false, not_false_eq_true, ite_true, ite_false, Bool.false_eq_true, I_I, J_J, Nat.add_left_cancel_iff, Nat.reduceEqDiff, Nat.add_eq_left, Nat.left_eq_add, false_and, and_false, Nat.reduceSub, Nat.sub_self, Nat.le_refl, Nat.zero_le, ge_iff_le, Nat.reduceAdd, Nat.reduceLeDiff, Nat.zero_add, Nat.reduceLT, z_lt, z_le, z_eq, z_l0, z_g0, z_le0, z_ge0, z_e0, z_e1, z_vp, z_nc, z_rem, z_div, i_ltT, i_ltF, i_leT, i_leF, i_eqT, i_eqF, n_ltT, n_ltF, n_leT, n_leF, n_eqT, n_eqF, tn_9, tn_12, tn_14, tn_20, tn_28, tn_44, tn_52, tn_68, tn_84, tn_100, tn_116, tn_132, fu_e, up_eq, ob_0, ob_b, oi_add, oi_sub, oi_mul, oi_neg, Int.add_zero, Int.zero_add, or_true, true_or, or_false, false_or, and_self, z_i2l, z_l2i, lo_nat, lo_add, lo_sub, lo_mul, lo_0, e_rem]
    exact h166 (Or.inl t0)
  · by_cases t3 : t = 3
    · simp (disch := omega) only [wp_c, wp_n, jj_n, v_ct, Int.reduceToNat, Int.toNat_natCast, stE, wlE, lgt, lpu, lpw, v_c2, va_s, true_and, and_true, Option.toList, List.nil_append, List.cons_append, List.take, List.drop, List.reverse, List.reverseAux, List.length_cons, List.length_nil, reduceCtorEq, false_implies, true_implies, forall_const, not_true_eq_false, not_false_eq_true, ite_true, ite_false, Bool.false_eq_true, I_I, J_J, Nat.add_left_cancel_iff, Nat.reduceEqDiff, Nat.add_eq_left, Nat.left_eq_add, false_and, and_false, Nat.reduceSub, Nat.sub_self, Nat.le_refl, Nat.zero_le, ge_iff_le, Nat.reduceAdd, Nat.reduceLeDiff, Nat.zero_add, Nat.reduceLT, z_lt, z_le, z_eq, z_l0, z_g0, z_le0, z_ge0, z_e0, z_e1, z_vp, z_nc, z_rem, z_div, i_ltT, i_ltF, i_leT, i_leF, i_eqT, i_eqF, n_ltT, n_ltF, n_leT, n_leF, n_eqT, n_eqF, tn_9, tn_12, tn_14, tn_20, tn_28, tn_44, tn_52, tn_68, tn_84, tn_100, tn_116, tn_132, fu_e, up_eq, ob_0, ob_b, oi_add, oi_sub, oi_mul, oi_neg, Int.add_zero, Int.zero_add, or_true, true_or, or_false, false_or, and_self, z_i2l, z_l2i, lo_nat, lo_add, lo_sub, lo_mul, lo_0, e_rem]
      exact h166 (Or.inr t3)
    · simp (disch := omega) only [wp_c, wp_n, jj_n, v_ct, Int.reduceToNat, Int.toNat_natCast, stE, wlE, lgt, lpu, lpw, v_c2, va_s, true_and, and_true, Option.toList, List.nil_append, List.cons_append, List.take, List.drop, List.reverse, List.reverseAux, List.length_cons, List.length_nil, reduceCtorEq, false_implies, true_implies, forall_const, not_true_eq_false, not_false_eq_true, ite_true, ite_false, Bool.false_eq_true, I_I, J_J, Nat.add_left_cancel_iff, Nat.reduceEqDiff, Nat.add_eq_left, Nat.left_eq_add, false_and, and_false, Nat.reduceSub, Nat.sub_self, Nat.le_refl, Nat.zero_le, ge_iff_le, Nat.reduceAdd, Nat.reduceLeDiff, Nat.zero_add, Nat.reduceLT, z_lt, z_le, z_eq, z_l0, z_g0, z_le0, z_ge0, z_e0, z_e1, z_vp, z_nc, z_rem, z_div, i_ltT, i_ltF, i_leT, i_leF, i_eqT, i_eqF, n_ltT, n_ltF, n_leT, n_leF, n_eqT, n_eqF, tn_9, tn_12, tn_14, tn_20, tn_28, tn_44, tn_52, tn_68, tn_84, tn_100, tn_116, tn_132, fu_e, up_eq, ob_0, ob_b, oi_add, oi_sub, oi_mul, oi_neg, Int.add_zero, Int.zero_add, or_true, true_or, or_false, false_or, and_self, z_i2l, z_l2i, lo_nat, lo_add, lo_sub, lo_mul, lo_0, e_rem]
      exact h174 (by omega)
theorem z_cl_143 (hO : OW w b o P B) (ht : 0 ≤ t ∧ t ≤ 3) (h1 : 1 ≤ ga) (h8 : 8 ≤ gb) (hq : ∀ w' P' B', OW w' b o P' B' → FO b w w' → (∀ j, B' j = if ((20 ≤ j ∧ j < 28) ∧ (t = 0 ∨ t = 3)) ∨ (j = 1013 ∧ (t = 0 ∨ t = 2)) then 0 else B j) → Q w' (.inl (some (.int D)))) : RT n_X10_clear 143 [.ref o, .int (Int32.ofInt t), .int D, v3, v4] [] w (ga, gb, false) Q := by
  have hF := hO.F
  have hge := hO.ge
  have h152 : (t = 0 ∨ t = 2) → RT n_X10_clear 152 [.ref o, .int (Int32.ofInt t), .int D, v3, v4] [] w (ga, gb, false) Q := by
    intro h02
    refine rt_X10_clear_152 ?_
    simp (disch := omega) only [wp_c, wp_n, jj_n, v_ct, Int.reduceToNat, Int.toNat_natCast, stE, wlE, lgt, lpu, lpw, v_c2, va_s, true_and, and_true, Option.toList, List.nil_append, List.cons_append, List.take, List.drop, List.reverse, List.reverseAux, List.length_cons, List.length_nil, reduceCtorEq, false_implies, true_implies, forall_const, not_true_eq_false, not_false_eq_true, ite_true, ite_false, Bool.false_eq_true, I_I, J_J, Nat.add_left_cancel_iff, Nat.reduceEqDiff, Nat.add_eq_left, Nat.left_eq_add, false_and, and_false, Nat.reduceSub, Nat.sub_self, Nat.le_refl, Nat.zero_le, ge_iff_le, Nat.reduceAdd, Nat.reduceLeDiff, Nat.zero_add, Nat.reduceLT, z_lt, z_le, z_eq, z_l0, z_g0, z_le0, z_ge0, z_e0, z_e1, z_vp, z_nc, z_rem, z_div, i_ltT, i_ltF, i_leT, i_leF, i_eqT, i_eqF, n_ltT, n_ltF, n_leT, n_leF, n_eqT, n_eqF, tn_9, tn_12, tn_14, tn_20, tn_28, tn_44, tn_52, tn_68, tn_84, tn_100, tn_116, tn_132, fu_e, up_eq, ob_0, ob_b, oi_add, oi_sub, oi_mul, oi_neg, Int.add_zero, Int.zero_add, or_true, true_or, or_false, false_or, and_self, z_i2l, z_l2i, lo_nat, lo_add, lo_sub, lo_mul, lo_0, e_rem, hF]
    have h2 := hO.sctr (v := 0)
    refine z_cl_157 h2 ht h1 h8 (fun w1 P1 B1 m1 m2 m3 => hq w1 P1 B1 m1 (((FO.refl _ _).J hge.1).trans m2) (fun j => ?_))
    rw [m3 j, up_eq]
    by_cases q : (20 ≤ j ∧ j < 28) ∧ (t = 0 ∨ t = 3)
    · rw [if_pos q, if_pos (Or.inl q)]
    · rw [if_neg q]
      by_cases q2 : j = 1013
      · rw [if_pos q2, if_pos (Or.inr ⟨q2, h02⟩)]
      · rw [if_neg q2, if_neg (fun r => r.elim q (fun s => q2 s.1))]
  have h157 : ¬ (t = 0 ∨ t = 2) → RT n_X10_clear 157 [.ref o, .int (Int32.ofInt t), .int D, v3, v4] [] w (ga, gb, false) Q := by
    intro h02
    refine z_cl_157 hO ht h1 h8 (fun w1 P1 B1 m1 m2 m3 => hq w1 P1 B1 m1 m2 (fun j => ?_))
    rw [m3 j]
    by_cases q : (20 ≤ j ∧ j < 28) ∧ (t = 0 ∨ t = 3)
    · rw [if_pos q, if_pos (Or.inl q)]
    · rw [if_neg q, if_neg (fun r => r.elim q (fun s => h02 s.2))]
  refine rt_X10_clear_143 ?_
  by_cases t0 : t = 0
  · simp (disch := omega) only [wp_c, wp_n, jj_n, v_ct, Int.reduceToNat, Int.toNat_natCast, stE, wlE, lgt, lpu, lpw, v_c2, va_s, true_and, and_true, Option.toList, List.nil_append, List.cons_append, List.take, List.drop, List.reverse, List.reverseAux, List.length_cons, List.length_nil, reduceCtorEq, false_implies, true_implies, forall_const, not_true_eq_false, not_false_eq_true, ite_true, ite_false, Bool.false_eq_true, I_I, J_J, Nat.add_left_cancel_iff, Nat.reduceEqDiff, Nat.add_eq_left, Nat.left_eq_add, false_and, and_false, Nat.reduceSub, Nat.sub_self, Nat.le_refl, Nat.zero_le, ge_iff_le, Nat.reduceAdd, Nat.reduceLeDiff, Nat.zero_add, Nat.reduceLT, z_lt, z_le, z_eq, z_l0, z_g0, z_le0, z_ge0, z_e0, z_e1, z_vp, z_nc, z_rem, z_div, i_ltT, i_ltF, i_leT, i_leF, i_eqT, i_eqF, n_ltT, n_ltF, n_leT, n_leF, n_eqT, n_eqF, tn_9, tn_12, tn_14, tn_20, tn_28, tn_44, tn_52, tn_68, tn_84, tn_100, tn_116, tn_132, fu_e, up_eq, ob_0, ob_b, oi_add, oi_sub, oi_mul, oi_neg, Int.add_zero, Int.zero_add, or_true, true_or, or_false, false_or, and_self, z_i2l, z_l2i, lo_nat, lo_add, lo_sub, lo_mul, lo_0, e_rem]
    exact h152 (Or.inl t0)
  · by_cases t2 : t = 2
    · simp (disch := omega) only [wp_c, wp_n, jj_n, v_ct, Int.reduceToNat, Int.toNat_natCast, stE, wlE, lgt, lpu, lpw, v_c2, va_s, true_and, and_true, Option.toList, List.nil_append, List.cons_append, List.take, List.drop, List.reverse, List.reverseAux, List.length_cons, List.length_nil, reduceCtorEq, false_implies, true_implies, forall_const, not_true_eq_false, not_false_eq_true, ite_true, ite_false, Bool.false_eq_true, I_I, J_J, Nat.add_left_cancel_iff, Nat.reduceEqDiff, Nat.add_eq_left, Nat.left_eq_add, false_and, and_false, Nat.reduceSub, Nat.sub_self, Nat.le_refl, Nat.zero_le, ge_iff_le, Nat.reduceAdd, Nat.reduceLeDiff, Nat.zero_add, Nat.reduceLT, z_lt, z_le, z_eq, z_l0, z_g0, z_le0, z_ge0, z_e0, z_e1, z_vp, z_nc, z_rem, z_div, i_ltT, i_ltF, i_leT, i_leF, i_eqT, i_eqF, n_ltT, n_ltF, n_leT, n_leF, n_eqT, n_eqF, tn_9, tn_12, tn_14, tn_20, tn_28, tn_44, tn_52, tn_68, tn_84, tn_100, tn_116, tn_132, fu_e, up_eq, ob_0, ob_b, oi_add, oi_sub, oi_mul, oi_neg, Int.add_zero, Int.zero_add, or_true, true_or, or_false, false_or, and_self, z_i2l, z_l2i, lo_nat, lo_add, lo_sub, lo_mul, lo_0, e_rem]
      exact h152 (Or.inr t2)
    · simp (disch := omega) only [wp_c, wp_n, jj_n, v_ct, Int.reduceToNat, Int.toNat_natCast, stE, wlE, lgt, lpu, lpw, v_c2, va_s, true_and, and_true, Option.toList, List.nil_append, List.cons_append, List.take, List.drop, List.reverse, List.reverseAux, List.length_cons, List.length_nil, reduceCtorEq, false_implies, true_implies, forall_const, not_true_eq_false, not_false_eq_true, ite_true, ite_false, Bool.false_eq_true, I_I, J_J, Nat.add_left_cancel_iff, Nat.reduceEqDiff, Nat.add_eq_left, Nat.left_eq_add, false_and, and_false, Nat.reduceSub, Nat.sub_self, Nat.le_refl, Nat.zero_le, ge_iff_le, Nat.reduceAdd, Nat.reduceLeDiff, Nat.zero_add, Nat.reduceLT, z_lt, z_le, z_eq, z_l0, z_g0, z_le0, z_ge0, z_e0, z_e1, z_vp, z_nc, z_rem, z_div, i_ltT, i_ltF, i_leT, i_leF, i_eqT, i_eqF, n_ltT, n_ltF, n_leT, n_leF, n_eqT, n_eqF, tn_9, tn_12, tn_14, tn_20, tn_28, tn_44, tn_52, tn_68, tn_84, tn_100, tn_116, tn_132, fu_e, up_eq, ob_0, ob_b, oi_add, oi_sub, oi_mul, oi_neg, Int.add_zero, Int.zero_add, or_true, true_or, or_false, false_or, and_self, z_i2l, z_l2i, lo_nat, lo_add, lo_sub, lo_mul, lo_0, e_rem]
      exact h157 (by omega)
theorem z_cl_125 (hO : OW w b o P B) (ht : 0 ≤ t ∧ t ≤ 3) (hq : ∀ w' P' B', OW w' b o P' B' → FO b w w' → (∀ j, B' j = if ((20 ≤ j ∧ j < 28) ∧ (t = 0 ∨ t = 3)) ∨ (j = 1013 ∧ (t = 0 ∨ t = 2)) ∨ ((28 ≤ j ∧ j < 44 ∨ j = 1014) ∧ t < 2) then 0 else B j) → Q w' (.inl (some (.int D)))) : RT n_X10_clear 125 [.ref o, .int (Int32.ofInt t), .int D, v3, v4] [] w (2, 24, false) Q := by
  have hF := hO.F
  have hge := hO.ge
  have hlt := hO.lt
  have hb0 := hO.1.2.1
  have c16 : (Int32.ofInt 16).toNatClampNeg = 16 := by decide
  by_cases t2 : t < 2
  · refine rt_X10_clear_125 ?_
    simp (disch := omega) only [wp_c, wp_n, jj_n, v_ct, Int.reduceToNat, Int.toNat_natCast, stE, wlE, lgt, lpu, lpw, v_c2, va_s, true_and, and_true, Option.toList, List.nil_append, List.cons_append, List.take, List.drop, List.reverse, List.reverseAux, List.length_cons, List.length_nil, reduceCtorEq, false_implies, true_implies, forall_const, not_true_eq_false, not_false_eq_true, ite_true, ite_false, Bool.false_eq_true, I_I, J_J, Nat.add_left_cancel_iff, Nat.reduceEqDiff, Nat.add_eq_left, Nat.left_eq_add, false_and, and_false, Nat.reduceSub, Nat.sub_self, Nat.le_refl, Nat.zero_le, ge_iff_le, Nat.reduceAdd, Nat.reduceLeDiff, Nat.zero_add, Nat.reduceLT, z_lt, z_le, z_eq, z_l0, z_g0, z_le0, z_ge0, z_e0, z_e1, z_vp, z_nc, z_rem, z_div, i_ltT, i_ltF, i_leT, i_leF, i_eqT, i_eqF, n_ltT, n_ltF, n_leT, n_leF, n_eqT, n_eqF, tn_9, tn_12, tn_14, tn_20, tn_28, tn_44, tn_52, tn_68, tn_84, tn_100, tn_116, tn_132, fu_e, up_eq, ob_0, ob_b, oi_add, oi_sub, oi_mul, oi_neg, Int.add_zero, Int.zero_add, or_true, true_or, or_false, false_or, and_self, z_i2l, z_l2i, lo_nat, lo_add, lo_sub, lo_mul, lo_0, e_rem, hF, c16]
    intro q hq0
    have h2 := hO.new (f := 16) (n := 16) (by omega) rfl hq0
    have no : ¬ o = 100 + q := by omega
    have f2 : FO b w (s_R (s_N (s_K w q) (1, 16)) o 16 (some (100 + q))) := ((FO.refl _ _).N hq0 (by omega)).R hge.1
    simp (disch := omega) only [wp_c, wp_n, jj_n, v_ct, Int.reduceToNat, Int.toNat_natCast, stE, wlE, lgt, lpu, lpw, v_c2, va_s, true_and, and_true, Option.toList, List.nil_append, List.cons_append, List.take, List.drop, List.reverse, List.reverseAux, List.length_cons, List.length_nil, reduceCtorEq, false_implies, true_implies, forall_const, not_true_eq_false, not_false_eq_true, ite_true, ite_false, Bool.false_eq_true, I_I, J_J, Nat.add_left_cancel_iff, Nat.reduceEqDiff, Nat.add_eq_left, Nat.left_eq_add, false_and, and_false, Nat.reduceSub, Nat.sub_self, Nat.le_refl, Nat.zero_le, ge_iff_le, Nat.reduceAdd, Nat.reduceLeDiff, Nat.zero_add, Nat.reduceLT, z_lt, z_le, z_eq, z_l0, z_g0, z_le0, z_ge0, z_e0, z_e1, z_vp, z_nc, z_rem, z_div, i_ltT, i_ltF, i_leT, i_leF, i_eqT, i_eqF, n_ltT, n_ltF, n_leT, n_leF, n_eqT, n_eqF, tn_9, tn_12, tn_14, tn_20, tn_28, tn_44, tn_52, tn_68, tn_84, tn_100, tn_116, tn_132, fu_e, up_eq, ob_0, ob_b, oi_add, oi_sub, oi_mul, oi_neg, Int.add_zero, Int.zero_add, or_true, true_or, or_false, false_or, and_self, z_i2l, z_l2i, lo_nat, lo_add, lo_sub, lo_mul, lo_0, e_rem, NK_sh, NK_shn no, NK_Rn no, R_sh, hF]
    have h3 := h2.sdue (v := 0)
    refine z_cl_143 h3 ht (by omega) (by omega) (fun w1 P1 B1 m1 m2 m3 => hq w1 P1 B1 m1 ((f2.J hge.1).trans m2) (fun j => ?_))
    rw [m3 j, up_eq]
    simp only [olen, oi, Nat.reduceEqDiff, ite_true, ite_false, Nat.add_zero, Nat.reduceAdd]
    repeat' split
    all_goals first | rfl | omega
  · refine rt_X10_clear_125 ?_
    simp (disch := omega) only [wp_c, wp_n, jj_n, v_ct, Int.reduceToNat, Int.toNat_natCast, stE, wlE, lgt, lpu, lpw, v_c2, va_s, true_and, and_true, Option.toList, List.nil_append, List.cons_append, List.take, List.drop, List.reverse, List.reverseAux, List.length_cons, List.length_nil, reduceCtorEq, false_implies, true_implies, forall_const, not_true_eq_false, not_false_eq_true, ite_true, ite_false, Bool.false_eq_true, I_I, J_J, Nat.add_left_cancel_iff, Nat.reduceEqDiff, Nat.add_eq_left, Nat.left_eq_add, false_and, and_false, Nat.reduceSub, Nat.sub_self, Nat.le_refl, Nat.zero_le, ge_iff_le, Nat.reduceAdd, Nat.reduceLeDiff, Nat.zero_add, Nat.reduceLT, z_lt, z_le, z_eq, z_l0, z_g0, z_le0, z_ge0, z_e0, z_e1, z_vp, z_nc, z_rem, z_div, i_ltT, i_ltF, i_leT, i_leF, i_eqT, i_eqF, n_ltT, n_ltF, n_leT, n_leF, n_eqT, n_eqF, tn_9, tn_12, tn_14, tn_20, tn_28, tn_44, tn_52, tn_68, tn_84, tn_100, tn_116, tn_132, fu_e, up_eq, ob_0, ob_b, oi_add, oi_sub, oi_mul, oi_neg, Int.add_zero, Int.zero_add, or_true, true_or, or_false, false_or, and_self, z_i2l, z_l2i, lo_nat, lo_add, lo_sub, lo_mul, lo_0, e_rem]
    refine z_cl_143 hO ht (by omega) (by omega) (fun w1 P1 B1 m1 m2 m3 => hq w1 P1 B1 m1 m2 (fun j => ?_))
    rw [m3 j]
    repeat' split
    all_goals first | rfl | omega
end
theorem hn_0 {f : Nat → Int} : ∀ n : Nat, (∀ i, i < n → f i = 0) → hn f n 0 = 0 := by
  intro n
  induction n with
  | zero => intro _; rfl
  | succ n ih =>
    intro h
    rw [hn, h n (by omega)]
    exact ih (fun i hi => h i (by omega))
theorem z_clear {b o : Nat} {P : Nat → Nat} {A B : Row} {t N : Int} {w : mW} {Q : mW → mO → Prop} (hO : OW w b o P B) (hT : TS A B N) (h5 : A 5 = 0) (ht : 0 ≤ t ∧ t ≤ 3)
  (hq : ∀ w' P' B', OW w' b o P' B' → FO b w w' → TS (r_clear A t).1 B' N → B' 1000 = B 1000 → (LX A B → LX (r_clear A t).1 B') → Q w' (.inl (some (.int (Int32.ofInt (r_clear A t).2))))) : CT n_X10_clear [.ref o, .int (Int32.ofInt t)] w Q := by
  obtain ⟨hG, ⟨hR, b5, hk, hdu, h11⟩, hJX, h14⟩ := hT
  have hz := hG.sz
  have hJ := hG.1.1
  have hV := hO.V
  have hF := hO.F
  have hcg := (clear_GR (t := t) hG (by omega)).1
  rw [← clear_e hG ht] at hq hcg
  obtain ⟨c1, c2⟩ := clr_at (A := A) ht
  have z1 := zc_b A 28 16
  have z2 := zc_b A 44 8
  have z3 := zc_b A 20 8
  have hkb := ctv_0 (A := A) (by omega) (fun j hj h2 => hG.2.1.2.2 j hj h2)
  have hkn := ctv_b (A := A) (fun j hj => TJ_cnt hJ j hj) 0 (by omega)
  rw [hkb] at hkn
  -- the end
  have h125 : ∀ v3 v4, RT n_X10_clear 125 [.ref o, .int (Int32.ofInt t), .int (Int32.ofInt (a_clear A t).2), v3, v4] [] w (2, 24, false) Q := by
    intro v3 v4
    refine z_cl_125 hO ht (fun w1 P1 B1 m1 m2 m3 => hq w1 P1 B1 m1 m2 ⟨hcg, ⟨⟨fun j hj => ?_, fun i hi => ?_⟩, ?_, ?_, ?_, ?_⟩, fun q => ?_, ?_, ?_⟩ ?_ (fun hL => ⟨?_, fun j j1 j2 => ?_⟩))
    · have := hR.1 j hj
      unfold RK at hj
      rw [m3 j, c1 j]
      repeat' split
      all_goals first | rfl | omega
    · rw [m3, c1, if_neg (by omega), if_neg (by omega)]; exact hR.2 i hi
    · rw [m3, c1, if_neg (by omega), if_neg (by omega)]; exact b5
    · rw [m3]
      by_cases q : t = 0 ∨ t = 2
      · rw [if_pos (by omega)]
        have e2 : (a_clear A t).1 2 = A 2 := by rw [c1, if_neg (by omega)]
        unfold k_num
        rw [e2]
        exact (hn_0 _ (fun i hi => by rw [c1, if_pos (by omega)])).symm
      · rw [if_neg (by omega), hk]
        exact (k_c (by rw [c1, if_neg (by omega)]) (by omega) (fun j hj => by rw [c1, if_neg (by omega)])).symm
    · rw [m3]
      by_cases q : t < 2
      · rw [if_pos (by omega)]
        have e1 : (a_clear A t).1 1 = A 1 := by rw [c1, if_neg (by omega)]
        unfold du
        rw [e1]
        exact (hn_0 _ (fun i hi => by rw [c1, if_pos (by omega)])).symm
      · rw [if_neg (by omega), hdu]
        exact (d_c (by rw [c1, if_neg (by omega)]) (by omega) (fun j hj => by rw [c1, if_neg (by omega)])).symm
    · rw [m3, m3, if_neg (by omega), if_neg (by omega)]; exact h11
    · rw [c1, if_neg (by omega)] at q; omega
    · rw [c1, if_neg (by omega)]; exact h14.1
    · rw [c1, if_neg (by omega)]; exact h14.2
    · rw [m3, if_neg (by omega)]
    · rw [m3, c1, if_neg (by omega), if_neg (by omega)]; exact hL.1
    · rw [m3, c1, if_neg (by omega), if_neg (by omega)]; exact hL.2 j j1 j2
  have hd20 : ∀ j, j < 8 → B (20 + j) = A (20 + j) ∧ 0 ≤ A (20 + j) ∧ A (20 + j) ≤ 9 := fun j hj => ⟨hR.pin hj, TJ_pin hJ j hj⟩
  have hd28 : ∀ j, j < 16 → B (28 + j) = A (28 + j) ∧ 0 ≤ A (28 + j) ∧ A (28 + j) ≤ 9 := fun j hj => ⟨hR.dig hj, TJ_dig hJ j hj⟩
  have h85 : ∀ D : Int, 0 ≤ D ∧ D ≤ 100 → (a_clear A t).2 = D + (if t = 0 ∨ t = 3 then a_zc A 20 8 else 0) → ∀ v3 v4, RT n_X10_clear 85 [.ref o, .int (Int32.ofInt t), .int (Int32.ofInt D), v3, v4] [] w (2, 24, false) Q := by
    intro D hD he v3 v4
    refine rt_X10_clear_85 ?_
    simp (disch := omega) only [wp_c, wp_n, jj_n, v_ct, Int.reduceToNat, Int.toNat_natCast, stE, wlE, lgt, lpu, lpw, v_c2, va_s, true_and, and_true, Option.toList, List.nil_append, List.cons_append, List.take, List.drop, List.reverse, List.reverseAux, List.length_cons, List.length_nil, reduceCtorEq, false_implies, true_implies, forall_const, not_true_eq_false, not_false_eq_true, ite_true, ite_false, Bool.false_eq_true, I_I, J_J, Nat.add_left_cancel_iff, Nat.reduceEqDiff, Nat.add_eq_left, Nat.left_eq_add, false_and, and_false, Nat.reduceSub, Nat.sub_self, Nat.le_refl, Nat.zero_le, ge_iff_le, Nat.reduceAdd, Nat.reduceLeDiff, Nat.zero_add, Nat.reduceLT, z_lt, z_le, z_eq, z_l0, z_g0, z_le0, z_ge0, z_e0, z_e1, z_vp, z_nc, z_rem, z_div, i_ltT, i_ltF, i_leT, i_leF, i_eqT, i_eqF, n_ltT, n_ltF, n_leT, n_leF, n_eqT, n_eqF, tn_9, tn_12, tn_14, tn_20, tn_28, tn_44, tn_52, tn_68, tn_84, tn_100, tn_116, tn_132, fu_e, up_eq, ob_0, ob_b, oi_add, oi_sub, oi_mul, oi_neg, Int.add_zero, Int.zero_add, or_true, true_or, or_false, false_or, and_self, z_i2l, z_l2i, lo_nat, lo_add, lo_sub, lo_mul, lo_0, e_rem]
    by_cases q : t = 0 ∨ t = 3
    · rw [if_pos q] at he
      have := z_cl_87 (b := b) (o := o) (g := (2, 24, false)) (Q := Q) hO q hd20 hD (by rw [← he]; exact h125) 8 0 v4 (by omega)
      simpa [a_zc] using this
    · rw [if_neg q, Int.add_zero] at he
      refine rt_X10_clear_87 ?_
      simp (disch := omega) only [wp_c, wp_n, jj_n, v_ct, Int.reduceToNat, Int.toNat_natCast, stE, wlE, lgt, lpu, lpw, v_c2, va_s, true_and, and_true, Option.toList, List.nil_append, List.cons_append, List.take, List.drop, List.reverse, List.reverseAux, List.length_cons, List.length_nil, reduceCtorEq, false_implies, true_implies, forall_const, not_true_eq_false, not_false_eq_true, ite_true, ite_false, Bool.false_eq_true, I_I, J_J, Nat.add_left_cancel_iff, Nat.reduceEqDiff, Nat.add_eq_left, Nat.left_eq_add, false_and, and_false, Nat.reduceSub, Nat.sub_self, Nat.le_refl, Nat.zero_le, ge_iff_le, Nat.reduceAdd, Nat.reduceLeDiff, Nat.zero_add, Nat.reduceLT, z_lt, z_le, z_eq, z_l0, z_g0, z_le0, z_ge0, z_e0, z_e1, z_vp, z_nc, z_rem, z_div, i_ltT, i_ltF, i_leT, i_leF, i_eqT, i_eqF, n_ltT, n_ltF, n_leT, n_leF, n_eqT, n_eqF, tn_9, tn_12, tn_14, tn_20, tn_28, tn_44, tn_52, tn_68, tn_84, tn_100, tn_116, tn_132, fu_e, up_eq, ob_0, ob_b, oi_add, oi_sub, oi_mul, oi_neg, Int.add_zero, Int.zero_add, or_true, true_or, or_false, false_or, and_self, z_i2l, z_l2i, lo_nat, lo_add, lo_sub, lo_mul, lo_0, e_rem]
      rw [← he]
      exact h125 _ _
  have h38 : ∀ D : Int, 0 ≤ D ∧ D ≤ 50 → (a_clear A t).2 = D + (if t = 0 ∨ t = 2 then a_zc A 44 8 else 0) + (if t = 0 ∨ t = 3 then a_zc A 20 8 else 0) → ∀ v3 v4, RT n_X10_clear 38 [.ref o, .int (Int32.ofInt t), .int (Int32.ofInt D), v3, v4] [] w (2, 24, false) Q := by
    intro D hD he v3 v4
    refine rt_X10_clear_38 ?_
    simp (disch := omega) only [wp_c, wp_n, jj_n, v_ct, Int.reduceToNat, Int.toNat_natCast, stE, wlE, lgt, lpu, lpw, v_c2, va_s, true_and, and_true, Option.toList, List.nil_append, List.cons_append, List.take, List.drop, List.reverse, List.reverseAux, List.length_cons, List.length_nil, reduceCtorEq, false_implies, true_implies, forall_const, not_true_eq_false, not_false_eq_true, ite_true, ite_false, Bool.false_eq_true, I_I, J_J, Nat.add_left_cancel_iff, Nat.reduceEqDiff, Nat.add_eq_left, Nat.left_eq_add, false_and, and_false, Nat.reduceSub, Nat.sub_self, Nat.le_refl, Nat.zero_le, ge_iff_le, Nat.reduceAdd, Nat.reduceLeDiff, Nat.zero_add, Nat.reduceLT, z_lt, z_le, z_eq, z_l0, z_g0, z_le0, z_ge0, z_e0, z_e1, z_vp, z_nc, z_rem, z_div, i_ltT, i_ltF, i_leT, i_leF, i_eqT, i_eqF, n_ltT, n_ltF, n_leT, n_leF, n_eqT, n_eqF, tn_9, tn_12, tn_14, tn_20, tn_28, tn_44, tn_52, tn_68, tn_84, tn_100, tn_116, tn_132, fu_e, up_eq, ob_0, ob_b, oi_add, oi_sub, oi_mul, oi_neg, Int.add_zero, Int.zero_add, or_true, true_or, or_false, false_or, and_self, z_i2l, z_l2i, lo_nat, lo_add, lo_sub, lo_mul, lo_0, e_rem, hF, hV, hk]
    rw [← hkb]
    by_cases q : t = 0 ∨ t = 2
    · rw [if_pos q] at he
      have := z_cl_43 (o := o) (w := w) (g := (2, 24, false)) (Q := Q) (A := A) (fun j hj => TJ_cnt hJ j hj) q (D := D) (by omega) (h85 _ (by omega) he) 8 0 (by omega)
      simpa [a_zc] using this
    · rw [if_neg q, Int.add_zero] at he
      rw [hkb]
      refine rt_X10_clear_43 ?_
      by_cases q0 : 0 < k_num A
      · have hp : lg_cmp (Int64.ofInt (k_num A)) (Int64.ofInt 0) = 1 := by
          unfold lg_cmp
          rw [if_pos ((lo_lt ⟨by omega, by omega⟩ ⟨by omega, by omega⟩).mpr (by omega))]
        have i1 : ¬ (1 : Int32) ≤ 0 := by decide
        simp (disch := omega) only [wp_c, wp_n, jj_n, v_ct, Int.reduceToNat, Int.toNat_natCast, stE, wlE, lgt, lpu, lpw, v_c2, va_s, true_and, and_true, Option.toList, List.nil_append, List.cons_append, List.take, List.drop, List.reverse, List.reverseAux, List.length_cons, List.length_nil, reduceCtorEq, false_implies, true_implies, forall_const, not_true_eq_false, not_false_eq_true, ite_true, ite_false, Bool.false_eq_true, I_I, J_J, Nat.add_left_cancel_iff, Nat.reduceEqDiff, Nat.add_eq_left, Nat.left_eq_add, false_and, and_false, Nat.reduceSub, Nat.sub_self, Nat.le_refl, Nat.zero_le, ge_iff_le, Nat.reduceAdd, Nat.reduceLeDiff, Nat.zero_add, Nat.reduceLT, z_lt, z_le, z_eq, z_l0, z_g0, z_le0, z_ge0, z_e0, z_e1, z_vp, z_nc, z_rem, z_div, i_ltT, i_ltF, i_leT, i_leF, i_eqT, i_eqF, n_ltT, n_ltF, n_leT, n_leF, n_eqT, n_eqF, tn_9, tn_12, tn_14, tn_20, tn_28, tn_44, tn_52, tn_68, tn_84, tn_100, tn_116, tn_132, fu_e, up_eq, ob_0, ob_b, oi_add, oi_sub, oi_mul, oi_neg, Int.add_zero, Int.zero_add, or_true, true_or, or_false, false_or, and_self, z_i2l, z_l2i, lo_nat, lo_add, lo_sub, lo_mul, lo_0, e_rem, hp, i1]
        exact h85 D (by omega) he _ _
      · have e0 : k_num A = 0 := by omega
        have hp : lg_cmp (Int64.ofInt 0) (Int64.ofInt 0) = 0 := by decide
        simp (disch := omega) only [wp_c, wp_n, jj_n, v_ct, Int.reduceToNat, Int.toNat_natCast, stE, wlE, lgt, lpu, lpw, v_c2, va_s, true_and, and_true, Option.toList, List.nil_append, List.cons_append, List.take, List.drop, List.reverse, List.reverseAux, List.length_cons, List.length_nil, reduceCtorEq, false_implies, true_implies, forall_const, not_true_eq_false, not_false_eq_true, ite_true, ite_false, Bool.false_eq_true, I_I, J_J, Nat.add_left_cancel_iff, Nat.reduceEqDiff, Nat.add_eq_left, Nat.left_eq_add, false_and, and_false, Nat.reduceSub, Nat.sub_self, Nat.le_refl, Nat.zero_le, ge_iff_le, Nat.reduceAdd, Nat.reduceLeDiff, Nat.zero_add, Nat.reduceLT, z_lt, z_le, z_eq, z_l0, z_g0, z_le0, z_ge0, z_e0, z_e1, z_vp, z_nc, z_rem, z_div, i_ltT, i_ltF, i_leT, i_leF, i_eqT, i_eqF, n_ltT, n_ltF, n_leT, n_leF, n_eqT, n_eqF, tn_9, tn_12, tn_14, tn_20, tn_28, tn_44, tn_52, tn_68, tn_84, tn_100, tn_116, tn_132, fu_e, up_eq, ob_0, ob_b, oi_add, oi_sub, oi_mul, oi_neg, Int.add_zero, Int.zero_add, or_true, true_or, or_false, false_or, and_self, z_i2l, z_l2i, lo_nat, lo_add, lo_sub, lo_mul, lo_0, e_rem, e0, hp]
        first | exact h85 D (by omega) he _ _ | (refine ⟨fun _ => h85 D (by omega) he _ _, fun z => absurd z ?_⟩; decide)
  refine ct_X10_clear (rt_X10_clear_0 ?_)
  simp only [wp_c, wp_n, jj_n, v_ct, Int.reduceToNat, Int.toNat_natCast, stE, wlE, lgt, lpu, lpw, v_c2, va_s, true_and, and_true, Option.toList, List.nil_append, List.cons_append, List.take, List.drop, List.reverse, List.reverseAux, List.length_cons, List.length_nil, reduceCtorEq, false_implies, true_implies, forall_const, not_true_eq_false, not_false_eq_true, ite_true, ite_false, Bool.false_eq_true, I_I, J_J, Nat.add_left_cancel_iff, Nat.reduceEqDiff, Nat.add_eq_left, Nat.left_eq_add, false_and, and_false, Nat.reduceSub, Nat.sub_self, Nat.le_refl, Nat.zero_le, ge_iff_le, Nat.reduceAdd, Nat.reduceLeDiff, Nat.zero_add, Nat.reduceLT]
  by_cases q : t < 2
  · rw [if_pos q] at c2
    have := z_cl_4 (b := b) (o := o) (A := A) (g := (2, 24, false)) (Q := Q) hO ⟨ht.1, q⟩ hd28 (h38 _ (by omega) c2) 16 0 .null (by omega)
    exact this
  · rw [if_neg q, Int.zero_add] at c2
    refine rt_X10_clear_4 ?_
    simp (disch := omega) only [wp_c, wp_n, jj_n, v_ct, Int.reduceToNat, Int.toNat_natCast, stE, wlE, lgt, lpu, lpw, v_c2, va_s, true_and, and_true, Option.toList, List.nil_append, List.cons_append, List.take, List.drop, List.reverse, List.reverseAux, List.length_cons, List.length_nil, reduceCtorEq, false_implies, true_implies, forall_const, not_true_eq_false, not_false_eq_true, ite_true, ite_false, Bool.false_eq_true, I_I, J_J, Nat.add_left_cancel_iff, Nat.reduceEqDiff, Nat.add_eq_left, Nat.left_eq_add, false_and, and_false, Nat.reduceSub, Nat.sub_self, Nat.le_refl, Nat.zero_le, ge_iff_le, Nat.reduceAdd, Nat.reduceLeDiff, Nat.zero_add, Nat.reduceLT, z_lt, z_le, z_eq, z_l0, z_g0, z_le0, z_ge0, z_e0, z_e1, z_vp, z_nc, z_rem, z_div, i_ltT, i_ltF, i_leT, i_leF, i_eqT, i_eqF, n_ltT, n_ltF, n_leT, n_leF, n_eqT, n_eqF, tn_9, tn_12, tn_14, tn_20, tn_28, tn_44, tn_52, tn_68, tn_84, tn_100, tn_116, tn_132, fu_e, up_eq, ob_0, ob_b, oi_add, oi_sub, oi_mul, oi_neg, Int.add_zero, Int.zero_add, or_true, true_or, or_false, false_or, and_self, z_i2l, z_l2i, lo_nat, lo_add, lo_sub, lo_mul, lo_0, e_rem]
    exact h38 0 (by omega) (by rw [c2]; omega) _ _
