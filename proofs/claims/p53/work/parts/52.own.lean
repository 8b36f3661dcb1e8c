/-! a turn cranked back -/
theorem bk_at {A : Row} (hG : GR A) (h5 : 0 < A 5) : (∀ i, i < 16 → r_bk A (28 + i) = (A (28 + i) - A 7 * A (84 + i)) % 10) ∧ (∀ i, i < 16 → r_bk A (100 + i) = A (100 + i) + A (84 + i)) ∧ ∀ k, k < 3 → r_bk A (14 + k) = A (14 + k) - A (9 + k) := by
  have hz := hG.sz
  have hb := hG.2.1.2.1
  have v := tb_v (A 1).toNat A 0
  have e : ∀ j, j < 252 → ¬ j = 7 → ¬ j = 5 → ¬ ((52 ≤ j ∧ j < 68) ∨ (84 ≤ j ∧ j < 100) ∨ (9 ≤ j ∧ j < 12)) → r_bk A j = a_bk3 (a_tb (A 1).toNat A 0) j := by
    intro j h1 h2 h3 h4
    rw [← bk_v hG h5 j h1 h2]
    unfold a_bk
    rw [up_eq, if_neg h3, beg_at, if_neg h2, if_neg h4]
  refine ⟨fun i hi => ?_, fun i hi => ?_, fun k hk => ?_⟩
  · rw [e _ (by omega) (by omega) (by omega) (by omega), bk3_s _ _ (by omega), v _ (by omega)]
    by_cases hm : i < (A 1).toNat
    · rw [if_pos (by omega), show 28 + i + 56 = 84 + i by omega]
    · obtain ⟨z1, z2, z3, z4⟩ := hb i hi (by omega)
      rw [if_neg (by omega), if_neg (by omega), z1, z3, Int.mul_zero]; rfl
  · rw [e _ (by omega) (by omega) (by omega) (by omega), bk3_s _ _ (by omega), v _ (by omega)]
    by_cases hm : i < (A 1).toNat
    · rw [if_neg (by omega), if_pos (by omega), show 100 + i - 16 = 84 + i by omega]
    · obtain ⟨z1, z2, z3, z4⟩ := hb i hi (by omega)
      rw [if_neg (by omega), if_neg (by omega), z3, Int.add_zero]
  · rw [e _ (by omega) (by omega) (by omega) (by omega)]
    have t : ∀ j, j < 28 → a_tb (A 1).toNat A 0 j = A j := fun j hj => tb_s _ _ _ _ (by omega) (by omega)
    have t9 := t 9 (by omega)
    have t10 := t 10 (by omega)
    have t11 := t 11 (by omega)
    have t14 := t 14 (by omega)
    have t15 := t 15 (by omega)
    have t16 := t 16 (by omega)
    unfold a_bk3
    rcases (show k = 0 ∨ k = 1 ∨ k = 2 by omega) with rfl | rfl | rfl
    · rw [up_eq, if_neg (by omega), up_eq, if_neg (by omega), up_eq, if_pos rfl, t14, t9]
    · rw [up_eq, if_neg (by omega), up_eq, if_pos rfl, t15, t10]
    · rw [up_eq, if_pos rfl, t16, t11]
theorem bk_12 {A : Row} (hG : GR A) (h5 : 0 < A 5) (j : Nat) (hj : 12 ≤ j ∧ j < 14) : r_bk A j = A j := by
  have hz := hG.sz
  rw [← bk_v hG h5 j (by omega) (by omega)]
  unfold a_bk
  rw [up_eq, if_neg (by omega), beg_at, if_neg (by omega), if_neg (by omega), bk3_s _ _ (by omega)]
  exact tb_s _ _ _ _ (by omega) (by omega)
theorem mct_b (A : Row) : ∀ i : Nat, 0 ≤ m_ct A i ∧ m_ct A i ≤ i := by
  intro i
  induction i with
  | zero => simp [m_ct]
  | succ i ih =>
    rw [m_ct]
    split <;> omega
def o_bs (A B : Row) (i : Nat) : Row := fun j => if 100 ≤ j ∧ j < 100 + i then B j + A (j - 16) else B j
theorem z_bk_4 {b o : Nat} {P : Nat → Nat} {A B : Row} {N : Int} {w0 : mW} {Q : mW → mO → Prop} (hT : TS A B N) (h5 : 0 < A 5)
  (hq : ∀ w' x2 x3, OW w' b o P (o_bs A B (A 1).toNat) → FO b w0 w' → RT n_X10_crankBack 111 [.ref o, .int (Int32.ofInt (m_ct A (A 1).toNat)), x2, x3] [] w' (3, 48, false) Q) : ∀ (n i : Nat) (w : mW) (v3 : Value), (i : Int) + n = A 1 → OW w b o P (o_bs A B i) → FO b w0 w →
  RT n_X10_crankBack 4 [.ref o, .int (Int32.ofInt (m_ct A i)), .int (Int32.ofInt i), v3] [] w (3, 48, false) Q := by
  have hG := hT.1
  have hz := hG.sz
  have hR := hT.2.1.1
  have hJX := hT.2.2.1 h5
  have hJI : JI A := by
    rcases hG.2.2.2 with q | q
    · omega
    · exact q.1
  have hm84 := mb hG h5
  have f : ∀ i j, ¬ (100 ≤ j ∧ j < 100 + i) → o_bs A B i j = B j := fun i j hj => by unfold o_bs; rw [if_neg hj]
  intro n
  induction n with
  | zero =>
    intro i w v3 hi hO hF
    have hV := hO.V
    have hFF := hO.F
    have b1 : o_bs A B i 1 = A 1 := by rw [f _ _ (by omega)]; exact hR.sz.2.1
    refine rt_X10_crankBack_4 ?_
    simp (disch := omega) only [wp_c, wp_n, jj_n, v_ct, Int.reduceToNat, Int.toNat_natCast, stE, wlE, lgt, lpu, lpw, v_c2, va_s, true_and, and_true, Option.toList, List.nil_append, List.cons_append, List.take, List.drop, List.reverse, List.reverseAux, List.length_cons, List.length_nil, reduceCtorEq, false_implies, true_implies, forall_const, not_true_eq_false, not_false_eq_true, ite_true, ite_false, Bool.false_eq_true, I_I, J_J, Nat.add_left_cancel_iff, Nat.reduceEqDiff, Nat.add_eq_left, Nat.left_eq_add, false_and, and_false, Nat.reduceSub, Nat.sub_self, Nat.le_refl, Nat.zero_le, ge_iff_le, Nat.reduceAdd, Nat.reduceLeDiff, Nat.zero_add, Nat.reduceLT, z_lt, z_le, z_eq, z_l0, z_g0, z_le0, z_ge0, z_e0, z_e1, z_vp, z_nc, z_rem, z_div, i_ltT, i_ltF, i_leT, i_leF, i_eqT, i_eqF, n_ltT, n_ltF, n_leT, n_leF, n_eqT, n_eqF, tn_9, tn_12, tn_14, tn_20, tn_28, tn_44, tn_52, tn_68, tn_84, tn_100, tn_116, tn_132, fu_e, up_eq, ob_0, ob_b, oi_add, oi_sub, oi_mul, oi_neg, Int.add_zero, Int.zero_add, or_true, true_or, or_false, false_or, and_self, z_i2l, z_l2i, lo_nat, lo_add, lo_sub, lo_mul, lo_0, e_rem, hV.1, hFF.1, b1]
    rw [show i = (A 1).toNat by omega] at hO ⊢
    exact hq w _ _ hO hF
  | succ n ih =>
    intro i w v3 hi hO hF
    have hV := hO.V
    have hFF := hO.F
    have hE := hO.E
    have hge := hO.ge
    have g19 := hge.2 19 (by omega) (by omega)
    have b1 : o_bs A B i 1 = A 1 := by rw [f _ _ (by omega)]; exact hR.sz.2.1
    have b7 : o_bs A B i 7 = A 7 := by rw [f _ _ (by omega)]; exact hJX.2.1
    have b28 : o_bs A B i (28 + i) = A (28 + i) := by rw [f _ _ (by omega)]; exact hR.dig (by omega)
    have b84 : o_bs A B i (84 + i) = mvd (A (84 + i)) := by rw [f _ _ (by omega)]; exact hR.2 i (by omega)
    have b1020 : o_bs A B i (1020 + i) = (A (28 + i) - A 7 * A (84 + i)) % 10 := by rw [f _ _ (by omega)]; exact hJX.2.2.2.1 i (by omega)
    have b100 : o_bs A B i (100 + i) = A (100 + i) := by rw [f _ _ (by omega)]; exact hR.stp (by omega)
    have hd := TJ_dig hG.1.1 i (by omega)
    have hm := hm84 i (by omega)
    have h7 := hJI.2.1
    generalize hbe : (A (28 + i) - A 7 * A (84 + i)) % 10 = be at b1020
    have hbb : 0 ≤ be ∧ be ≤ 9 := by omega
    have mv01 : 0 ≤ mvd (A (84 + i)) ∧ mvd (A (84 + i)) ≤ 1 := by unfold mvd; split <;> omega
    have emc : m_ct A (i + 1) = m_ct A i + mvd (A (84 + i)) := by
      rw [m_ct]
      unfold mvd
      congr 1
      by_cases q : 0 < A (84 + i)
      · rw [if_pos q, if_pos ((oi_g0 ⟨by omega, by omega⟩).mpr q)]
      · rw [if_neg q, if_neg (fun r => q ((oi_g0 ⟨by omega, by omega⟩).mp r))]
    have hmc : 0 ≤ m_ct A i ∧ m_ct A i ≤ i := mct_b A i
    -- what is added
    have h103 : RT n_X10_crankBack 103 [.ref o, .int (Int32.ofInt (m_ct A (i + 1))), .int (Int32.ofInt i), .int (Int32.ofInt (A (84 + i) % 10))] [.int (Int32.ofInt (A (84 + i))), .int (Int32.ofInt (A (100 + i))), .int (Int32.ofInt i), .ref (P 19)] w (3, 48, false) Q := by
      refine rt_X10_crankBack_103 ?_
      simp (disch := omega) only [wp_c, wp_n, jj_n, v_ct, Int.reduceToNat, Int.toNat_natCast, stE, wlE, lgt, lpu, lpw, v_c2, va_s, true_and, and_true, Option.toList, List.nil_append, List.cons_append, List.take, List.drop, List.reverse, List.reverseAux, List.length_cons, List.length_nil, reduceCtorEq, false_implies, true_implies, forall_const, not_true_eq_false, not_false_eq_true, ite_true, ite_false, Bool.false_eq_true, I_I, J_J, Nat.add_left_cancel_iff, Nat.reduceEqDiff, Nat.add_eq_left, Nat.left_eq_add, false_and, and_false, Nat.reduceSub, Nat.sub_self, Nat.le_refl, Nat.zero_le, ge_iff_le, Nat.reduceAdd, Nat.reduceLeDiff, Nat.zero_add, Nat.reduceLT, z_lt, z_le, z_eq, z_l0, z_g0, z_le0, z_ge0, z_e0, z_e1, z_vp, z_nc, z_rem, z_div, i_ltT, i_ltF, i_leT, i_leF, i_eqT, i_eqF, n_ltT, n_ltF, n_leT, n_leF, n_eqT, n_eqF, tn_9, tn_12, tn_14, tn_20, tn_28, tn_44, tn_52, tn_68, tn_84, tn_100, tn_116, tn_132, fu_e, up_eq, ob_0, ob_b, oi_add, oi_sub, oi_mul, oi_neg, Int.add_zero, Int.zero_add, or_true, true_or, or_false, false_or, and_self, z_i2l, z_l2i, lo_nat, lo_add, lo_sub, lo_mul, lo_0, e_rem, hFF]
      have := ih (i + 1) (s_I w (P 19) i (Int32.ofInt (A (100 + i) + A (84 + i)))) (.int (Int32.ofInt (A (84 + i) % 10))) (by omega) ((hO.sstp (j := i) (v := A (100 + i) + A (84 + i)) (by omega)).cg ?_) (hF.I' g19)
      · exact this
      · funext j
        rw [up_eq]
        unfold o_bs
        by_cases q : j = 100 + i
        · subst q
          rw [if_pos (by omega), if_pos rfl, show 100 + i - 16 = 84 + i by omega, hR.stp (by omega)]
        · rw [if_neg q]
          by_cases q2 : 100 ≤ j ∧ j < 100 + i
          · rw [if_pos (by omega), if_pos q2]
          · rw [if_neg (by omega), if_neg q2]
    have h76 : RT n_X10_crankBack 76 [.ref o, .int (Int32.ofInt (m_ct A (i + 1))), .int (Int32.ofInt i), v3] [.int (Int32.ofInt (A (84 + i) % 10))] w (3, 48, false) Q := by
      refine rt_X10_crankBack_76 ?_
      simp (disch := omega) only [wp_c, wp_n, jj_n, v_ct, Int.reduceToNat, Int.toNat_natCast, stE, wlE, lgt, lpu, lpw, v_c2, va_s, true_and, and_true, Option.toList, List.nil_append, List.cons_append, List.take, List.drop, List.reverse, List.reverseAux, List.length_cons, List.length_nil, reduceCtorEq, false_implies, true_implies, forall_const, not_true_eq_false, not_false_eq_true, ite_true, ite_false, Bool.false_eq_true, I_I, J_J, Nat.add_left_cancel_iff, Nat.reduceEqDiff, Nat.add_eq_left, Nat.left_eq_add, false_and, and_false, Nat.reduceSub, Nat.sub_self, Nat.le_refl, Nat.zero_le, ge_iff_le, Nat.reduceAdd, Nat.reduceLeDiff, Nat.zero_add, Nat.reduceLT, z_lt, z_le, z_eq, z_l0, z_g0, z_le0, z_ge0, z_e0, z_e1, z_vp, z_nc, z_rem, z_div, i_ltT, i_ltF, i_leT, i_leF, i_eqT, i_eqF, n_ltT, n_ltF, n_leT, n_leF, n_eqT, n_eqF, tn_9, tn_12, tn_14, tn_20, tn_28, tn_44, tn_52, tn_68, tn_84, tn_100, tn_116, tn_132, fu_e, up_eq, ob_0, ob_b, oi_add, oi_sub, oi_mul, oi_neg, Int.add_zero, Int.zero_add, or_true, true_or, or_false, false_or, and_self, z_i2l, z_l2i, lo_nat, lo_add, lo_sub, lo_mul, lo_0, e_rem, hFF, hV, b84, b100]
      by_cases q : 0 < A (84 + i)
      · have e1 : mvd (A (84 + i)) = 1 := mvd_p q
        by_cases q2 : A (84 + i) % 10 = 0
        · have e10 : A (84 + i) = 10 := by omega
          simp (disch := omega) only [wp_c, wp_n, jj_n, v_ct, Int.reduceToNat, Int.toNat_natCast, stE, wlE, lgt, lpu, lpw, v_c2, va_s, true_and, and_true, Option.toList, List.nil_append, List.cons_append, List.take, List.drop, List.reverse, List.reverseAux, List.length_cons, List.length_nil, reduceCtorEq, false_implies, true_implies, forall_const, not_true_eq_false, not_false_eq_true, ite_true, ite_false, Bool.false_eq_true, I_I, J_J, Nat.add_left_cancel_iff, Nat.reduceEqDiff, Nat.add_eq_left, Nat.left_eq_add, false_and, and_false, Nat.reduceSub, Nat.sub_self, Nat.le_refl, Nat.zero_le, ge_iff_le, Nat.reduceAdd, Nat.reduceLeDiff, Nat.zero_add, Nat.reduceLT, z_lt, z_le, z_eq, z_l0, z_g0, z_le0, z_ge0, z_e0, z_e1, z_vp, z_nc, z_rem, z_div, i_ltT, i_ltF, i_leT, i_leF, i_eqT, i_eqF, n_ltT, n_ltF, n_leT, n_leF, n_eqT, n_eqF, tn_9, tn_12, tn_14, tn_20, tn_28, tn_44, tn_52, tn_68, tn_84, tn_100, tn_116, tn_132, fu_e, up_eq, ob_0, ob_b, oi_add, oi_sub, oi_mul, oi_neg, Int.add_zero, Int.zero_add, or_true, true_or, or_false, false_or, and_self, z_i2l, z_l2i, lo_nat, lo_add, lo_sub, lo_mul, lo_0, e_rem, e1, q2]
          rw [q2, e10] at h103
          exact h103
        · simp (disch := omega) only [wp_c, wp_n, jj_n, v_ct, Int.reduceToNat, Int.toNat_natCast, stE, wlE, lgt, lpu, lpw, v_c2, va_s, true_and, and_true, Option.toList, List.nil_append, List.cons_append, List.take, List.drop, List.reverse, List.reverseAux, List.length_cons, List.length_nil, reduceCtorEq, false_implies, true_implies, forall_const, not_true_eq_false, not_false_eq_true, ite_true, ite_false, Bool.false_eq_true, I_I, J_J, Nat.add_left_cancel_iff, Nat.reduceEqDiff, Nat.add_eq_left, Nat.left_eq_add, false_and, and_false, Nat.reduceSub, Nat.sub_self, Nat.le_refl, Nat.zero_le, ge_iff_le, Nat.reduceAdd, Nat.reduceLeDiff, Nat.zero_add, Nat.reduceLT, z_lt, z_le, z_eq, z_l0, z_g0, z_le0, z_ge0, z_e0, z_e1, z_vp, z_nc, z_rem, z_div, i_ltT, i_ltF, i_leT, i_leF, i_eqT, i_eqF, n_ltT, n_ltF, n_leT, n_leF, n_eqT, n_eqF, tn_9, tn_12, tn_14, tn_20, tn_28, tn_44, tn_52, tn_68, tn_84, tn_100, tn_116, tn_132, fu_e, up_eq, ob_0, ob_b, oi_add, oi_sub, oi_mul, oi_neg, Int.add_zero, Int.zero_add, or_true, true_or, or_false, false_or, and_self, z_i2l, z_l2i, lo_nat, lo_add, lo_sub, lo_mul, lo_0, e_rem, e1]
          refine rt_X10_crankBack_102 ?_
          simp (disch := omega) only [wp_c, wp_n, jj_n, v_ct, Int.reduceToNat, Int.toNat_natCast, stE, wlE, lgt, lpu, lpw, v_c2, va_s, true_and, and_true, Option.toList, List.nil_append, List.cons_append, List.take, List.drop, List.reverse, List.reverseAux, List.length_cons, List.length_nil, reduceCtorEq, false_implies, true_implies, forall_const, not_true_eq_false, not_false_eq_true, ite_true, ite_false, Bool.false_eq_true, I_I, J_J, Nat.add_left_cancel_iff, Nat.reduceEqDiff, Nat.add_eq_left, Nat.left_eq_add, false_and, and_false, Nat.reduceSub, Nat.sub_self, Nat.le_refl, Nat.zero_le, ge_iff_le, Nat.reduceAdd, Nat.reduceLeDiff, Nat.zero_add, Nat.reduceLT, z_lt, z_le, z_eq, z_l0, z_g0, z_le0, z_ge0, z_e0, z_e1, z_vp, z_nc, z_rem, z_div, i_ltT, i_ltF, i_leT, i_leF, i_eqT, i_eqF, n_ltT, n_ltF, n_leT, n_leF, n_eqT, n_eqF, tn_9, tn_12, tn_14, tn_20, tn_28, tn_44, tn_52, tn_68, tn_84, tn_100, tn_116, tn_132, fu_e, up_eq, ob_0, ob_b, oi_add, oi_sub, oi_mul, oi_neg, Int.add_zero, Int.zero_add, or_true, true_or, or_false, false_or, and_self, z_i2l, z_l2i, lo_nat, lo_add, lo_sub, lo_mul, lo_0, e_rem]
          have e9 : A (84 + i) % 10 = A (84 + i) := by omega
          rw [e9] at h103 ⊢
          exact h103
      · have e0 : A (84 + i) = 0 := by omega
        have e1 : mvd (A (84 + i)) = 0 := by rw [e0]; rfl
        simp (disch := omega) only [wp_c, wp_n, jj_n, v_ct, Int.reduceToNat, Int.toNat_natCast, stE, wlE, lgt, lpu, lpw, v_c2, va_s, true_and, and_true, Option.toList, List.nil_append, List.cons_append, List.take, List.drop, List.reverse, List.reverseAux, List.length_cons, List.length_nil, reduceCtorEq, false_implies, true_implies, forall_const, not_true_eq_false, not_false_eq_true, ite_true, ite_false, Bool.false_eq_true, I_I, J_J, Nat.add_left_cancel_iff, Nat.reduceEqDiff, Nat.add_eq_left, Nat.left_eq_add, false_and, and_false, Nat.reduceSub, Nat.sub_self, Nat.le_refl, Nat.zero_le, ge_iff_le, Nat.reduceAdd, Nat.reduceLeDiff, Nat.zero_add, Nat.reduceLT, z_lt, z_le, z_eq, z_l0, z_g0, z_le0, z_ge0, z_e0, z_e1, z_vp, z_nc, z_rem, z_div, i_ltT, i_ltF, i_leT, i_leF, i_eqT, i_eqF, n_ltT, n_ltF, n_leT, n_leF, n_eqT, n_eqF, tn_9, tn_12, tn_14, tn_20, tn_28, tn_44, tn_52, tn_68, tn_84, tn_100, tn_116, tn_132, fu_e, up_eq, ob_0, ob_b, oi_add, oi_sub, oi_mul, oi_neg, Int.add_zero, Int.zero_add, or_true, true_or, or_false, false_or, and_self, z_i2l, z_l2i, lo_nat, lo_add, lo_sub, lo_mul, lo_0, e_rem, e1]
        refine rt_X10_crankBack_102 ?_
        simp (disch := omega) only [wp_c, wp_n, jj_n, v_ct, Int.reduceToNat, Int.toNat_natCast, stE, wlE, lgt, lpu, lpw, v_c2, va_s, true_and, and_true, Option.toList, List.nil_append, List.cons_append, List.take, List.drop, List.reverse, List.reverseAux, List.length_cons, List.length_nil, reduceCtorEq, false_implies, true_implies, forall_const, not_true_eq_false, not_false_eq_true, ite_true, ite_false, Bool.false_eq_true, I_I, J_J, Nat.add_left_cancel_iff, Nat.reduceEqDiff, Nat.add_eq_left, Nat.left_eq_add, false_and, and_false, Nat.reduceSub, Nat.sub_self, Nat.le_refl, Nat.zero_le, ge_iff_le, Nat.reduceAdd, Nat.reduceLeDiff, Nat.zero_add, Nat.reduceLT, z_lt, z_le, z_eq, z_l0, z_g0, z_le0, z_ge0, z_e0, z_e1, z_vp, z_nc, z_rem, z_div, i_ltT, i_ltF, i_leT, i_leF, i_eqT, i_eqF, n_ltT, n_ltF, n_leT, n_leF, n_eqT, n_eqF, tn_9, tn_12, tn_14, tn_20, tn_28, tn_44, tn_52, tn_68, tn_84, tn_100, tn_116, tn_132, fu_e, up_eq, ob_0, ob_b, oi_add, oi_sub, oi_mul, oi_neg, Int.add_zero, Int.zero_add, or_true, true_or, or_false, false_or, and_self, z_i2l, z_l2i, lo_nat, lo_add, lo_sub, lo_mul, lo_0, e_rem]
        rw [e0] at h103 ⊢
        exact h103
    refine rt_X10_crankBack_4 ?_
    simp (disch := omega) only [wp_c, wp_n, jj_n, v_ct, Int.reduceToNat, Int.toNat_natCast, stE, wlE, lgt, lpu, lpw, v_c2, va_s, true_and, and_true, Option.toList, List.nil_append, List.cons_append, List.take, List.drop, List.reverse, List.reverseAux, List.length_cons, List.length_nil, reduceCtorEq, false_implies, true_implies, forall_const, not_true_eq_false, not_false_eq_true, ite_true, ite_false, Bool.false_eq_true, I_I, J_J, Nat.add_left_cancel_iff, Nat.reduceEqDiff, Nat.add_eq_left, Nat.left_eq_add, false_and, and_false, Nat.reduceSub, Nat.sub_self, Nat.le_refl, Nat.zero_le, ge_iff_le, Nat.reduceAdd, Nat.reduceLeDiff, Nat.zero_add, Nat.reduceLT, z_lt, z_le, z_eq, z_l0, z_g0, z_le0, z_ge0, z_e0, z_e1, z_vp, z_nc, z_rem, z_div, i_ltT, i_ltF, i_leT, i_leF, i_eqT, i_eqF, n_ltT, n_ltF, n_leT, n_leF, n_eqT, n_eqF, tn_9, tn_12, tn_14, tn_20, tn_28, tn_44, tn_52, tn_68, tn_84, tn_100, tn_116, tn_132, fu_e, up_eq, ob_0, ob_b, oi_add, oi_sub, oi_mul, oi_neg, Int.add_zero, Int.zero_add, or_true, true_or, or_false, false_or, and_self, z_i2l, z_l2i, lo_nat, lo_add, lo_sub, lo_mul, lo_0, e_rem, hFF, hV, b1, b84, b28, b1020, mh_X10_crankBack]
    rw [← emc]
    have t10 : ((10 : Nat) : Int) = 10 := rfl
    refine z_within (m := 10) ⟨by omega, by omega⟩ ⟨by omega, by omega⟩ ?_
    have hw1 : 0 ≤ (A (28 + i) - be) % 10 ∧ (A (28 + i) - be) % 10 ≤ 9 := by omega
    have hL : Int64.ofInt ((A (28 + i) - be) % 10) = Int64.ofInt 0 ↔ (A (28 + i) - be) % 10 = 0 := lo_eq ⟨by omega, by omega⟩ ⟨by omega, by omega⟩
    simp (disch := omega) only [wp_c, wp_n, jj_n, v_ct, Int.reduceToNat, Int.toNat_natCast, stE, wlE, lgt, lpu, lpw, v_c2, va_s, true_and, and_true, Option.toList, List.nil_append, List.cons_append, List.take, List.drop, List.reverse, List.reverseAux, List.length_cons, List.length_nil, reduceCtorEq, false_implies, true_implies, forall_const, not_true_eq_false, not_false_eq_true, ite_true, ite_false, Bool.false_eq_true, I_I, J_J, Nat.add_left_cancel_iff, Nat.reduceEqDiff, Nat.add_eq_left, Nat.left_eq_add, false_and, and_false, Nat.reduceSub, Nat.sub_self, Nat.le_refl, Nat.zero_le, ge_iff_le, Nat.reduceAdd, Nat.reduceLeDiff, Nat.zero_add, Nat.reduceLT, z_lt, z_le, z_eq, z_l0, z_g0, z_le0, z_ge0, z_e0, z_e1, z_vp, z_nc, z_rem, z_div, i_ltT, i_ltF, i_leT, i_leF, i_eqT, i_eqF, n_ltT, n_ltF, n_leT, n_leF, n_eqT, n_eqF, tn_9, tn_12, tn_14, tn_20, tn_28, tn_44, tn_52, tn_68, tn_84, tn_100, tn_116, tn_132, fu_e, up_eq, ob_0, ob_b, oi_add, oi_sub, oi_mul, oi_neg, Int.add_zero, Int.zero_add, or_true, true_or, or_false, false_or, and_self, z_i2l, z_l2i, lo_nat, lo_add, lo_sub, lo_mul, lo_0, e_rem, lg_e, hL]
    have hsame : (A (28 + i) - be) % 10 = 0 ↔ A (84 + i) % 10 = 0 := by rw [← hbe]; rcases h7 with q | q <;> rw [q] <;> omega
    by_cases q : (A (28 + i) - be) % 10 = 0
    · simp (disch := omega) only [wp_c, wp_n, jj_n, v_ct, Int.reduceToNat, Int.toNat_natCast, stE, wlE, lgt, lpu, lpw, v_c2, va_s, true_and, and_true, Option.toList, List.nil_append, List.cons_append, List.take, List.drop, List.reverse, List.reverseAux, List.length_cons, List.length_nil, reduceCtorEq, false_implies, true_implies, forall_const, not_true_eq_false, not_false_eq_true, ite_true, ite_false, Bool.false_eq_true, I_I, J_J, Nat.add_left_cancel_iff, Nat.reduceEqDiff, Nat.add_eq_left, Nat.left_eq_add, false_and, and_false, Nat.reduceSub, Nat.sub_self, Nat.le_refl, Nat.zero_le, ge_iff_le, Nat.reduceAdd, Nat.reduceLeDiff, Nat.zero_add, Nat.reduceLT, z_lt, z_le, z_eq, z_l0, z_g0, z_le0, z_ge0, z_e0, z_e1, z_vp, z_nc, z_rem, z_div, i_ltT, i_ltF, i_leT, i_leF, i_eqT, i_eqF, n_ltT, n_ltF, n_leT, n_leF, n_eqT, n_eqF, tn_9, tn_12, tn_14, tn_20, tn_28, tn_44, tn_52, tn_68, tn_84, tn_100, tn_116, tn_132, fu_e, up_eq, ob_0, ob_b, oi_add, oi_sub, oi_mul, oi_neg, Int.add_zero, Int.zero_add, or_true, true_or, or_false, false_or, and_self, z_i2l, z_l2i, lo_nat, lo_add, lo_sub, lo_mul, lo_0, e_rem]
      rw [hsame.mp q] at h76
      exact h76
    · simp (disch := omega) only [wp_c, wp_n, jj_n, v_ct, Int.reduceToNat, Int.toNat_natCast, stE, wlE, lgt, lpu, lpw, v_c2, va_s, true_and, and_true, Option.toList, List.nil_append, List.cons_append, List.take, List.drop, List.reverse, List.reverseAux, List.length_cons, List.length_nil, reduceCtorEq, false_implies, true_implies, forall_const, not_true_eq_false, not_false_eq_true, ite_true, ite_false, Bool.false_eq_true, I_I, J_J, Nat.add_left_cancel_iff, Nat.reduceEqDiff, Nat.add_eq_left, Nat.left_eq_add, false_and, and_false, Nat.reduceSub, Nat.sub_self, Nat.le_refl, Nat.zero_le, ge_iff_le, Nat.reduceAdd, Nat.reduceLeDiff, Nat.zero_add, Nat.reduceLT, z_lt, z_le, z_eq, z_l0, z_g0, z_le0, z_ge0, z_e0, z_e1, z_vp, z_nc, z_rem, z_div, i_ltT, i_ltF, i_leT, i_leF, i_eqT, i_eqF, n_ltT, n_ltF, n_leT, n_leF, n_eqT, n_eqF, tn_9, tn_12, tn_14, tn_20, tn_28, tn_44, tn_52, tn_68, tn_84, tn_100, tn_116, tn_132, fu_e, up_eq, ob_0, ob_b, oi_add, oi_sub, oi_mul, oi_neg, Int.add_zero, Int.zero_add, or_true, true_or, or_false, false_or, and_self, z_i2l, z_l2i, lo_nat, lo_add, lo_sub, lo_mul, lo_0, e_rem]
      refine rt_X10_crankBack_50 ?_
      have hpr : -9 ≤ A 7 * (A (28 + i) - be) ∧ A 7 * (A (28 + i) - be) ≤ 9 := by rcases h7 with r | r <;> rw [r] <;> omega
      simp (disch := omega) only [wp_c, wp_n, jj_n, v_ct, Int.reduceToNat, Int.toNat_natCast, stE, wlE, lgt, lpu, lpw, v_c2, va_s, true_and, and_true, Option.toList, List.nil_append, List.cons_append, List.take, List.drop, List.reverse, List.reverseAux, List.length_cons, List.length_nil, reduceCtorEq, false_implies, true_implies, forall_const, not_true_eq_false, not_false_eq_true, ite_true, ite_false, Bool.false_eq_true, I_I, J_J, Nat.add_left_cancel_iff, Nat.reduceEqDiff, Nat.add_eq_left, Nat.left_eq_add, false_and, and_false, Nat.reduceSub, Nat.sub_self, Nat.le_refl, Nat.zero_le, ge_iff_le, Nat.reduceAdd, Nat.reduceLeDiff, Nat.zero_add, Nat.reduceLT, z_lt, z_le, z_eq, z_l0, z_g0, z_le0, z_ge0, z_e0, z_e1, z_vp, z_nc, z_rem, z_div, i_ltT, i_ltF, i_leT, i_leF, i_eqT, i_eqF, n_ltT, n_ltF, n_leT, n_leF, n_eqT, n_eqF, tn_9, tn_12, tn_14, tn_20, tn_28, tn_44, tn_52, tn_68, tn_84, tn_100, tn_116, tn_132, fu_e, up_eq, ob_0, ob_b, oi_add, oi_sub, oi_mul, oi_neg, Int.add_zero, Int.zero_add, or_true, true_or, or_false, false_or, and_self, z_i2l, z_l2i, lo_nat, lo_add, lo_sub, lo_mul, lo_0, e_rem, hFF, hV, b7, b28, b1020, mh_X10_crankBack]
      refine z_within (m := 10) ⟨by omega, by omega⟩ ⟨by omega, by omega⟩ ?_
      simp (disch := omega) only [wp_c, wp_n, jj_n, v_ct, Int.reduceToNat, Int.toNat_natCast, stE, wlE, lgt, lpu, lpw, v_c2, va_s, true_and, and_true, Option.toList, List.nil_append, List.cons_append, List.take, List.drop, List.reverse, List.reverseAux, List.length_cons, List.length_nil, reduceCtorEq, false_implies, true_implies, forall_const, not_true_eq_false, not_false_eq_true, ite_true, ite_false, Bool.false_eq_true, I_I, J_J, Nat.add_left_cancel_iff, Nat.reduceEqDiff, Nat.add_eq_left, Nat.left_eq_add, false_and, and_false, Nat.reduceSub, Nat.sub_self, Nat.le_refl, Nat.zero_le, ge_iff_le, Nat.reduceAdd, Nat.reduceLeDiff, Nat.zero_add, Nat.reduceLT, z_lt, z_le, z_eq, z_l0, z_g0, z_le0, z_ge0, z_e0, z_e1, z_vp, z_nc, z_rem, z_div, i_ltT, i_ltF, i_leT, i_leF, i_eqT, i_eqF, n_ltT, n_ltF, n_leT, n_leF, n_eqT, n_eqF, tn_9, tn_12, tn_14, tn_20, tn_28, tn_44, tn_52, tn_68, tn_84, tn_100, tn_116, tn_132, fu_e, up_eq, ob_0, ob_b, oi_add, oi_sub, oi_mul, oi_neg, Int.add_zero, Int.zero_add, or_true, true_or, or_false, false_or, and_self, z_i2l, z_l2i, lo_nat, lo_add, lo_sub, lo_mul, lo_0, e_rem]
      have e : A 7 * (A (28 + i) - be) % 10 = A (84 + i) % 10 := by rw [← hbe]; rcases h7 with r | r <;> rw [r] <;> omega
      rw [e]
      exact h76
/-- the counts as they were before -/
def o_b3 (B : Row) (i : Nat) : Row := fun j => if 14 ≤ j ∧ j < 12 + i then B (1040 + (j - 12)) else B j
theorem z_bk_143 {b o : Nat} {P : Nat → Nat} {B : Row} {x1 : Int32} {v3 : Value} {g : mG} {w0 : mW} {Q : mW → mO → Prop} (hq : ∀ w', OW w' b o P (o_b3 B 5) → FO b w0 w' → ∀ x2, RT n_X10_crankBack 166 [.ref o, .int x1, x2, v3] [] w' g Q) : ∀ (n i : Nat) (w : mW), i + n = 5 → 2 ≤ i → OW w b o P (o_b3 B i) → FO b w0 w → RT n_X10_crankBack 143 [.ref o, .int x1, .int (Int32.ofInt i), v3] [] w g Q := by
  intro n
  induction n with
  | zero =>
    intro i w hi h2 hO hF
    have e : i = 5 := by omega
    subst e
    refine rt_X10_crankBack_143 ?_
    simp (disch := omega) only [wp_c, wp_n, jj_n, v_ct, Int.reduceToNat, Int.toNat_natCast, stE, wlE, lgt, lpu, lpw, v_c2, va_s, true_and, and_true, Option.toList, List.nil_append, List.cons_append, List.take, List.drop, List.reverse, List.reverseAux, List.length_cons, List.length_nil, reduceCtorEq, false_implies, true_implies, forall_const, not_true_eq_false, not_false_eq_true, ite_true, ite_false, Bool.false_eq_true, I_I, J_J, Nat.add_left_cancel_iff, Nat.reduceEqDiff, Nat.add_eq_left, Nat.left_eq_add, false_and, and_false, Nat.reduceSub, Nat.sub_self, Nat.le_refl, Nat.zero_le, ge_iff_le, Nat.reduceAdd, Nat.reduceLeDiff, Nat.zero_add, Nat.reduceLT, z_lt, z_le, z_eq, z_l0, z_g0, z_le0, z_ge0, z_e0, z_e1, z_vp, z_nc, z_rem, z_div, i_ltT, i_ltF, i_leT, i_leF, i_eqT, i_eqF, n_ltT, n_ltF, n_leT, n_leF, n_eqT, n_eqF, tn_9, tn_12, tn_14, tn_20, tn_28, tn_44, tn_52, tn_68, tn_84, tn_100, tn_116, tn_132, fu_e, up_eq, ob_0, ob_b, oi_add, oi_sub, oi_mul, oi_neg, Int.add_zero, Int.zero_add, or_true, true_or, or_false, false_or, and_self, z_i2l, z_l2i, lo_nat, lo_add, lo_sub, lo_mul, lo_0, e_rem]
    exact hq w hO hF _
  | succ n ih =>
    intro i w hi h2 hO hF
    have hV := hO.V
    have hFF := hO.F
    have hge := hO.ge
    have g21 := hge.2 21 (by omega) (by omega)
    have b1040 : o_b3 B i (1040 + i) = B (1040 + i) := by unfold o_b3; rw [if_neg (by omega)]
    refine rt_X10_crankBack_143 ?_
    simp (disch := omega) only [wp_c, wp_n, jj_n, v_ct, Int.reduceToNat, Int.toNat_natCast, stE, wlE, lgt, lpu, lpw, v_c2, va_s, true_and, and_true, Option.toList, List.nil_append, List.cons_append, List.take, List.drop, List.reverse, List.reverseAux, List.length_cons, List.length_nil, reduceCtorEq, false_implies, true_implies, forall_const, not_true_eq_false, not_false_eq_true, ite_true, ite_false, Bool.false_eq_true, I_I, J_J, Nat.add_left_cancel_iff, Nat.reduceEqDiff, Nat.add_eq_left, Nat.left_eq_add, false_and, and_false, Nat.reduceSub, Nat.sub_self, Nat.le_refl, Nat.zero_le, ge_iff_le, Nat.reduceAdd, Nat.reduceLeDiff, Nat.zero_add, Nat.reduceLT, z_lt, z_le, z_eq, z_l0, z_g0, z_le0, z_ge0, z_e0, z_e1, z_vp, z_nc, z_rem, z_div, i_ltT, i_ltF, i_leT, i_leF, i_eqT, i_eqF, n_ltT, n_ltF, n_leT, n_leF, n_eqT, n_eqF, tn_9, tn_12, tn_14, tn_20, tn_28, tn_44, tn_52, tn_68, tn_84, tn_100, tn_116, tn_132, fu_e, up_eq, ob_0, ob_b, oi_add, oi_sub, oi_mul, oi_neg, Int.add_zero, Int.zero_add, or_true, true_or, or_false, false_or, and_self, z_i2l, z_l2i, lo_nat, lo_add, lo_sub, lo_mul, lo_0, e_rem, hFF, hV, b1040]
    have := ih (i + 1) (s_I w (P 21) i (Int32.ofInt (B (1040 + i)))) (by omega) (by omega) ((hO.scts (j := i) (v := B (1040 + i)) (by omega)).cg ?_) (hF.I' g21)
    · exact this
    · funext j
      rw [up_eq]
      unfold o_b3
      by_cases q : j = 12 + i
      · subst q
        rw [if_pos (by omega), if_pos rfl, show 12 + i - 12 = i by omega]
      · rw [if_neg q]
        by_cases q2 : 14 ≤ j ∧ j < 12 + i
        · rw [if_pos (by omega), if_pos q2]
        · rw [if_neg (by omega), if_neg q2]
theorem z_back {b o : Nat} {P : Nat → Nat} {A B : Row} {N : Int} {w : mW} {Q : mW → mO → Prop} (hO : OW w b o P B) (hT : TS A B N) (h5 : 0 < A 5)
  (hq : ∀ w' P' B', OW w' b o P' B' → FO b w w' → TS (r_bk A) B' N → B' 1000 = B 1000 → (LX A B → LX (r_bk A) B') → Q w' (.inl (some (.int (Int32.ofInt (m_ct A (A 1).toNat)))))) : CT n_X10_crankBack [.ref o] w Q := by
  have hG := hT.1
  have hz := hG.sz
  have hb0 := hO.1.2.1
  have hge := hO.ge
  have h16 : (Int32.ofInt 16).toNatClampNeg = 16 := by decide
  refine ct_X10_crankBack (rt_X10_crankBack_0 ?_)
  simp only [wp_c, wp_n, jj_n, v_ct, Int.reduceToNat, Int.toNat_natCast, stE, wlE, lgt, lpu, lpw, v_c2, va_s, true_and, and_true, Option.toList, List.nil_append, List.cons_append, List.take, List.drop, List.reverse, List.reverseAux, List.length_cons, List.length_nil, reduceCtorEq, false_implies, true_implies, forall_const, not_true_eq_false, not_false_eq_true, ite_true, ite_false, Bool.false_eq_true, I_I, J_J, Nat.add_left_cancel_iff, Nat.reduceEqDiff, Nat.add_eq_left, Nat.left_eq_add, false_and, and_false, Nat.reduceSub, Nat.sub_self, Nat.le_refl, Nat.zero_le, ge_iff_le, Nat.reduceAdd, Nat.reduceLeDiff, Nat.zero_add, Nat.reduceLT]
  have := z_bk_4 (b := b) (o := o) (P := P) (w0 := w) (Q := Q) hT h5 ?_ (A 1).toNat 0 w .null (by omega) (hO.cg (by funext j; unfold o_bs; rw [if_neg (by omega)])) (FO.refl _ _)
  · exact this
  intro w1 x2 x3 h1 f1
  have F1 := h1.F
  have ge1 := h1.ge
  refine rt_X10_crankBack_111 ?_
  simp (disch := omega) only [wp_c, wp_n, jj_n, v_ct, Int.reduceToNat, Int.toNat_natCast, stE, wlE, lgt, lpu, lpw, v_c2, va_s, true_and, and_true, Option.toList, List.nil_append, List.cons_append, List.take, List.drop, List.reverse, List.reverseAux, List.length_cons, List.length_nil, reduceCtorEq, false_implies, true_implies, forall_const, not_true_eq_false, not_false_eq_true, ite_true, ite_false, Bool.false_eq_true, I_I, J_J, Nat.add_left_cancel_iff, Nat.reduceEqDiff, Nat.add_eq_left, Nat.left_eq_add, false_and, and_false, Nat.reduceSub, Nat.sub_self, Nat.le_refl, Nat.zero_le, ge_iff_le, Nat.reduceAdd, Nat.reduceLeDiff, Nat.zero_add, Nat.reduceLT, z_lt, z_le, z_eq, z_l0, z_g0, z_le0, z_ge0, z_e0, z_e1, z_vp, z_nc, z_rem, z_div, i_ltT, i_ltF, i_leT, i_leF, i_eqT, i_eqF, n_ltT, n_ltF, n_leT, n_leF, n_eqT, n_eqF, tn_9, tn_12, tn_14, tn_20, tn_28, tn_44, tn_52, tn_68, tn_84, tn_100, tn_116, tn_132, fu_e, up_eq, ob_0, ob_b, oi_add, oi_sub, oi_mul, oi_neg, Int.add_zero, Int.zero_add, or_true, true_or, or_false, false_or, and_self, z_i2l, z_l2i, lo_nat, lo_add, lo_sub, lo_mul, lo_0, e_rem, F1]
  intro q1 hq1
  have h2 := h1.copy (f := 16) (g := 22) (by omega) (by omega) rfl hq1
  have hb1 := h1.1.2.1
  have f2 : FO b w (s_R (s_C (s_K w1 q1) (P 22)) o 16 (some (100 + q1))) := (f1.C hq1 (by omega)).R hge.1
  have no1 : ¬ o = 100 + q1 := by omega
  generalize hw2 : s_R (s_C (s_K w1 q1) (P 22)) o 16 (some (100 + q1)) = w2 at h2 f2 ⊢
  have F2 := h2.F
  simp only [Nat.reduceEqDiff, ite_true, ite_false] at F2
  have hn2 : w_n w2 = q1 + 1 := by rw [← hw2]; rfl
  simp (disch := omega) only [wp_c, wp_n, jj_n, v_ct, Int.reduceToNat, Int.toNat_natCast, stE, wlE, lgt, lpu, lpw, v_c2, va_s, true_and, and_true, Option.toList, List.nil_append, List.cons_append, List.take, List.drop, List.reverse, List.reverseAux, List.length_cons, List.length_nil, reduceCtorEq, false_implies, true_implies, forall_const, not_true_eq_false, not_false_eq_true, ite_true, ite_false, Bool.false_eq_true, I_I, J_J, Nat.add_left_cancel_iff, Nat.reduceEqDiff, Nat.add_eq_left, Nat.left_eq_add, false_and, and_false, Nat.reduceSub, Nat.sub_self, Nat.le_refl, Nat.zero_le, ge_iff_le, Nat.reduceAdd, Nat.reduceLeDiff, Nat.zero_add, Nat.reduceLT, z_lt, z_le, z_eq, z_l0, z_g0, z_le0, z_ge0, z_e0, z_e1, z_vp, z_nc, z_rem, z_div, i_ltT, i_ltF, i_leT, i_leF, i_eqT, i_eqF, n_ltT, n_ltF, n_leT, n_leF, n_eqT, n_eqF, tn_9, tn_12, tn_14, tn_20, tn_28, tn_44, tn_52, tn_68, tn_84, tn_100, tn_116, tn_132, fu_e, up_eq, ob_0, ob_b, oi_add, oi_sub, oi_mul, oi_neg, Int.add_zero, Int.zero_add, or_true, true_or, or_false, false_or, and_self, z_i2l, z_l2i, lo_nat, lo_add, lo_sub, lo_mul, lo_0, e_rem, CK_sh, CK_shn no1, CK_Rn no1, F1, F2, h16]
  intro q2 hq2
  have hq2' : w_n w2 ≤ q2 := by omega
  have h3 := h2.new (f := 18) (n := 16) (by omega) rfl hq2'
  have f3 : FO b w (s_R (s_N (s_K w2 q2) (1, 16)) o 18 (some (100 + q2))) := (f2.N hq2' (by omega)).R hge.1
  have no2 : ¬ o = 100 + q2 := by omega
  generalize hw3 : s_R (s_N (s_K w2 q2) (1, 16)) o 18 (some (100 + q2)) = w3 at h3 f3 ⊢
  have F3 := h3.F
  simp only [Nat.reduceEqDiff, ite_true, ite_false] at F3
  have hn3 : w_n w3 = q2 + 1 := by rw [← hw3]; rfl
  simp (disch := omega) only [wp_c, wp_n, jj_n, v_ct, Int.reduceToNat, Int.toNat_natCast, stE, wlE, lgt, lpu, lpw, v_c2, va_s, true_and, and_true, Option.toList, List.nil_append, List.cons_append, List.take, List.drop, List.reverse, List.reverseAux, List.length_cons, List.length_nil, reduceCtorEq, false_implies, true_implies, forall_const, not_true_eq_false, not_false_eq_true, ite_true, ite_false, Bool.false_eq_true, I_I, J_J, Nat.add_left_cancel_iff, Nat.reduceEqDiff, Nat.add_eq_left, Nat.left_eq_add, false_and, and_false, Nat.reduceSub, Nat.sub_self, Nat.le_refl, Nat.zero_le, ge_iff_le, Nat.reduceAdd, Nat.reduceLeDiff, Nat.zero_add, Nat.reduceLT, z_lt, z_le, z_eq, z_l0, z_g0, z_le0, z_ge0, z_e0, z_e1, z_vp, z_nc, z_rem, z_div, i_ltT, i_ltF, i_leT, i_leF, i_eqT, i_eqF, n_ltT, n_ltF, n_leT, n_leF, n_eqT, n_eqF, tn_9, tn_12, tn_14, tn_20, tn_28, tn_44, tn_52, tn_68, tn_84, tn_100, tn_116, tn_132, fu_e, up_eq, ob_0, ob_b, oi_add, oi_sub, oi_mul, oi_neg, Int.add_zero, Int.zero_add, or_true, true_or, or_false, false_or, and_self, z_i2l, z_l2i, lo_nat, lo_add, lo_sub, lo_mul, lo_0, e_rem, NK_sh, NK_shn no2, NK_Rn no2, F2, F3, h16]
  intro q3 hq3
  have hq3' : w_n w3 ≤ q3 := by omega
  have h4 := h3.new (f := 20) (n := 16) (by omega) rfl hq3'
  have f4 : FO b w (s_R (s_N (s_K w3 q3) (1, 16)) o 20 (some (100 + q3))) := (f3.N hq3' (by omega)).R hge.1
  have no3 : ¬ o = 100 + q3 := by omega
  generalize hw4 : s_R (s_N (s_K w3 q3) (1, 16)) o 20 (some (100 + q3)) = w4 at h4 f4 ⊢
  simp (disch := omega) only [wp_c, wp_n, jj_n, v_ct, Int.reduceToNat, Int.toNat_natCast, stE, wlE, lgt, lpu, lpw, v_c2, va_s, true_and, and_true, Option.toList, List.nil_append, List.cons_append, List.take, List.drop, List.reverse, List.reverseAux, List.length_cons, List.length_nil, reduceCtorEq, false_implies, true_implies, forall_const, not_true_eq_false, not_false_eq_true, ite_true, ite_false, Bool.false_eq_true, I_I, J_J, Nat.add_left_cancel_iff, Nat.reduceEqDiff, Nat.add_eq_left, Nat.left_eq_add, false_and, and_false, Nat.reduceSub, Nat.sub_self, Nat.le_refl, Nat.zero_le, ge_iff_le, Nat.reduceAdd, Nat.reduceLeDiff, Nat.zero_add, Nat.reduceLT, z_lt, z_le, z_eq, z_l0, z_g0, z_le0, z_ge0, z_e0, z_e1, z_vp, z_nc, z_rem, z_div, i_ltT, i_ltF, i_leT, i_leF, i_eqT, i_eqF, n_ltT, n_ltF, n_leT, n_leF, n_eqT, n_eqF, tn_9, tn_12, tn_14, tn_20, tn_28, tn_44, tn_52, tn_68, tn_84, tn_100, tn_116, tn_132, fu_e, up_eq, ob_0, ob_b, oi_add, oi_sub, oi_mul, oi_neg, Int.add_zero, Int.zero_add, or_true, true_or, or_false, false_or, and_self, z_i2l, z_l2i, lo_nat, lo_add, lo_sub, lo_mul, lo_0, e_rem, NK_sh, NK_shn no3, NK_Rn no3, F3]
  have hR := hT.2.1.1
  have hJX := hT.2.2.1 h5
  obtain ⟨e28, e100, e14⟩ := bk_at hG h5
  have k0 := bk_0 hG
  have ek : ∀ j, j < 5 ∨ (6 ≤ j ∧ j < 9) ∨ (17 ≤ j ∧ j < 28) ∨ (44 ≤ j ∧ j < 52) ∨ (68 ≤ j ∧ j < 84) ∨ 116 ≤ j → r_bk A j = A j := fun j hj => bk_k (by omega) hj
  -- the row behind it
  have main : ∀ C : Row, (∀ j, C j = if 28 ≤ j ∧ j < 44 then B (1020 + (j - 28)) else if (52 ≤ j ∧ j < 68) ∨ (84 ≤ j ∧ j < 100) then 0 else if 100 ≤ j ∧ j < 100 + (A 1).toNat then B j + A (j - 16) else B j) → ∀ w5, OW w5 b o (fun g => if g = 20 then 100 + q3 else if g = 18 then 100 + q2 else if g = 16 then 100 + q1 else P g) (o_b3 C 5) → FO b w w5 → ∀ x2, RT n_X10_crankBack 166 [.ref o, .int (Int32.ofInt (m_ct A (A 1).toNat)), x2, x3] [] w5 (0, 0, false) Q := by
    intro C hC w5 m1 m2 x2
    have hF5 := m1.F
    have hge5 := m1.ge
    refine rt_X10_crankBack_166 ?_
    simp (disch := omega) only [wp_c, wp_n, jj_n, v_ct, Int.reduceToNat, Int.toNat_natCast, stE, wlE, lgt, lpu, lpw, v_c2, va_s, true_and, and_true, Option.toList, List.nil_append, List.cons_append, List.take, List.drop, List.reverse, List.reverseAux, List.length_cons, List.length_nil, reduceCtorEq, false_implies, true_implies, forall_const, not_true_eq_false, not_false_eq_true, ite_true, ite_false, Bool.false_eq_true, I_I, J_J, Nat.add_left_cancel_iff, Nat.reduceEqDiff, Nat.add_eq_left, Nat.left_eq_add, false_and, and_false, Nat.reduceSub, Nat.sub_self, Nat.le_refl, Nat.zero_le, ge_iff_le, Nat.reduceAdd, Nat.reduceLeDiff, Nat.zero_add, Nat.reduceLT, z_lt, z_le, z_eq, z_l0, z_g0, z_le0, z_ge0, z_e0, z_e1, z_vp, z_nc, z_rem, z_div, i_ltT, i_ltF, i_leT, i_leF, i_eqT, i_eqF, n_ltT, n_ltF, n_leT, n_leF, n_eqT, n_eqF, tn_9, tn_12, tn_14, tn_20, tn_28, tn_44, tn_52, tn_68, tn_84, tn_100, tn_116, tn_132, fu_e, up_eq, ob_0, ob_b, oi_add, oi_sub, oi_mul, oi_neg, Int.add_zero, Int.zero_add, or_true, true_or, or_false, false_or, and_self, z_i2l, z_l2i, lo_nat, lo_add, lo_sub, lo_mul, lo_0, e_rem, hF5.1, mr_X10_crankBack]
    have cB : ∀ j, (j < 5 ∨ (5 ≤ j ∧ j < 14) ∨ (17 ≤ j ∧ j < 28) ∨ (44 ≤ j ∧ j < 52) ∨ (68 ≤ j ∧ j < 84) ∨ 116 ≤ j) → o_b3 C 5 j = B j := fun j hj => by
      unfold o_b3
      rw [if_neg (by omega), hC, if_neg (by omega), if_neg (by omega), if_neg (by omega)]
    have c1 : ∀ j, ¬ (14 ≤ j ∧ j < 17) → o_b3 C 5 j = C j := fun j hj => by unfold o_b3; rw [if_neg (by omega)]
    have u5 : ∀ j, ¬ j = 5 → up (o_b3 C 5) 5 0 j = o_b3 C 5 j := fun j hj => by rw [up_eq, if_neg hj]
    refine hq _ _ (up (o_b3 C 5) 5 0) (m1.spart (v := 0)) (m2.trans ((FO.refl _ _).I hge5.1)) ⟨bk_GR hG, ⟨⟨fun j hj => ?_, fun i hi => ?_⟩, ?_, ?_, ?_, ?_⟩, fun q => ?_, ?_, ?_⟩ ?_ (fun hL => ⟨?_, fun j j1 j2 => ?_⟩)
    · rw [u5 j (by unfold RK at hj; omega)]
      by_cases q1 : 14 ≤ j ∧ j < 17
      · obtain ⟨k, rfl⟩ : ∃ k, j = 14 + k := ⟨j - 14, by omega⟩
        rw [e14 k (by omega)]
        unfold o_b3
        rw [if_pos (by omega), hC, if_neg (by omega), if_neg (by omega), if_neg (by omega), show 1040 + (14 + k - 12) = 1042 + k by omega]
        exact hJX.2.2.2.2 k (by omega)
      · rw [c1 j q1, hC]
        by_cases q2 : 28 ≤ j ∧ j < 44
        · obtain ⟨i, rfl⟩ : ∃ i, j = 28 + i := ⟨j - 28, by omega⟩
          rw [if_pos q2, e28 i (by omega), show 1020 + (28 + i - 28) = 1020 + i by omega]
          exact hJX.2.2.2.1 i (by omega)
        · rw [if_neg q2]
          by_cases q3 : 52 ≤ j ∧ j < 68
          · obtain ⟨i, rfl⟩ : ∃ i, j = 52 + i := ⟨j - 52, by omega⟩
            rw [if_pos (by omega), (k0.2.2 i (by omega)).1]
          · have q84 : ¬ (84 ≤ j ∧ j < 100) := by unfold RK at hj; omega
            rw [if_neg (by omega)]
            by_cases q4 : 100 ≤ j ∧ j < 116
            · obtain ⟨i, rfl⟩ : ∃ i, j = 100 + i := ⟨j - 100, by omega⟩
              rw [e100 i (by omega)]
              by_cases q5 : i < (A 1).toNat
              · rw [if_pos (by omega), show 100 + i - 16 = 84 + i by omega, hR.stp (by omega)]
              · have := (hG.2.1.2.1 i (by omega) (by omega)).2.2.1
                rw [if_neg (by omega), hR.stp (by omega), this, Int.add_zero]
            · rw [if_neg (by omega)]
              by_cases q6 : 12 ≤ j ∧ j < 14
              · rw [hR.1 j hj]
                exact (bk_12 hG h5 j q6).symm
              · rw [ek j (by unfold RK at hj; omega)]; exact hR.1 j hj
    · rw [u5 _ (by omega), c1 _ (by omega), hC, if_neg (by omega), if_pos (by omega), (k0.2.2 i hi).2]; rfl
    · rw [up_eq, if_pos rfl, k0.1]
    · rw [u5 _ (by omega), cB _ (by omega), hT.2.1.2.2.1]
      exact (k_c (ek _ (by omega)) (by omega) (fun j hj => ek _ (by omega))).symm
    · rw [u5 _ (by omega), cB _ (by omega), hT.2.1.2.2.2.1]
      exact (d_c (ek _ (by omega)) (by omega) (fun j hj => ek _ (by omega))).symm
    · rw [u5 _ (by omega), cB _ (by omega), u5 _ (by omega), cB _ (by omega)]; exact hT.2.1.2.2.2.2
    · rw [k0.1] at q; omega
    · have := e14 0 (by omega)
      have h9 : A 9 = 0 := by
        rcases hG.2.2.2 with q | q
        · omega
        · exact q.2.1
      simp only [Nat.add_zero] at this
      have := hT.2.2.2.1
      omega
    · have := e14 0 (by omega)
      have h9 : A 9 = 0 := by
        rcases hG.2.2.2 with q | q
        · omega
        · exact q.2.1
      simp only [Nat.add_zero] at this
      have := hT.2.2.2.2
      omega
    · rw [u5 _ (by omega), cB _ (by omega)]
    · rw [u5 _ (by omega), cB _ (by omega), ek _ (by omega)]; exact hL.1
    · rw [u5 _ (by omega), cB _ (by omega), ek _ (by omega)]; exact hL.2 j j1 j2
  have := z_bk_143 (b := b) (o := o) (w0 := w) (x1 := Int32.ofInt (m_ct A (A 1).toNat)) (v3 := x3) (g := (0, 0, false)) (Q := Q) (B := fun j => if 28 ≤ j ∧ j < 44 then B (1020 + (j - 28)) else if (52 ≤ j ∧ j < 68) ∨ (84 ≤ j ∧ j < 100) then 0 else if 100 ≤ j ∧ j < 100 + (A 1).toNat then B j + A (j - 16) else B j) (fun w5 m1 m2 x2 => main _ (fun j => rfl) w5 m1 m2 x2) 3 2 w4 (by omega) (by omega) (h4.cg ?_) f4
  · exact this
  · funext j
    unfold o_b3
    rw [if_neg (by omega)]
    simp only [olen, oi, o_bs, Nat.reduceEqDiff, ite_true, ite_false, Nat.add_zero, Nat.reduceAdd]
    rcases (show (28 ≤ j ∧ j < 44) ∨ (52 ≤ j ∧ j < 68) ∨ (84 ≤ j ∧ j < 100) ∨ (100 ≤ j ∧ j < 100 + (A 1).toNat) ∨ (¬ (28 ≤ j ∧ j < 44) ∧ ¬ (52 ≤ j ∧ j < 68) ∧ ¬ (84 ≤ j ∧ j < 100) ∧ ¬ (100 ≤ j ∧ j < 100 + (A 1).toNat)) by omega) with q | q | q | q | q
    all_goals simp (disch := omega) only [if_pos, if_neg]
