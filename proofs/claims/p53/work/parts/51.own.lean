/-! quotients -/
theorem z_dh_30 {b o c : Nat} {N0 : Int} {Q : mW → mO → Prop} {t : Nat} (ht : t ≤ 1000) (hc15 : c ≤ 14) : ∀ (n i k : Nat) (P : Nat → Nat) (A B : Row) (d : Nat) (N : Int) (w : mW), i + n = 10 → k + n ≤ 10 → TS A B N → A 5 = 0 → A 8 = 1 → N + n + 1 ≤ N0 → N0 ≤ 1000000000 → d + n + 1 + 11 * c ≤ 165 → OW w b o P B →
  (∀ w' P' B' d', OW w' b o P' B' → FO b w w' → TS (a_dh n A k).1 B' (N + n + 1) → B' 1000 = B 1000 → (LX A B → LX (a_dh n A k).1 B') → d' ≤ d + n + 1 → (0 < (a_dh n A k).1 5 → Q w' (.inl (some (.int (Int32.ofInt ((t + (a_dh n A k).2 : Nat) : Int)))))) ∧ (¬ 0 < (a_dh n A k).1 5 → ∀ x2 x3, RT n_X10_divide 99 [.ref o, .int (Int32.ofInt ((t + (a_dh n A k).2 : Nat) : Int)), x2, x3] [] w' (825 - 5 * d', 9570 - 58 * d', false) Q)) →
  RT n_X10_divide 30 [.ref o, .int (Int32.ofInt ((t + k : Nat) : Int)), .int (Int32.ofInt 0), .int (Int32.ofInt i)] [] w (825 - 5 * d, 9570 - 58 * d, false) Q := by
  intro n
  induction n with
  | zero =>
    intro i k P A B d N w hi hk hT h5 h8 hN hN0 hd hO hq
    refine rt_X10_divide_30 ?_
    simp (disch := omega) only [wp_c, wp_n, jj_n, v_ct, Int.reduceToNat, Int.toNat_natCast, stE, wlE, lgt, lpu, lpw, v_c2, va_s, true_and, and_true, Option.toList, List.nil_append, List.cons_append, List.take, List.drop, List.reverse, List.reverseAux, List.length_cons, List.length_nil, reduceCtorEq, false_implies, true_implies, forall_const, not_true_eq_false, not_false_eq_true, ite_true, ite_false, Bool.false_eq_true, I_I, J_J, Nat.add_left_cancel_iff, Nat.reduceEqDiff, Nat.add_eq_left, Nat.left_eq_add, false_and, and_false, Nat.reduceSub, Nat.sub_self, Nat.le_refl, Nat.zero_le, ge_iff_le, Nat.reduceAdd, Nat.reduceLeDiff, Nat.zero_add, Nat.reduceLT, z_lt, z_le, z_eq, z_l0, z_g0, z_le0, z_ge0, z_e0, z_e1, z_vp, z_nc, z_rem, z_div, i_ltT, i_ltF, i_leT, i_leF, i_eqT, i_eqF, n_ltT, n_ltF, n_leT, n_leF, n_eqT, n_eqF, tn_9, tn_12, tn_14, tn_20, tn_28, tn_44, tn_52, tn_68, tn_84, tn_100, tn_116, tn_132, fu_e, up_eq, ob_0, ob_b, oi_add, oi_sub, oi_mul, oi_neg, Int.add_zero, Int.zero_add, or_true, true_or, or_false, false_or, and_self, z_i2l, z_l2i, lo_nat, lo_add, lo_sub, lo_mul, lo_0, e_rem]
    refine rt_X10_divide_81 ?_
    simp (disch := omega) only [wp_c, wp_n, jj_n, v_ct, Int.reduceToNat, Int.toNat_natCast, stE, wlE, lgt, lpu, lpw, v_c2, va_s, true_and, and_true, Option.toList, List.nil_append, List.cons_append, List.take, List.drop, List.reverse, List.reverseAux, List.length_cons, List.length_nil, reduceCtorEq, false_implies, true_implies, forall_const, not_true_eq_false, not_false_eq_true, ite_true, ite_false, Bool.false_eq_true, I_I, J_J, Nat.add_left_cancel_iff, Nat.reduceEqDiff, Nat.add_eq_left, Nat.left_eq_add, false_and, and_false, Nat.reduceSub, Nat.sub_self, Nat.le_refl, Nat.zero_le, ge_iff_le, Nat.reduceAdd, Nat.reduceLeDiff, Nat.zero_add, Nat.reduceLT, z_lt, z_le, z_eq, z_l0, z_g0, z_le0, z_ge0, z_e0, z_e1, z_vp, z_nc, z_rem, z_div, i_ltT, i_ltF, i_leT, i_leF, i_eqT, i_eqF, n_ltT, n_ltF, n_leT, n_leF, n_eqT, n_eqF, tn_9, tn_12, tn_14, tn_20, tn_28, tn_44, tn_52, tn_68, tn_84, tn_100, tn_116, tn_132, fu_e, up_eq, ob_0, ob_b, oi_add, oi_sub, oi_mul, oi_neg, Int.add_zero, Int.zero_add, or_true, true_or, or_false, false_or, and_self, z_i2l, z_l2i, lo_nat, lo_add, lo_sub, lo_mul, lo_0, e_rem]
    have := (hq w P B d hO (FO.refl _ _) ⟨hT.1, hT.2.1, hT.2.2.1, hT.2.2.2.1, by have := hT.2.2.2.2; simp only [a_dh]; omega⟩ rfl (fun h => h) (by omega)).2
    simp only [a_dh] at this
    exact this (by omega) _ _
  | succ n ih =>
    intro i k P A B d N w hi hk hT h5 h8 hN hN0 hd hO hq
    have hF := hO.F
    have hRI := hT.1.1
    refine rt_X10_divide_30 ?_
    simp (disch := omega) only [wp_c, wp_n, jj_n, v_ct, Int.reduceToNat, Int.toNat_natCast, stE, wlE, lgt, lpu, lpw, v_c2, va_s, true_and, and_true, Option.toList, List.nil_append, List.cons_append, List.take, List.drop, List.reverse, List.reverseAux, List.length_cons, List.length_nil, reduceCtorEq, false_implies, true_implies, forall_const, not_true_eq_false, not_false_eq_true, ite_true, ite_false, Bool.false_eq_true, I_I, J_J, Nat.add_left_cancel_iff, Nat.reduceEqDiff, Nat.add_eq_left, Nat.left_eq_add, false_and, and_false, Nat.reduceSub, Nat.sub_self, Nat.le_refl, Nat.zero_le, ge_iff_le, Nat.reduceAdd, Nat.reduceLeDiff, Nat.zero_add, Nat.reduceLT, z_lt, z_le, z_eq, z_l0, z_g0, z_le0, z_ge0, z_e0, z_e1, z_vp, z_nc, z_rem, z_div, i_ltT, i_ltF, i_leT, i_leF, i_eqT, i_eqF, n_ltT, n_ltF, n_leT, n_leF, n_eqT, n_eqF, tn_9, tn_12, tn_14, tn_20, tn_28, tn_44, tn_52, tn_68, tn_84, tn_100, tn_116, tn_132, fu_e, up_eq, ob_0, ob_b, oi_add, oi_sub, oi_mul, oi_neg, Int.add_zero, Int.zero_add, or_true, true_or, or_false, false_or, and_self, z_i2l, z_l2i, lo_nat, lo_add, lo_sub, lo_mul, lo_0, e_rem, hF.1, mh_X10_divide]
    try refine ⟨by omega, by omega, ?_⟩
    refine z_turn2 (way := -1) (dv := 1) hO hT h8 (Or.inr rfl) (by omega) ?_
    intro w1 P1 B1 m1 m2 m3 m4 m5 m6 m7 m8 m9
    have o5 := one_5 (way := -1) hRI.1 (Or.inr rfl) hRI.2.2.1
    have g1 : 825 - 5 * d - 5 = 825 - 5 * (d + 1) := by omega
    have g2 : 9570 - 58 * d - 58 = 9570 - 58 * (d + 1) := by omega
    rw [a_dh] at hq
    cases ho : (a_one A (-1)).2.1 with
    | some y =>
      rw [ho] at hq o5
      simp only at hq o5
      simp (disch := omega) only [wp_c, wp_n, jj_n, v_ct, Int.reduceToNat, Int.toNat_natCast, stE, wlE, lgt, lpu, lpw, v_c2, va_s, true_and, and_true, Option.toList, List.nil_append, List.cons_append, List.take, List.drop, List.reverse, List.reverseAux, List.length_cons, List.length_nil, reduceCtorEq, false_implies, true_implies, forall_const, not_true_eq_false, not_false_eq_true, ite_true, ite_false, Bool.false_eq_true, I_I, J_J, Nat.add_left_cancel_iff, Nat.reduceEqDiff, Nat.add_eq_left, Nat.left_eq_add, false_and, and_false, Nat.reduceSub, Nat.sub_self, Nat.le_refl, Nat.zero_le, ge_iff_le, Nat.reduceAdd, Nat.reduceLeDiff, Nat.zero_add, Nat.reduceLT, z_lt, z_le, z_eq, z_l0, z_g0, z_le0, z_ge0, z_e0, z_e1, z_vp, z_nc, z_rem, z_div, i_ltT, i_ltF, i_leT, i_leF, i_eqT, i_eqF, n_ltT, n_ltF, n_leT, n_leF, n_eqT, n_eqF, tn_9, tn_12, tn_14, tn_20, tn_28, tn_44, tn_52, tn_68, tn_84, tn_100, tn_116, tn_132, fu_e, up_eq, ob_0, ob_b, oi_add, oi_sub, oi_mul, oi_neg, Int.add_zero, Int.zero_add, or_true, true_or, or_false, false_or, and_self, z_i2l, z_l2i, lo_nat, lo_add, lo_sub, lo_mul, lo_0, e_rem, g1, g2, mr_X10_divide]
      exact (hq w1 P1 B1 (d + 1) m1 m2 ⟨m3.1, m3.2.1, m3.2.2.1, m3.2.2.2.1, by have := m3.2.2.2.2; omega⟩ m5 m9 (by omega)).1 o5
    | none =>
      rw [ho] at hq o5
      simp only at hq o5
      have h9 := m3.1.2.2.1
      have hV1 := m1.V
      have hF1 := m1.F
      have e14 : w_I w1 (P1 21) 2 = Int32.ofInt (a_fin (a_one A (-1)) 14) := by
        have := hV1.2.2.2.2.2.2.2.2.1 2 (by omega)
        rw [this, m3.2.1.1.cts (j := 2) (by omega)]
      have e1042 : w_I w1 (P1 23) 2 = Int32.ofInt (a_fin (a_one A (-1)) 14 - a_fin (a_one A (-1)) 9) := by
        have := hV1.2.2.2.2.2.2.2.2.2.2 2 (by omega)
        rw [this, m4]
      have hb14 := m3.2.2.2
      simp (disch := omega) only [wp_c, wp_n, jj_n, v_ct, Int.reduceToNat, Int.toNat_natCast, stE, wlE, lgt, lpu, lpw, v_c2, va_s, true_and, and_true, Option.toList, List.nil_append, List.cons_append, List.take, List.drop, List.reverse, List.reverseAux, List.length_cons, List.length_nil, reduceCtorEq, false_implies, true_implies, forall_const, not_true_eq_false, not_false_eq_true, ite_true, ite_false, Bool.false_eq_true, I_I, J_J, Nat.add_left_cancel_iff, Nat.reduceEqDiff, Nat.add_eq_left, Nat.left_eq_add, false_and, and_false, Nat.reduceSub, Nat.sub_self, Nat.le_refl, Nat.zero_le, ge_iff_le, Nat.reduceAdd, Nat.reduceLeDiff, Nat.zero_add, Nat.reduceLT, z_lt, z_le, z_eq, z_l0, z_g0, z_le0, z_ge0, z_e0, z_e1, z_vp, z_nc, z_rem, z_div, i_ltT, i_ltF, i_leT, i_leF, i_eqT, i_eqF, n_ltT, n_ltF, n_leT, n_leF, n_eqT, n_eqF, tn_9, tn_12, tn_14, tn_20, tn_28, tn_44, tn_52, tn_68, tn_84, tn_100, tn_116, tn_132, fu_e, up_eq, ob_0, ob_b, oi_add, oi_sub, oi_mul, oi_neg, Int.add_zero, Int.zero_add, or_true, true_or, or_false, false_or, and_self, z_i2l, z_l2i, lo_nat, lo_add, lo_sub, lo_mul, lo_0, e_rem, g1, g2]
      refine rt_X10_divide_51 ?_
      have hc1 : (((t + k : Nat) : Int) + 1) = ((t + (k + 1) : Nat) : Int) := by omega
      simp (disch := omega) only [wp_c, wp_n, jj_n, v_ct, Int.reduceToNat, Int.toNat_natCast, stE, wlE, lgt, lpu, lpw, v_c2, va_s, true_and, and_true, Option.toList, List.nil_append, List.cons_append, List.take, List.drop, List.reverse, List.reverseAux, List.length_cons, List.length_nil, reduceCtorEq, false_implies, true_implies, forall_const, not_true_eq_false, not_false_eq_true, ite_true, ite_false, Bool.false_eq_true, I_I, J_J, Nat.add_left_cancel_iff, Nat.reduceEqDiff, Nat.add_eq_left, Nat.left_eq_add, false_and, and_false, Nat.reduceSub, Nat.sub_self, Nat.le_refl, Nat.zero_le, ge_iff_le, Nat.reduceAdd, Nat.reduceLeDiff, Nat.zero_add, Nat.reduceLT, z_lt, z_le, z_eq, z_l0, z_g0, z_le0, z_ge0, z_e0, z_e1, z_vp, z_nc, z_rem, z_div, i_ltT, i_ltF, i_leT, i_leF, i_eqT, i_eqF, n_ltT, n_ltF, n_leT, n_leF, n_eqT, n_eqF, tn_9, tn_12, tn_14, tn_20, tn_28, tn_44, tn_52, tn_68, tn_84, tn_100, tn_116, tn_132, fu_e, up_eq, ob_0, ob_b, oi_add, oi_sub, oi_mul, oi_neg, Int.add_zero, Int.zero_add, or_true, true_or, or_false, false_or, and_self, z_i2l, z_l2i, lo_nat, lo_add, lo_sub, lo_mul, lo_0, e_rem, hF1, e14, e1042, hc1]
      by_cases h0 : 0 < a_fin (a_one A (-1)) 9
      · have h91 : a_fin (a_one A (-1)) 9 = 1 := by omega
        rw [if_pos h0] at hq
        simp (disch := omega) only [wp_c, wp_n, jj_n, v_ct, Int.reduceToNat, Int.toNat_natCast, stE, wlE, lgt, lpu, lpw, v_c2, va_s, true_and, and_true, Option.toList, List.nil_append, List.cons_append, List.take, List.drop, List.reverse, List.reverseAux, List.length_cons, List.length_nil, reduceCtorEq, false_implies, true_implies, forall_const, not_true_eq_false, not_false_eq_true, ite_true, ite_false, Bool.false_eq_true, I_I, J_J, Nat.add_left_cancel_iff, Nat.reduceEqDiff, Nat.add_eq_left, Nat.left_eq_add, false_and, and_false, Nat.reduceSub, Nat.sub_self, Nat.le_refl, Nat.zero_le, ge_iff_le, Nat.reduceAdd, Nat.reduceLeDiff, Nat.zero_add, Nat.reduceLT, z_lt, z_le, z_eq, z_l0, z_g0, z_le0, z_ge0, z_e0, z_e1, z_vp, z_nc, z_rem, z_div, i_ltT, i_ltF, i_leT, i_leF, i_eqT, i_eqF, n_ltT, n_ltF, n_leT, n_leF, n_eqT, n_eqF, tn_9, tn_12, tn_14, tn_20, tn_28, tn_44, tn_52, tn_68, tn_84, tn_100, tn_116, tn_132, fu_e, up_eq, ob_0, ob_b, oi_add, oi_sub, oi_mul, oi_neg, Int.add_zero, Int.zero_add, or_true, true_or, or_false, false_or, and_self, z_i2l, z_l2i, lo_nat, lo_add, lo_sub, lo_mul, lo_0, e_rem, h91]
        refine rt_X10_divide_74 ?_
        simp (disch := omega) only [wp_c, wp_n, jj_n, v_ct, Int.reduceToNat, Int.toNat_natCast, stE, wlE, lgt, lpu, lpw, v_c2, va_s, true_and, and_true, Option.toList, List.nil_append, List.cons_append, List.take, List.drop, List.reverse, List.reverseAux, List.length_cons, List.length_nil, reduceCtorEq, false_implies, true_implies, forall_const, not_true_eq_false, not_false_eq_true, ite_true, ite_false, Bool.false_eq_true, I_I, J_J, Nat.add_left_cancel_iff, Nat.reduceEqDiff, Nat.add_eq_left, Nat.left_eq_add, false_and, and_false, Nat.reduceSub, Nat.sub_self, Nat.le_refl, Nat.zero_le, ge_iff_le, Nat.reduceAdd, Nat.reduceLeDiff, Nat.zero_add, Nat.reduceLT, z_lt, z_le, z_eq, z_l0, z_g0, z_le0, z_ge0, z_e0, z_e1, z_vp, z_nc, z_rem, z_div, i_ltT, i_ltF, i_leT, i_leF, i_eqT, i_eqF, n_ltT, n_ltF, n_leT, n_leF, n_eqT, n_eqF, tn_9, tn_12, tn_14, tn_20, tn_28, tn_44, tn_52, tn_68, tn_84, tn_100, tn_116, tn_132, fu_e, up_eq, ob_0, ob_b, oi_add, oi_sub, oi_mul, oi_neg, Int.add_zero, Int.zero_add, or_true, true_or, or_false, false_or, and_self, z_i2l, z_l2i, lo_nat, lo_add, lo_sub, lo_mul, lo_0, e_rem]
        have h81 : RT n_X10_divide 81 [.ref o, .int (Int32.ofInt ((t + (k + 1) : Nat) : Int)), .int (Int32.ofInt 1), .int (Int32.ofInt ((i : Int) + 1))] [] w1 (825 - 5 * (d + 1), 9570 - 58 * (d + 1), false) Q := by
          refine rt_X10_divide_81 ?_
          simp (disch := omega) only [wp_c, wp_n, jj_n, v_ct, Int.reduceToNat, Int.toNat_natCast, stE, wlE, lgt, lpu, lpw, v_c2, va_s, true_and, and_true, Option.toList, List.nil_append, List.cons_append, List.take, List.drop, List.reverse, List.reverseAux, List.length_cons, List.length_nil, reduceCtorEq, false_implies, true_implies, forall_const, not_true_eq_false, not_false_eq_true, ite_true, ite_false, Bool.false_eq_true, I_I, J_J, Nat.add_left_cancel_iff, Nat.reduceEqDiff, Nat.add_eq_left, Nat.left_eq_add, false_and, and_false, Nat.reduceSub, Nat.sub_self, Nat.le_refl, Nat.zero_le, ge_iff_le, Nat.reduceAdd, Nat.reduceLeDiff, Nat.zero_add, Nat.reduceLT, z_lt, z_le, z_eq, z_l0, z_g0, z_le0, z_ge0, z_e0, z_e1, z_vp, z_nc, z_rem, z_div, i_ltT, i_ltF, i_leT, i_leF, i_eqT, i_eqF, n_ltT, n_ltF, n_leT, n_leF, n_eqT, n_eqF, tn_9, tn_12, tn_14, tn_20, tn_28, tn_44, tn_52, tn_68, tn_84, tn_100, tn_116, tn_132, fu_e, up_eq, ob_0, ob_b, oi_add, oi_sub, oi_mul, oi_neg, Int.add_zero, Int.zero_add, or_true, true_or, or_false, false_or, and_self, z_i2l, z_l2i, lo_nat, lo_add, lo_sub, lo_mul, lo_0, e_rem, hF1.1, mh_X10_divide]
          try refine ⟨by omega, by omega, ?_⟩
          refine z_turn2 (way := 1) (dv := 1) m1 m3 (m6.trans h8) (Or.inl rfl) (by omega) ?_
          intro w2 P2 B2 k1 k2 k3 k4 k5 k6 k7 k8 k9
          have hRI2 := m3.1.1
          have o52 := one_5 (way := 1) hRI2.1 (Or.inl rfl) hRI2.2.2.1
          have g3 : 825 - 5 * (d + 1) - 5 = 825 - 5 * (d + 2) := by omega
          have g4 : 9570 - 58 * (d + 1) - 58 = 9570 - 58 * (d + 2) := by omega
          cases ho2 : (a_one (a_fin (a_one A (-1))) 1).2.1 with
          | some y =>
            rw [ho2] at hq o52
            simp only at hq o52
            simp (disch := omega) only [wp_c, wp_n, jj_n, v_ct, Int.reduceToNat, Int.toNat_natCast, stE, wlE, lgt, lpu, lpw, v_c2, va_s, true_and, and_true, Option.toList, List.nil_append, List.cons_append, List.take, List.drop, List.reverse, List.reverseAux, List.length_cons, List.length_nil, reduceCtorEq, false_implies, true_implies, forall_const, not_true_eq_false, not_false_eq_true, ite_true, ite_false, Bool.false_eq_true, I_I, J_J, Nat.add_left_cancel_iff, Nat.reduceEqDiff, Nat.add_eq_left, Nat.left_eq_add, false_and, and_false, Nat.reduceSub, Nat.sub_self, Nat.le_refl, Nat.zero_le, ge_iff_le, Nat.reduceAdd, Nat.reduceLeDiff, Nat.zero_add, Nat.reduceLT, z_lt, z_le, z_eq, z_l0, z_g0, z_le0, z_ge0, z_e0, z_e1, z_vp, z_nc, z_rem, z_div, i_ltT, i_ltF, i_leT, i_leF, i_eqT, i_eqF, n_ltT, n_ltF, n_leT, n_leF, n_eqT, n_eqF, tn_9, tn_12, tn_14, tn_20, tn_28, tn_44, tn_52, tn_68, tn_84, tn_100, tn_116, tn_132, fu_e, up_eq, ob_0, ob_b, oi_add, oi_sub, oi_mul, oi_neg, Int.add_zero, Int.zero_add, or_true, true_or, or_false, false_or, and_self, z_i2l, z_l2i, lo_nat, lo_add, lo_sub, lo_mul, lo_0, e_rem, g3, g4, mr_X10_divide]
            exact (hq w2 P2 B2 (d + 2) k1 (m2.trans k2) ⟨k3.1, k3.2.1, k3.2.2.1, k3.2.2.2.1, by have := k3.2.2.2.2; omega⟩ (k5.trans m5) (fun h => k9 (m9 h)) (by omega)).1 o52
          | none =>
            rw [ho2] at hq o52
            simp only at hq o52
            simp (disch := omega) only [wp_c, wp_n, jj_n, v_ct, Int.reduceToNat, Int.toNat_natCast, stE, wlE, lgt, lpu, lpw, v_c2, va_s, true_and, and_true, Option.toList, List.nil_append, List.cons_append, List.take, List.drop, List.reverse, List.reverseAux, List.length_cons, List.length_nil, reduceCtorEq, false_implies, true_implies, forall_const, not_true_eq_false, not_false_eq_true, ite_true, ite_false, Bool.false_eq_true, I_I, J_J, Nat.add_left_cancel_iff, Nat.reduceEqDiff, Nat.add_eq_left, Nat.left_eq_add, false_and, and_false, Nat.reduceSub, Nat.sub_self, Nat.le_refl, Nat.zero_le, ge_iff_le, Nat.reduceAdd, Nat.reduceLeDiff, Nat.zero_add, Nat.reduceLT, z_lt, z_le, z_eq, z_l0, z_g0, z_le0, z_ge0, z_e0, z_e1, z_vp, z_nc, z_rem, z_div, i_ltT, i_ltF, i_leT, i_leF, i_eqT, i_eqF, n_ltT, n_ltF, n_leT, n_leF, n_eqT, n_eqF, tn_9, tn_12, tn_14, tn_20, tn_28, tn_44, tn_52, tn_68, tn_84, tn_100, tn_116, tn_132, fu_e, up_eq, ob_0, ob_b, oi_add, oi_sub, oi_mul, oi_neg, Int.add_zero, Int.zero_add, or_true, true_or, or_false, false_or, and_self, z_i2l, z_l2i, lo_nat, lo_add, lo_sub, lo_mul, lo_0, e_rem, g3, g4]
            refine rt_X10_divide_96 ?_
            have hc2 : (((t + (k + 1) : Nat) : Int) + 1) = ((t + (k + 2) : Nat) : Int) := by omega
            simp (disch := omega) only [wp_c, wp_n, jj_n, v_ct, Int.reduceToNat, Int.toNat_natCast, stE, wlE, lgt, lpu, lpw, v_c2, va_s, true_and, and_true, Option.toList, List.nil_append, List.cons_append, List.take, List.drop, List.reverse, List.reverseAux, List.length_cons, List.length_nil, reduceCtorEq, false_implies, true_implies, forall_const, not_true_eq_false, not_false_eq_true, ite_true, ite_false, Bool.false_eq_true, I_I, J_J, Nat.add_left_cancel_iff, Nat.reduceEqDiff, Nat.add_eq_left, Nat.left_eq_add, false_and, and_false, Nat.reduceSub, Nat.sub_self, Nat.le_refl, Nat.zero_le, ge_iff_le, Nat.reduceAdd, Nat.reduceLeDiff, Nat.zero_add, Nat.reduceLT, z_lt, z_le, z_eq, z_l0, z_g0, z_le0, z_ge0, z_e0, z_e1, z_vp, z_nc, z_rem, z_div, i_ltT, i_ltF, i_leT, i_leF, i_eqT, i_eqF, n_ltT, n_ltF, n_leT, n_leF, n_eqT, n_eqF, tn_9, tn_12, tn_14, tn_20, tn_28, tn_44, tn_52, tn_68, tn_84, tn_100, tn_116, tn_132, fu_e, up_eq, ob_0, ob_b, oi_add, oi_sub, oi_mul, oi_neg, Int.add_zero, Int.zero_add, or_true, true_or, or_false, false_or, and_self, z_i2l, z_l2i, lo_nat, lo_add, lo_sub, lo_mul, lo_0, e_rem, hc2]
            exact (hq w2 P2 B2 (d + 2) k1 (m2.trans k2) ⟨k3.1, k3.2.1, k3.2.2.1, k3.2.2.2.1, by have := k3.2.2.2.2; omega⟩ (k5.trans m5) (fun h => k9 (m9 h)) (by omega)).2 (by omega) _ _
        refine rt_X10_divide_30 ?_
        by_cases hi9 : i = 9
        · subst hi9
          simp (disch := omega) only [wp_c, wp_n, jj_n, v_ct, Int.reduceToNat, Int.toNat_natCast, stE, wlE, lgt, lpu, lpw, v_c2, va_s, true_and, and_true, Option.toList, List.nil_append, List.cons_append, List.take, List.drop, List.reverse, List.reverseAux, List.length_cons, List.length_nil, reduceCtorEq, false_implies, true_implies, forall_const, not_true_eq_false, not_false_eq_true, ite_true, ite_false, Bool.false_eq_true, I_I, J_J, Nat.add_left_cancel_iff, Nat.reduceEqDiff, Nat.add_eq_left, Nat.left_eq_add, false_and, and_false, Nat.reduceSub, Nat.sub_self, Nat.le_refl, Nat.zero_le, ge_iff_le, Nat.reduceAdd, Nat.reduceLeDiff, Nat.zero_add, Nat.reduceLT, z_lt, z_le, z_eq, z_l0, z_g0, z_le0, z_ge0, z_e0, z_e1, z_vp, z_nc, z_rem, z_div, i_ltT, i_ltF, i_leT, i_leF, i_eqT, i_eqF, n_ltT, n_ltF, n_leT, n_leF, n_eqT, n_eqF, tn_9, tn_12, tn_14, tn_20, tn_28, tn_44, tn_52, tn_68, tn_84, tn_100, tn_116, tn_132, fu_e, up_eq, ob_0, ob_b, oi_add, oi_sub, oi_mul, oi_neg, Int.add_zero, Int.zero_add, or_true, true_or, or_false, false_or, and_self, z_i2l, z_l2i, lo_nat, lo_add, lo_sub, lo_mul, lo_0, e_rem]
          simpa using h81
        · simp (disch := omega) only [wp_c, wp_n, jj_n, v_ct, Int.reduceToNat, Int.toNat_natCast, stE, wlE, lgt, lpu, lpw, v_c2, va_s, true_and, and_true, Option.toList, List.nil_append, List.cons_append, List.take, List.drop, List.reverse, List.reverseAux, List.length_cons, List.length_nil, reduceCtorEq, false_implies, true_implies, forall_const, not_true_eq_false, not_false_eq_true, ite_true, ite_false, Bool.false_eq_true, I_I, J_J, Nat.add_left_cancel_iff, Nat.reduceEqDiff, Nat.add_eq_left, Nat.left_eq_add, false_and, and_false, Nat.reduceSub, Nat.sub_self, Nat.le_refl, Nat.zero_le, ge_iff_le, Nat.reduceAdd, Nat.reduceLeDiff, Nat.zero_add, Nat.reduceLT, z_lt, z_le, z_eq, z_l0, z_g0, z_le0, z_ge0, z_e0, z_e1, z_vp, z_nc, z_rem, z_div, i_ltT, i_ltF, i_leT, i_leF, i_eqT, i_eqF, n_ltT, n_ltF, n_leT, n_leF, n_eqT, n_eqF, tn_9, tn_12, tn_14, tn_20, tn_28, tn_44, tn_52, tn_68, tn_84, tn_100, tn_116, tn_132, fu_e, up_eq, ob_0, ob_b, oi_add, oi_sub, oi_mul, oi_neg, Int.add_zero, Int.zero_add, or_true, true_or, or_false, false_or, and_self, z_i2l, z_l2i, lo_nat, lo_add, lo_sub, lo_mul, lo_0, e_rem]
          exact h81
      · have h90 : a_fin (a_one A (-1)) 9 = 0 := by omega
        rw [if_neg h0] at hq
        simp (disch := omega) only [wp_c, wp_n, jj_n, v_ct, Int.reduceToNat, Int.toNat_natCast, stE, wlE, lgt, lpu, lpw, v_c2, va_s, true_and, and_true, Option.toList, List.nil_append, List.cons_append, List.take, List.drop, List.reverse, List.reverseAux, List.length_cons, List.length_nil, reduceCtorEq, false_implies, true_implies, forall_const, not_true_eq_false, not_false_eq_true, ite_true, ite_false, Bool.false_eq_true, I_I, J_J, Nat.add_left_cancel_iff, Nat.reduceEqDiff, Nat.add_eq_left, Nat.left_eq_add, false_and, and_false, Nat.reduceSub, Nat.sub_self, Nat.le_refl, Nat.zero_le, ge_iff_le, Nat.reduceAdd, Nat.reduceLeDiff, Nat.zero_add, Nat.reduceLT, z_lt, z_le, z_eq, z_l0, z_g0, z_le0, z_ge0, z_e0, z_e1, z_vp, z_nc, z_rem, z_div, i_ltT, i_ltF, i_leT, i_leF, i_eqT, i_eqF, n_ltT, n_ltF, n_leT, n_leF, n_eqT, n_eqF, tn_9, tn_12, tn_14, tn_20, tn_28, tn_44, tn_52, tn_68, tn_84, tn_100, tn_116, tn_132, fu_e, up_eq, ob_0, ob_b, oi_add, oi_sub, oi_mul, oi_neg, Int.add_zero, Int.zero_add, or_true, true_or, or_false, false_or, and_self, z_i2l, z_l2i, lo_nat, lo_add, lo_sub, lo_mul, lo_0, e_rem, h90]
        refine rt_X10_divide_73 ?_
        simp (disch := omega) only [wp_c, wp_n, jj_n, v_ct, Int.reduceToNat, Int.toNat_natCast, stE, wlE, lgt, lpu, lpw, v_c2, va_s, true_and, and_true, Option.toList, List.nil_append, List.cons_append, List.take, List.drop, List.reverse, List.reverseAux, List.length_cons, List.length_nil, reduceCtorEq, false_implies, true_implies, forall_const, not_true_eq_false, not_false_eq_true, ite_true, ite_false, Bool.false_eq_true, I_I, J_J, Nat.add_left_cancel_iff, Nat.reduceEqDiff, Nat.add_eq_left, Nat.left_eq_add, false_and, and_false, Nat.reduceSub, Nat.sub_self, Nat.le_refl, Nat.zero_le, ge_iff_le, Nat.reduceAdd, Nat.reduceLeDiff, Nat.zero_add, Nat.reduceLT, z_lt, z_le, z_eq, z_l0, z_g0, z_le0, z_ge0, z_e0, z_e1, z_vp, z_nc, z_rem, z_div, i_ltT, i_ltF, i_leT, i_leF, i_eqT, i_eqF, n_ltT, n_ltF, n_leT, n_leF, n_eqT, n_eqF, tn_9, tn_12, tn_14, tn_20, tn_28, tn_44, tn_52, tn_68, tn_84, tn_100, tn_116, tn_132, fu_e, up_eq, ob_0, ob_b, oi_add, oi_sub, oi_mul, oi_neg, Int.add_zero, Int.zero_add, or_true, true_or, or_false, false_or, and_self, z_i2l, z_l2i, lo_nat, lo_add, lo_sub, lo_mul, lo_0, e_rem]
        refine rt_X10_divide_74 ?_
        simp (disch := omega) only [wp_c, wp_n, jj_n, v_ct, Int.reduceToNat, Int.toNat_natCast, stE, wlE, lgt, lpu, lpw, v_c2, va_s, true_and, and_true, Option.toList, List.nil_append, List.cons_append, List.take, List.drop, List.reverse, List.reverseAux, List.length_cons, List.length_nil, reduceCtorEq, false_implies, true_implies, forall_const, not_true_eq_false, not_false_eq_true, ite_true, ite_false, Bool.false_eq_true, I_I, J_J, Nat.add_left_cancel_iff, Nat.reduceEqDiff, Nat.add_eq_left, Nat.left_eq_add, false_and, and_false, Nat.reduceSub, Nat.sub_self, Nat.le_refl, Nat.zero_le, ge_iff_le, Nat.reduceAdd, Nat.reduceLeDiff, Nat.zero_add, Nat.reduceLT, z_lt, z_le, z_eq, z_l0, z_g0, z_le0, z_ge0, z_e0, z_e1, z_vp, z_nc, z_rem, z_div, i_ltT, i_ltF, i_leT, i_leF, i_eqT, i_eqF, n_ltT, n_ltF, n_leT, n_leF, n_eqT, n_eqF, tn_9, tn_12, tn_14, tn_20, tn_28, tn_44, tn_52, tn_68, tn_84, tn_100, tn_116, tn_132, fu_e, up_eq, ob_0, ob_b, oi_add, oi_sub, oi_mul, oi_neg, Int.add_zero, Int.zero_add, or_true, true_or, or_false, false_or, and_self, z_i2l, z_l2i, lo_nat, lo_add, lo_sub, lo_mul, lo_0, e_rem]
        have := ih (i + 1) (k + 1) P1 (a_fin (a_one A (-1))) B1 (d + 1) (N + 1) w1 (by omega) (by omega) m3 o5 (m6.trans h8) (by omega) hN0 (by omega) m1 ?_
        · exact this
        · intro w2 P2 B2 d2 q1 q2 q3 q4 q5 q6
          exact hq w2 P2 B2 d2 q1 (m2.trans q2) (by rw [show N + ((n + 1 : Nat) : Int) + 1 = N + 1 + n + 1 by omega]; exact q3) (q4.trans m5) (fun h => q5 (m9 h)) (by omega)
theorem dh_2 : ∀ (n : Nat) (A : Row) (k : Nat), (a_dh n A k).2 ≤ k + n + 1 := by
  intro n
  induction n with
  | zero => intro A k; simp only [a_dh]; omega
  | succ n ih =>
    intro A k
    rw [a_dh]
    split
    · simp only; omega
    · split
      · split <;> simp only <;> omega
      · have := ih (a_fin (a_one A (-1))) (k + 1); omega
theorem z_dv_26 {b o : Nat} {N0 : Int} {Q : mW → mO → Prop} (hN0 : N0 ≤ 1000000000) : ∀ (c : Nat) (P : Nat → Nat) (A B : Row) (t d : Nat) (N : Int) (w : mW) (v2 v3 : Value), c ≤ 14 → t + 11 * c ≤ 900 → TS (up A 4 (c : Int)) B N → A 5 = 0 → A 8 = 1 → (c : Int) + A 0 ≤ A 1 → N + 11 * (c + 1) ≤ N0 → d + 11 * (c + 1) ≤ 165 → OW w b o P B →
  (∀ w' P' B', OW w' b o P' B' → FO b w w' → TS (a_dv (c + 1) A t).1 B' (N + 11 * (c + 1)) → B' 1000 = B 1000 → (LX (up A 4 (c : Int)) B → LX (a_dv (c + 1) A t).1 B') → Q w' (.inl (some (.int (Int32.ofInt (a_dv (c + 1) A t).2))))) →
  RT n_X10_divide 26 [.ref o, .int (Int32.ofInt t), v2, v3] [] w (825 - 5 * d, 9570 - 58 * d, false) Q := by
  intro c
  induction c with
  | zero =>
    intro P A B t d N w v2 v3 hc ht hT h5 h8 hca hN hd hO hq
    have u : ∀ j, ¬ j = 4 → up A 4 ((0 : Nat) : Int) j = A j := fun j hj => by rw [up_eq, if_neg hj]
    refine rt_X10_divide_26 ?_
    simp (disch := omega) only [wp_c, wp_n, jj_n, v_ct, Int.reduceToNat, Int.toNat_natCast, stE, wlE, lgt, lpu, lpw, v_c2, va_s, true_and, and_true, Option.toList, List.nil_append, List.cons_append, List.take, List.drop, List.reverse, List.reverseAux, List.length_cons, List.length_nil, reduceCtorEq, false_implies, true_implies, forall_const, not_true_eq_false, not_false_eq_true, ite_true, ite_false, Bool.false_eq_true, I_I, J_J, Nat.add_left_cancel_iff, Nat.reduceEqDiff, Nat.add_eq_left, Nat.left_eq_add, false_and, and_false, Nat.reduceSub, Nat.sub_self, Nat.le_refl, Nat.zero_le, ge_iff_le, Nat.reduceAdd, Nat.reduceLeDiff, Nat.zero_add, Nat.reduceLT, z_lt, z_le, z_eq, z_l0, z_g0, z_le0, z_ge0, z_e0, z_e1, z_vp, z_nc, z_rem, z_div, i_ltT, i_ltF, i_leT, i_leF, i_eqT, i_eqF, n_ltT, n_ltF, n_leT, n_leF, n_eqT, n_eqF, tn_9, tn_12, tn_14, tn_20, tn_28, tn_44, tn_52, tn_68, tn_84, tn_100, tn_116, tn_132, fu_e, up_eq, ob_0, ob_b, oi_add, oi_sub, oi_mul, oi_neg, Int.add_zero, Int.zero_add, or_true, true_or, or_false, false_or, and_self, z_i2l, z_l2i, lo_nat, lo_add, lo_sub, lo_mul, lo_0, e_rem]
    have := z_dh_30 (b := b) (o := o) (c := 0) (N0 := N0) (Q := Q) (t := t) (by omega) (by omega) 10 0 0 P (up A 4 ((0 : Nat) : Int)) B d N w (by omega) (by omega) hT (by rw [u _ (by omega)]; exact h5) (by rw [u _ (by omega)]; exact h8) (by omega) hN0 (by omega) hO ?_
    · exact this
    · intro w1 P1 B1 d1 m1 m2 m3 m4 m5 m6
      have h4 := (dh_RI 10 (up A 4 ((0 : Nat) : Int)) 0 hT.1.1 (by rw [u _ (by omega)]; omega) (by rw [u _ (by omega)]; omega)).2.1 4 (by omega)
      rw [up_eq, if_pos rfl] at h4
      rw [a_dv] at hq
      have hx := dh_2 10 (up A 4 ((0 : Nat) : Int)) 0
      by_cases hj : 0 < (a_dh 10 (up A 4 ((0 : Nat) : Int)) 0).1 5
      · rw [if_pos hj] at hq
        refine ⟨fun _ => hq w1 P1 B1 m1 m2 ⟨m3.1, m3.2.1, m3.2.2.1, m3.2.2.2.1, by have := m3.2.2.2.2; simp only; omega⟩ m4 m5, fun q => absurd hj q⟩
      · rw [if_neg hj] at hq
        refine ⟨fun q => absurd q hj, fun _ x2 x3 => ?_⟩
        have hV1 := m1.V
        have hF1 := m1.F
        have b4 : B1 4 = 0 := by rw [m3.2.1.1.sz.2.2.2.2, h4]; rfl
        refine rt_X10_divide_99 ?_
        simp (disch := omega) only [wp_c, wp_n, jj_n, v_ct, Int.reduceToNat, Int.toNat_natCast, stE, wlE, lgt, lpu, lpw, v_c2, va_s, true_and, and_true, Option.toList, List.nil_append, List.cons_append, List.take, List.drop, List.reverse, List.reverseAux, List.length_cons, List.length_nil, reduceCtorEq, false_implies, true_implies, forall_const, not_true_eq_false, not_false_eq_true, ite_true, ite_false, Bool.false_eq_true, I_I, J_J, Nat.add_left_cancel_iff, Nat.reduceEqDiff, Nat.add_eq_left, Nat.left_eq_add, false_and, and_false, Nat.reduceSub, Nat.sub_self, Nat.le_refl, Nat.zero_le, ge_iff_le, Nat.reduceAdd, Nat.reduceLeDiff, Nat.zero_add, Nat.reduceLT, z_lt, z_le, z_eq, z_l0, z_g0, z_le0, z_ge0, z_e0, z_e1, z_vp, z_nc, z_rem, z_div, i_ltT, i_ltF, i_leT, i_leF, i_eqT, i_eqF, n_ltT, n_ltF, n_leT, n_leF, n_eqT, n_eqF, tn_9, tn_12, tn_14, tn_20, tn_28, tn_44, tn_52, tn_68, tn_84, tn_100, tn_116, tn_132, fu_e, up_eq, ob_0, ob_b, oi_add, oi_sub, oi_mul, oi_neg, Int.add_zero, Int.zero_add, or_true, true_or, or_false, false_or, and_self, z_i2l, z_l2i, lo_nat, lo_add, lo_sub, lo_mul, lo_0, e_rem, hF1.1, hV1.1, b4, mr_X10_divide]
        have := hq w1 P1 B1 m1 m2 (by simp only [a_dv]; exact ⟨m3.1, m3.2.1, m3.2.2.1, m3.2.2.2.1, by have := m3.2.2.2.2; omega⟩) m4 (by simp only [a_dv]; exact m5)
        simpa only [a_dv] using this
  | succ c ih =>
    intro P A B t d N w v2 v3 hc ht hT h5 h8 hca hN hd hO hq
    have u : ∀ j, ¬ j = 4 → up A 4 ((c + 1 : Nat) : Int) j = A j := fun j hj => by rw [up_eq, if_neg hj]
    refine rt_X10_divide_26 ?_
    simp (disch := omega) only [wp_c, wp_n, jj_n, v_ct, Int.reduceToNat, Int.toNat_natCast, stE, wlE, lgt, lpu, lpw, v_c2, va_s, true_and, and_true, Option.toList, List.nil_append, List.cons_append, List.take, List.drop, List.reverse, List.reverseAux, List.length_cons, List.length_nil, reduceCtorEq, false_implies, true_implies, forall_const, not_true_eq_false, not_false_eq_true, ite_true, ite_false, Bool.false_eq_true, I_I, J_J, Nat.add_left_cancel_iff, Nat.reduceEqDiff, Nat.add_eq_left, Nat.left_eq_add, false_and, and_false, Nat.reduceSub, Nat.sub_self, Nat.le_refl, Nat.zero_le, ge_iff_le, Nat.reduceAdd, Nat.reduceLeDiff, Nat.zero_add, Nat.reduceLT, z_lt, z_le, z_eq, z_l0, z_g0, z_le0, z_ge0, z_e0, z_e1, z_vp, z_nc, z_rem, z_div, i_ltT, i_ltF, i_leT, i_leF, i_eqT, i_eqF, n_ltT, n_ltF, n_leT, n_leF, n_eqT, n_eqF, tn_9, tn_12, tn_14, tn_20, tn_28, tn_44, tn_52, tn_68, tn_84, tn_100, tn_116, tn_132, fu_e, up_eq, ob_0, ob_b, oi_add, oi_sub, oi_mul, oi_neg, Int.add_zero, Int.zero_add, or_true, true_or, or_false, false_or, and_self, z_i2l, z_l2i, lo_nat, lo_add, lo_sub, lo_mul, lo_0, e_rem]
    have := z_dh_30 (b := b) (o := o) (c := c + 1) (N0 := N0) (Q := Q) (t := t) (by omega) (by omega) 10 0 0 P (up A 4 ((c + 1 : Nat) : Int)) B d N w (by omega) (by omega) hT (by rw [u _ (by omega)]; exact h5) (by rw [u _ (by omega)]; exact h8) (by omega) hN0 (by omega) hO ?_
    · exact this
    · intro w1 P1 B1 d1 m1 m2 m3 m4 m5 m6
      obtain ⟨-, k4, k5, k8⟩ := dh_RI 10 (up A 4 ((c + 1 : Nat) : Int)) 0 hT.1.1 (by rw [u _ (by omega)]; omega) (by rw [u _ (by omega)]; omega)
      have h4 := k4 4 (by omega)
      have h40 := k4 0 (by omega)
      have h41 := k4 1 (by omega)
      rw [up_eq, if_pos rfl] at h4
      rw [u _ (by omega)] at h40 h41 k8
      rw [a_dv] at hq
      have hx := dh_2 10 (up A 4 ((c + 1 : Nat) : Int)) 0
      by_cases hj : 0 < (a_dh 10 (up A 4 ((c + 1 : Nat) : Int)) 0).1 5
      · rw [if_pos hj] at hq
        refine ⟨fun _ => hq w1 P1 B1 m1 m2 ⟨m3.1, m3.2.1, m3.2.2.1, m3.2.2.2.1, by have := m3.2.2.2.2; simp only; omega⟩ m4 m5, fun q => absurd hj q⟩
      · rw [if_neg hj] at hq
        refine ⟨fun q => absurd q hj, fun _ x2 x3 => ?_⟩
        generalize a_dh 10 (up A 4 ((c + 1 : Nat) : Int)) 0 = r at m3 m5 h4 h40 h41 k5 k8 hj hq hx ⊢
        have hV1 := m1.V
        have hF1 := m1.F
        have hge1 := m1.ge
        have b4 : B1 4 = (c : Int) + 1 := by rw [m3.2.1.1.sz.2.2.2.2, h4]; omega
        refine rt_X10_divide_99 ?_
        simp (disch := omega) only [wp_c, wp_n, jj_n, v_ct, Int.reduceToNat, Int.toNat_natCast, stE, wlE, lgt, lpu, lpw, v_c2, va_s, true_and, and_true, Option.toList, List.nil_append, List.cons_append, List.take, List.drop, List.reverse, List.reverseAux, List.length_cons, List.length_nil, reduceCtorEq, false_implies, true_implies, forall_const, not_true_eq_false, not_false_eq_true, ite_true, ite_false, Bool.false_eq_true, I_I, J_J, Nat.add_left_cancel_iff, Nat.reduceEqDiff, Nat.add_eq_left, Nat.left_eq_add, false_and, and_false, Nat.reduceSub, Nat.sub_self, Nat.le_refl, Nat.zero_le, ge_iff_le, Nat.reduceAdd, Nat.reduceLeDiff, Nat.zero_add, Nat.reduceLT, z_lt, z_le, z_eq, z_l0, z_g0, z_le0, z_ge0, z_e0, z_e1, z_vp, z_nc, z_rem, z_div, i_ltT, i_ltF, i_leT, i_leF, i_eqT, i_eqF, n_ltT, n_ltF, n_leT, n_leF, n_eqT, n_eqF, tn_9, tn_12, tn_14, tn_20, tn_28, tn_44, tn_52, tn_68, tn_84, tn_100, tn_116, tn_132, fu_e, up_eq, ob_0, ob_b, oi_add, oi_sub, oi_mul, oi_neg, Int.add_zero, Int.zero_add, or_true, true_or, or_false, false_or, and_self, z_i2l, z_l2i, lo_nat, lo_add, lo_sub, lo_mul, lo_0, e_rem, hF1.1, hV1.1, b4]
        refine rt_X10_divide_108 ?_
        have hc1 : ((c : Int) + 1 - 1) = (c : Int) := by omega
        simp (disch := omega) only [wp_c, wp_n, jj_n, v_ct, Int.reduceToNat, Int.toNat_natCast, stE, wlE, lgt, lpu, lpw, v_c2, va_s, true_and, and_true, Option.toList, List.nil_append, List.cons_append, List.take, List.drop, List.reverse, List.reverseAux, List.length_cons, List.length_nil, reduceCtorEq, false_implies, true_implies, forall_const, not_true_eq_false, not_false_eq_true, ite_true, ite_false, Bool.false_eq_true, I_I, J_J, Nat.add_left_cancel_iff, Nat.reduceEqDiff, Nat.add_eq_left, Nat.left_eq_add, false_and, and_false, Nat.reduceSub, Nat.sub_self, Nat.le_refl, Nat.zero_le, ge_iff_le, Nat.reduceAdd, Nat.reduceLeDiff, Nat.zero_add, Nat.reduceLT, z_lt, z_le, z_eq, z_l0, z_g0, z_le0, z_ge0, z_e0, z_e1, z_vp, z_nc, z_rem, z_div, i_ltT, i_ltF, i_leT, i_leF, i_eqT, i_eqF, n_ltT, n_ltF, n_leT, n_leF, n_eqT, n_eqF, tn_9, tn_12, tn_14, tn_20, tn_28, tn_44, tn_52, tn_68, tn_84, tn_100, tn_116, tn_132, fu_e, up_eq, ob_0, ob_b, oi_add, oi_sub, oi_mul, oi_neg, Int.add_zero, Int.zero_add, or_true, true_or, or_false, false_or, and_self, z_i2l, z_l2i, lo_nat, lo_add, lo_sub, lo_mul, lo_0, e_rem, hF1.1, hV1.1, b4, hc1]
        have hT2 := m3.c (c := (c : Int)) (by omega) (by omega) (by omega)
        refine ih P1 r.1 (up B1 4 (c : Int)) (t + r.2) d1 (N + 11) _ _ _ (by omega) (by omega) ⟨hT2.1, hT2.2.1, hT2.2.2.1, hT2.2.2.2.1, by have := hT2.2.2.2.2; omega⟩ (by omega) (by omega) (by omega) (by omega) (by omega) m1.sc ?_
        intro w2 P2 B2 q1 q2 q3 q4 q5
        refine hq w2 P2 B2 q1 (m2.trans (((FO.refl _ _).I hge1.1).trans q2)) ?_ (by rw [q4, up_eq, if_neg (by omega)]; exact m4) (fun h => q5 (m5 h).c)
        rw [show N + 11 * (((c + 1 : Nat) : Int) + 1) = N + 11 + 11 * ((c : Int) + 1) by omega]
        exact q3
theorem z_divide {b o : Nat} {P : Nat → Nat} {A B : Row} {N : Int} {w : mW} {Q : mW → mO → Prop} (hO : OW w b o P B) (hT : TS A B N) (h5 : A 5 = 0) (hN : N ≤ 800000000)
  (hno : ¬ 0 < p_num A → Q w (.inl (some (.int (Int32.ofInt (-1000))))))
  (hq : 0 < p_num A → ∀ w' P' B', OW w' b o P' B' → FO b w w' → TS (a_dv (A 1 - A 0 + 1).toNat (up A 8 1) 0).1 B' (N + 165) → B' 1000 = B 1000 → (LX A B → LX (a_dv (A 1 - A 0 + 1).toNat (up A 8 1) 0).1 B') → Q w' (.inl (some (.int (Int32.ofInt (a_dv (A 1 - A 0 + 1).toNat (up A 8 1) 0).2))))) :
  CT n_X10_divide [.ref o] w Q := by
  have hF := hO.F
  have hV := hO.V
  have hge := hO.ge
  have hz := hT.1.sz
  have hsz := hT.2.1.1.sz
  have hS : OS B := by
    have hI := beg_TI (way := 1) hT.1.1.1.1 (Or.inl rfl)
    have : OS (o_beg B 1 0) := (rl_beg hT.2.1.1).os hI
    exact this.e (fun j hj => by
      unfold o_beg
      rw [if_neg (by omega), if_neg (by omega), if_neg (by omega), if_neg (by omega), if_neg (by omega)])
  have hp := p_os hS
  have ep : p_num B = p_num A := num_u hsz.1 (by omega) (fun j hj => hT.2.1.1.pin hj)
  refine ct_X10_divide (rt_X10_divide_0 ?_)
  simp (disch := omega) only [wp_c, wp_n, jj_n, v_ct, Int.reduceToNat, Int.toNat_natCast, stE, wlE, lgt, lpu, lpw, v_c2, va_s, true_and, and_true, Option.toList, List.nil_append, List.cons_append, List.take, List.drop, List.reverse, List.reverseAux, List.length_cons, List.length_nil, reduceCtorEq, false_implies, true_implies, forall_const, not_true_eq_false, not_false_eq_true, ite_true, ite_false, Bool.false_eq_true, I_I, J_J, Nat.add_left_cancel_iff, Nat.reduceEqDiff, Nat.add_eq_left, Nat.left_eq_add, false_and, and_false, Nat.reduceSub, Nat.sub_self, Nat.le_refl, Nat.zero_le, ge_iff_le, Nat.reduceAdd, Nat.reduceLeDiff, Nat.zero_add, Nat.reduceLT, z_lt, z_le, z_eq, z_l0, z_g0, z_le0, z_ge0, z_e0, z_e1, z_vp, z_nc, z_rem, z_div, i_ltT, i_ltF, i_leT, i_leF, i_eqT, i_eqF, n_ltT, n_ltF, n_leT, n_leF, n_eqT, n_eqF, tn_9, tn_12, tn_14, tn_20, tn_28, tn_44, tn_52, tn_68, tn_84, tn_100, tn_116, tn_132, fu_e, up_eq, ob_0, ob_b, oi_add, oi_sub, oi_mul, oi_neg, Int.add_zero, Int.zero_add, or_true, true_or, or_false, false_or, and_self, z_i2l, z_l2i, lo_nat, lo_add, lo_sub, lo_mul, lo_0, e_rem, hF.1, mh_X10_divide]
  refine z_pins hO hS ?_
  rw [ep] at hp ⊢
  by_cases h0 : 0 < p_num A
  · simp (disch := omega) only [wp_c, wp_n, jj_n, v_ct, Int.reduceToNat, Int.toNat_natCast, stE, wlE, lgt, lpu, lpw, v_c2, va_s, true_and, and_true, Option.toList, List.nil_append, List.cons_append, List.take, List.drop, List.reverse, List.reverseAux, List.length_cons, List.length_nil, reduceCtorEq, false_implies, true_implies, forall_const, not_true_eq_false, not_false_eq_true, ite_true, ite_false, Bool.false_eq_true, I_I, J_J, Nat.add_left_cancel_iff, Nat.reduceEqDiff, Nat.add_eq_left, Nat.left_eq_add, false_and, and_false, Nat.reduceSub, Nat.sub_self, Nat.le_refl, Nat.zero_le, ge_iff_le, Nat.reduceAdd, Nat.reduceLeDiff, Nat.zero_add, Nat.reduceLT, z_lt, z_le, z_eq, z_l0, z_g0, z_le0, z_ge0, z_e0, z_e1, z_vp, z_nc, z_rem, z_div, i_ltT, i_ltF, i_leT, i_leF, i_eqT, i_eqF, n_ltT, n_ltF, n_leT, n_leF, n_eqT, n_eqF, tn_9, tn_12, tn_14, tn_20, tn_28, tn_44, tn_52, tn_68, tn_84, tn_100, tn_116, tn_132, fu_e, up_eq, ob_0, ob_b, oi_add, oi_sub, oi_mul, oi_neg, Int.add_zero, Int.zero_add, or_true, true_or, or_false, false_or, and_self, z_i2l, z_l2i, lo_nat, lo_add, lo_sub, lo_mul, lo_0, e_rem]
    refine rt_X10_divide_11 ?_
    simp (disch := omega) only [wp_c, wp_n, jj_n, v_ct, Int.reduceToNat, Int.toNat_natCast, stE, wlE, lgt, lpu, lpw, v_c2, va_s, true_and, and_true, Option.toList, List.nil_append, List.cons_append, List.take, List.drop, List.reverse, List.reverseAux, List.length_cons, List.length_nil, reduceCtorEq, false_implies, true_implies, forall_const, not_true_eq_false, not_false_eq_true, ite_true, ite_false, Bool.false_eq_true, I_I, J_J, Nat.add_left_cancel_iff, Nat.reduceEqDiff, Nat.add_eq_left, Nat.left_eq_add, false_and, and_false, Nat.reduceSub, Nat.sub_self, Nat.le_refl, Nat.zero_le, ge_iff_le, Nat.reduceAdd, Nat.reduceLeDiff, Nat.zero_add, Nat.reduceLT, z_lt, z_le, z_eq, z_l0, z_g0, z_le0, z_ge0, z_e0, z_e1, z_vp, z_nc, z_rem, z_div, i_ltT, i_ltF, i_leT, i_leF, i_eqT, i_eqF, n_ltT, n_ltF, n_leT, n_leF, n_eqT, n_eqF, tn_9, tn_12, tn_14, tn_20, tn_28, tn_44, tn_52, tn_68, tn_84, tn_100, tn_116, tn_132, fu_e, up_eq, ob_0, ob_b, oi_add, oi_sub, oi_mul, oi_neg, Int.add_zero, Int.zero_add, or_true, true_or, or_false, false_or, and_self, z_i2l, z_l2i, lo_nat, lo_add, lo_sub, lo_mul, lo_0, e_rem, hF, hV, hsz.1, hsz.2.1]
    obtain ⟨c, hc⟩ : ∃ c : Nat, A 1 - A 0 = c := ⟨(A 1 - A 0).toNat, by omega⟩
    have hn : (A 1 - A 0 + 1).toNat = c + 1 := by omega
    rw [hn] at hq
    rw [hc]
    have u8 : ∀ j, ¬ j = 8 → up A 8 1 j = A j := fun j hj => by rw [up_eq, if_neg hj]
    have hT2 := (hT.d8 (v := 1) h5 (Or.inr rfl)).c (c := (c : Int)) (by rw [u8 _ (by omega)]; exact h5) (by omega) (by rw [u8 _ (by omega), u8 _ (by omega)]; omega)
    have := z_dv_26 (b := b) (o := o) (N0 := 1000000000) (Q := Q) (by omega) c P (up A 8 1) (up B 4 (c : Int)) 0 0 N (s_I w o 5 (Int32.ofInt c)) .null .null (by omega) (by omega) hT2 (by rw [u8 _ (by omega)]; exact h5) (by rw [up_eq, if_pos rfl]) (by rw [u8 _ (by omega), u8 _ (by omega)]; omega) (by omega) (by omega) hO.sc ?_
    · exact this
    · intro w1 P1 B1 m1 m2 m3 m4 m5
      exact hq h0 w1 P1 B1 m1 (((FO.refl _ _).I hge.1).trans m2) ⟨m3.1, m3.2.1, m3.2.2.1, m3.2.2.2.1, by have := m3.2.2.2.2; omega⟩ (m4.trans (by rw [up_eq, if_neg (by omega)])) (fun h => m5 (h.d8.c))
  · have e0 : p_num A = 0 := by omega
    simp (disch := omega) only [wp_c, wp_n, jj_n, v_ct, Int.reduceToNat, Int.toNat_natCast, stE, wlE, lgt, lpu, lpw, v_c2, va_s, true_and, and_true, Option.toList, List.nil_append, List.cons_append, List.take, List.drop, List.reverse, List.reverseAux, List.length_cons, List.length_nil, reduceCtorEq, false_implies, true_implies, forall_const, not_true_eq_false, not_false_eq_true, ite_true, ite_false, Bool.false_eq_true, I_I, J_J, Nat.add_left_cancel_iff, Nat.reduceEqDiff, Nat.add_eq_left, Nat.left_eq_add, false_and, and_false, Nat.reduceSub, Nat.sub_self, Nat.le_refl, Nat.zero_le, ge_iff_le, Nat.reduceAdd, Nat.reduceLeDiff, Nat.zero_add, Nat.reduceLT, z_lt, z_le, z_eq, z_l0, z_g0, z_le0, z_ge0, z_e0, z_e1, z_vp, z_nc, z_rem, z_div, i_ltT, i_ltF, i_leT, i_leF, i_eqT, i_eqF, n_ltT, n_ltF, n_leT, n_leF, n_eqT, n_eqF, tn_9, tn_12, tn_14, tn_20, tn_28, tn_44, tn_52, tn_68, tn_84, tn_100, tn_116, tn_132, fu_e, up_eq, ob_0, ob_b, oi_add, oi_sub, oi_mul, oi_neg, Int.add_zero, Int.zero_add, or_true, true_or, or_false, false_or, and_self, z_i2l, z_l2i, lo_nat, lo_add, lo_sub, lo_mul, lo_0, e_rem, e0, mr_X10_divide]
    exact hno h0
