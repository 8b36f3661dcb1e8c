/-! the class's changes, on -/
theorem x_damage {w : mW} {A : Row} {Z : Zx} {Y : Yx} {X : Xx} {U : Ux} {Q : mW → mO → Prop} {v0 : Int} (h0 : -2147483648 ≤ v0 ∧ v0 ≤ 2147483647) {v1 : Int} (h1 : -2147483648 ≤ v1 ∧ v1 ≤ 2147483647)  (hS : CS w A Z Y X U) (hG : GR A) (hn1 : ¬ (0 ≤ v0 ∧ v0 < A 1) → Q w (.inr 2)) (hn2 : (0 ≤ v0 ∧ v0 < A 1) → ¬ (1 ≤ v1 ∧ v1 ≤ 2) → Q w (.inr 1)) (hn3 : (0 ≤ v0 ∧ v0 < A 1) → (1 ≤ v1 ∧ v1 ≤ 2) → (0 < A 5 ∨ (v1 = 1 ∧ A (68 + v0.toNat) % 2 = 1) ∨ (v1 = 2 ∧ 2 ≤ A (68 + v0.toNat))) → Q w (.inr 0)) (hq : (0 ≤ v0 ∧ v0 < A 1) → (1 ≤ v1 ∧ v1 ≤ 2) → ¬ (0 < A 5 ∨ (v1 = 1 ∧ A (68 + v0.toNat) % 2 = 1) ∨ (v1 = 2 ∧ 2 ≤ A (68 + v0.toNat))) → ∀ w', CS w' (up A (68 + v0.toNat) (A (68 + v0.toNat) + v1)) Z (hp Y A) X U → FX CL w w' → Q w' (.inl (some (.int (Int32.ofInt (f_tot (up A (68 + v0.toNat) (A (68 + v0.toNat) + v1)) (A 1).toNat)))))) : CT n_X9_damage [.ref 100, .int (Int32.ofInt v0), .int (Int32.ofInt v1)] w Q := by
  have hCS := hS
  obtain ⟨hC, hS, hB, hE, hH, hX, hU⟩ := hS
  have hz := hG.sz
  have hS0 := hS
  have hJ := hG.1.1
  obtain ⟨⟨k0, c0, c1, c2, c3, c4, c5, c6, c7, c8, c9, c10⟩, -⟩ := id hC
  obtain ⟨⟨s0, s1, s2, s3, s4, s5, s6, s7, s8, s9, s10, s11⟩, r6, r7, r8, r9, r10, r11, r12, r13, q2, q10, q11⟩ := hS.1
  simp only [Nat.reduceAdd] at s0 s1 s2 s3 s4 s5 s6 s7 s8 s9 s10 s11 r6 r7 r8 r9 r10 r11 r12 r13 q2 q10 q11
  obtain ⟨⟨b0, b1, b2, b3, b4⟩, -⟩ := id hS.2.1
  have hjm := hS.jam
  simp only [Nat.reduceAdd] at hjm
  have hK := hC
  have g5 := hC.2.1.2.2.1
  refine ct_X9_damage (rt_X9_damage_0 ?_)
  simp (disch := omega) only [wp_c, wp_n, jj_n, v_ct, Int.reduceToNat, Int.toNat_natCast, stE, wlE, lgt, lpu, lpw, v_c2, va_s, true_and, and_true, Option.toList, List.nil_append, List.cons_append, List.take, List.drop, List.reverse, List.reverseAux, List.length_cons, List.length_nil, reduceCtorEq, false_implies, true_implies, forall_const, not_true_eq_false, not_false_eq_true, ite_true, ite_false, Bool.false_eq_true, I_I, J_J, Nat.add_left_cancel_iff, Nat.reduceEqDiff, Nat.add_eq_left, Nat.left_eq_add, false_and, and_false, Nat.reduceSub, Nat.sub_self, Nat.le_refl, Nat.zero_le, ge_iff_le, Nat.reduceAdd, Nat.reduceLeDiff, Nat.zero_add, Nat.reduceLT, z_lt, z_le, z_eq, z_l0, z_g0, z_le0, z_ge0, z_e0, z_e1, z_vp, z_nc, z_rem, z_div, i_ltT, i_ltF, i_leT, i_leF, i_eqT, i_eqF, n_ltT, n_ltF, n_leT, n_leF, n_eqT, n_eqF, tn_9, tn_12, tn_14, tn_20, tn_28, tn_44, tn_52, tn_68, tn_84, tn_100, tn_116, tn_132, fu_e, up_eq, ob_0, ob_b, oi_add, oi_sub, oi_mul, oi_neg, Int.add_zero, Int.zero_add, or_true, true_or, or_false, false_or, and_self, z_i2l, z_l2i, lo_nat, lo_add, lo_sub, lo_mul, lo_0, e_rem, mr_X9_damage, mh_X9_damage, k0, c0, c1, c2, c3, c4, c5, c6, c7, c8, c9, c10, s0, s1, s2, s3, s4, s5, s6, s7, s8, s9, s10, s11, r6, r7, r8, r9, r10, r11, r12, r13, q2, q10, q11, b0, b1, b2, b3, b4, hjm]
  refine x_requireWheel h0 hCS hG (fun h => hn1 h) (fun h => ?_)
  by_cases h' : 1 ≤ v1 ∧ v1 ≤ 2
  rotate_left
  · simp (disch := omega) only [wp_c, wp_n, jj_n, v_ct, Int.reduceToNat, Int.toNat_natCast, stE, wlE, lgt, lpu, lpw, v_c2, va_s, true_and, and_true, Option.toList, List.nil_append, List.cons_append, List.take, List.drop, List.reverse, List.reverseAux, List.length_cons, List.length_nil, reduceCtorEq, false_implies, true_implies, forall_const, not_true_eq_false, not_false_eq_true, ite_true, ite_false, Bool.false_eq_true, I_I, J_J, Nat.add_left_cancel_iff, Nat.reduceEqDiff, Nat.add_eq_left, Nat.left_eq_add, false_and, and_false, Nat.reduceSub, Nat.sub_self, Nat.le_refl, Nat.zero_le, ge_iff_le, Nat.reduceAdd, Nat.reduceLeDiff, Nat.zero_add, Nat.reduceLT, z_lt, z_le, z_eq, z_l0, z_g0, z_le0, z_ge0, z_e0, z_e1, z_vp, z_nc, z_rem, z_div, i_ltT, i_ltF, i_leT, i_leF, i_eqT, i_eqF, n_ltT, n_ltF, n_leT, n_leF, n_eqT, n_eqF, tn_9, tn_12, tn_14, tn_20, tn_28, tn_44, tn_52, tn_68, tn_84, tn_100, tn_116, tn_132, fu_e, up_eq, ob_0, ob_b, oi_add, oi_sub, oi_mul, oi_neg, Int.add_zero, Int.zero_add, or_true, true_or, or_false, false_or, and_self, z_i2l, z_l2i, lo_nat, lo_add, lo_sub, lo_mul, lo_0, e_rem, mr_X9_damage, mh_X9_damage, k0, c0, c1, c2, c3, c4, c5, c6, c7, c8, c9, c10, s0, s1, s2, s3, s4, s5, s6, s7, s8, s9, s10, s11, r6, r7, r8, r9, r10, r11, r12, r13, q2, q10, q11, b0, b1, b2, b3, b4, hjm]
    repeat' (first | (with_reducible refine And.intro ?_ ?_) | (with_reducible intro _) | ((first | refine rt_X9_damage_51 ?_); simp (disch := omega) only [wp_c, wp_n, jj_n, v_ct, Int.reduceToNat, Int.toNat_natCast, stE, wlE, lgt, lpu, lpw, v_c2, va_s, true_and, and_true, Option.toList, List.nil_append, List.cons_append, List.take, List.drop, List.reverse, List.reverseAux, List.length_cons, List.length_nil, reduceCtorEq, false_implies, true_implies, forall_const, not_true_eq_false, not_false_eq_true, ite_true, ite_false, Bool.false_eq_true, I_I, J_J, Nat.add_left_cancel_iff, Nat.reduceEqDiff, Nat.add_eq_left, Nat.left_eq_add, false_and, and_false, Nat.reduceSub, Nat.sub_self, Nat.le_refl, Nat.zero_le, ge_iff_le, Nat.reduceAdd, Nat.reduceLeDiff, Nat.zero_add, Nat.reduceLT, z_lt, z_le, z_eq, z_l0, z_g0, z_le0, z_ge0, z_e0, z_e1, z_vp, z_nc, z_rem, z_div, i_ltT, i_ltF, i_leT, i_leF, i_eqT, i_eqF, n_ltT, n_ltF, n_leT, n_leF, n_eqT, n_eqF, tn_9, tn_12, tn_14, tn_20, tn_28, tn_44, tn_52, tn_68, tn_84, tn_100, tn_116, tn_132, fu_e, up_eq, ob_0, ob_b, oi_add, oi_sub, oi_mul, oi_neg, Int.add_zero, Int.zero_add, or_true, true_or, or_false, false_or, and_self, z_i2l, z_l2i, lo_nat, lo_add, lo_sub, lo_mul, lo_0, e_rem, mr_X9_damage, mh_X9_damage, k0, c0, c1, c2, c3, c4, c5, c6, c7, c8, c9, c10, s0, s1, s2, s3, s4, s5, s6, s7, s8, s9, s10, s11, r6, r7, r8, r9, r10, r11, r12, r13, q2, q10, q11, b0, b1, b2, b3, b4, hjm]))
    all_goals first | (exfalso; omega) | exact hn2 h h'
  have h25 : RT n_X9_damage 25 [.ref 100, .int (Int32.ofInt v0), .int (Int32.ofInt v1)] [] w (2, 12, false) Q := by
    refine rt_X9_damage_25 ?_
    simp (disch := omega) only [wp_c, wp_n, jj_n, v_ct, Int.reduceToNat, Int.toNat_natCast, stE, wlE, lgt, lpu, lpw, v_c2, va_s, true_and, and_true, Option.toList, List.nil_append, List.cons_append, List.take, List.drop, List.reverse, List.reverseAux, List.length_cons, List.length_nil, reduceCtorEq, false_implies, true_implies, forall_const, not_true_eq_false, not_false_eq_true, ite_true, ite_false, Bool.false_eq_true, I_I, J_J, Nat.add_left_cancel_iff, Nat.reduceEqDiff, Nat.add_eq_left, Nat.left_eq_add, false_and, and_false, Nat.reduceSub, Nat.sub_self, Nat.le_refl, Nat.zero_le, ge_iff_le, Nat.reduceAdd, Nat.reduceLeDiff, Nat.zero_add, Nat.reduceLT, z_lt, z_le, z_eq, z_l0, z_g0, z_le0, z_ge0, z_e0, z_e1, z_vp, z_nc, z_rem, z_div, i_ltT, i_ltF, i_leT, i_leF, i_eqT, i_eqF, n_ltT, n_ltF, n_leT, n_leF, n_eqT, n_eqF, tn_9, tn_12, tn_14, tn_20, tn_28, tn_44, tn_52, tn_68, tn_84, tn_100, tn_116, tn_132, fu_e, up_eq, ob_0, ob_b, oi_add, oi_sub, oi_mul, oi_neg, Int.add_zero, Int.zero_add, or_true, true_or, or_false, false_or, and_self, z_i2l, z_l2i, lo_nat, lo_add, lo_sub, lo_mul, lo_0, e_rem, mr_X9_damage, mh_X9_damage, k0, c0, c1, c2, c3, c4, c5, c6, c7, c8, c9, c10, s0, s1, s2, s3, s4, s5, s6, s7, s8, s9, s10, s11, r6, r7, r8, r9, r10, r11, r12, r13, q2, q10, q11, b0, b1, b2, b3, b4, hjm]
    refine x_requireNoJam hCS hG (fun h5 => hn3 h h' (Or.inl h5)) (fun h5 => ?_)
    obtain ⟨j, hj⟩ : ∃ j : Nat, v0 = j := ⟨v0.toNat, by omega⟩
    subst hj
    rw [Int.toNat_natCast] at hn3 hq
    have hf := TJ_flt hJ j (by omega)
    have hfl := hS.2.1.r_flt (j := j) (by omega)
    simp (disch := omega) only [wp_c, wp_n, jj_n, v_ct, Int.reduceToNat, Int.toNat_natCast, stE, wlE, lgt, lpu, lpw, v_c2, va_s, true_and, and_true, Option.toList, List.nil_append, List.cons_append, List.take, List.drop, List.reverse, List.reverseAux, List.length_cons, List.length_nil, reduceCtorEq, false_implies, true_implies, forall_const, not_true_eq_false, not_false_eq_true, ite_true, ite_false, Bool.false_eq_true, I_I, J_J, Nat.add_left_cancel_iff, Nat.reduceEqDiff, Nat.add_eq_left, Nat.left_eq_add, false_and, and_false, Nat.reduceSub, Nat.sub_self, Nat.le_refl, Nat.zero_le, ge_iff_le, Nat.reduceAdd, Nat.reduceLeDiff, Nat.zero_add, Nat.reduceLT, z_lt, z_le, z_eq, z_l0, z_g0, z_le0, z_ge0, z_e0, z_e1, z_vp, z_nc, z_rem, z_div, i_ltT, i_ltF, i_leT, i_leF, i_eqT, i_eqF, n_ltT, n_ltF, n_leT, n_leF, n_eqT, n_eqF, tn_9, tn_12, tn_14, tn_20, tn_28, tn_44, tn_52, tn_68, tn_84, tn_100, tn_116, tn_132, fu_e, up_eq, ob_0, ob_b, oi_add, oi_sub, oi_mul, oi_neg, Int.add_zero, Int.zero_add, or_true, true_or, or_false, false_or, and_self, z_i2l, z_l2i, lo_nat, lo_add, lo_sub, lo_mul, lo_0, e_rem, mr_X9_damage, mh_X9_damage, k0, c0, c1, c2, c3, c4, c5, c6, c7, c8, c9, c10, s0, s1, s2, s3, s4, s5, s6, s7, s8, s9, s10, s11, r6, r7, r8, r9, r10, r11, r12, r13, q2, q10, q11, b0, b1, b2, b3, b4, hjm, Int.toNat_natCast]
    refine c_hasFault hS.1 (j := j) (by omega) ?_
    rw [hfl]
    have key : (if Int32.ofInt (A (68 + j)) &&& Int32.ofInt v1 = 0 then (0 : Int32) else 1) = Int32.ofInt (if (v1 = 1 ∧ A (68 + j) % 2 = 1) ∨ (v1 = 2 ∧ 2 ≤ A (68 + j)) then 1 else 0) := by
      have o1 : (1 : Int32) = Int32.ofInt 1 := rfl
      have o0 : (0 : Int32) = Int32.ofInt 0 := rfl
      rcases (show v1 = 1 ∨ v1 = 2 by omega) with rfl | rfl
      · rw [b_and1 hf.1 hf.2]
        by_cases q : A (68 + j) % 2 = 1
        · exact (if_neg (fun z => by have := (oi_e0 ⟨by omega, by omega⟩).mp z; omega)).trans (o1.trans (congrArg Int32.ofInt (if_pos (Or.inl ⟨rfl, q⟩))).symm)
        · exact (if_pos ((oi_e0 ⟨by omega, by omega⟩).mpr (by omega))).trans (o0.trans (congrArg Int32.ofInt (if_neg (by omega))).symm)
      · rw [b_and2 hf.1 hf.2]
        by_cases q : A (68 + j) < 2
        · rw [if_pos q]
          exact (if_pos (by decide)).trans (o0.trans (congrArg Int32.ofInt (if_neg (by omega))).symm)
        · rw [if_neg q]
          exact (if_neg (by decide)).trans (o1.trans (congrArg Int32.ofInt (if_pos (by omega))).symm)
    rw [key]
    simp (disch := omega) only [wp_c, wp_n, jj_n, v_ct, Int.reduceToNat, Int.toNat_natCast, stE, wlE, lgt, lpu, lpw, v_c2, va_s, true_and, and_true, Option.toList, List.nil_append, List.cons_append, List.take, List.drop, List.reverse, List.reverseAux, List.length_cons, List.length_nil, reduceCtorEq, false_implies, true_implies, forall_const, not_true_eq_false, not_false_eq_true, ite_true, ite_false, Bool.false_eq_true, I_I, J_J, Nat.add_left_cancel_iff, Nat.reduceEqDiff, Nat.add_eq_left, Nat.left_eq_add, false_and, and_false, Nat.reduceSub, Nat.sub_self, Nat.le_refl, Nat.zero_le, ge_iff_le, Nat.reduceAdd, Nat.reduceLeDiff, Nat.zero_add, Nat.reduceLT, z_lt, z_le, z_eq, z_l0, z_g0, z_le0, z_ge0, z_e0, z_e1, z_vp, z_nc, z_rem, z_div, i_ltT, i_ltF, i_leT, i_leF, i_eqT, i_eqF, n_ltT, n_ltF, n_leT, n_leF, n_eqT, n_eqF, tn_9, tn_12, tn_14, tn_20, tn_28, tn_44, tn_52, tn_68, tn_84, tn_100, tn_116, tn_132, fu_e, up_eq, ob_0, ob_b, oi_add, oi_sub, oi_mul, oi_neg, Int.add_zero, Int.zero_add, or_true, true_or, or_false, false_or, and_self, z_i2l, z_l2i, lo_nat, lo_add, lo_sub, lo_mul, lo_0, e_rem, mr_X9_damage, mh_X9_damage, k0, c0, c1, c2, c3, c4, c5, c6, c7, c8, c9, c10, s0, s1, s2, s3, s4, s5, s6, s7, s8, s9, s10, s11, r6, r7, r8, r9, r10, r11, r12, r13, q2, q10, q11, b0, b1, b2, b3, b4, hjm, ob_0]
    refine ⟨fun q => ?_, fun q => hn3 h h' (Or.inr (Decidable.not_not.mp q))⟩
    have hor : Int32.ofInt (A (68 + j)) ||| Int32.ofInt v1 = Int32.ofInt (A (68 + j) + v1) := by
      have hb := b_or hf.1 hf.2
      rcases (show v1 = 1 ∨ v1 = 2 by omega) with rfl | rfl
      · exact hb.1 (by omega)
      · exact hb.2 (by omega)
    refine rt_X9_damage_51 ?_
    simp (disch := omega) only [wp_c, wp_n, jj_n, v_ct, Int.reduceToNat, Int.toNat_natCast, stE, wlE, lgt, lpu, lpw, v_c2, va_s, true_and, and_true, Option.toList, List.nil_append, List.cons_append, List.take, List.drop, List.reverse, List.reverseAux, List.length_cons, List.length_nil, reduceCtorEq, false_implies, true_implies, forall_const, not_true_eq_false, not_false_eq_true, ite_true, ite_false, Bool.false_eq_true, I_I, J_J, Nat.add_left_cancel_iff, Nat.reduceEqDiff, Nat.add_eq_left, Nat.left_eq_add, false_and, and_false, Nat.reduceSub, Nat.sub_self, Nat.le_refl, Nat.zero_le, ge_iff_le, Nat.reduceAdd, Nat.reduceLeDiff, Nat.zero_add, Nat.reduceLT, z_lt, z_le, z_eq, z_l0, z_g0, z_le0, z_ge0, z_e0, z_e1, z_vp, z_nc, z_rem, z_div, i_ltT, i_ltF, i_leT, i_leF, i_eqT, i_eqF, n_ltT, n_ltF, n_leT, n_leF, n_eqT, n_eqF, tn_9, tn_12, tn_14, tn_20, tn_28, tn_44, tn_52, tn_68, tn_84, tn_100, tn_116, tn_132, fu_e, up_eq, ob_0, ob_b, oi_add, oi_sub, oi_mul, oi_neg, Int.add_zero, Int.zero_add, or_true, true_or, or_false, false_or, and_self, z_i2l, z_l2i, lo_nat, lo_add, lo_sub, lo_mul, lo_0, e_rem, mr_X9_damage, mh_X9_damage, k0, c0, c1, c2, c3, c4, c5, c6, c7, c8, c9, c10, s0, s1, s2, s3, s4, s5, s6, s7, s8, s9, s10, s11, r6, r7, r8, r9, r10, r11, r12, r13, q2, q10, q11, b0, b1, b2, b3, b4, hjm, g5]
    refine c_keep hC hH hS hJ (by omega) fun w1 k1 k2 => ?_
    have hS1 := hS.frB k2 (by omega)
    have hC1 := hC.fr k2
    obtain ⟨⟨k0', c0', c1', c2', c3', c4', c5', c6', c7', c8', c9', c10'⟩, -⟩ := id hC1
    obtain ⟨⟨s0', s1', s2', s3', s4', s5', s6', s7', s8', s9', s10', s11'⟩, r6', r7', r8', r9', r10', r11', r12', r13', q2', q10', q11'⟩ := hS1.1
    simp only [Nat.reduceAdd] at s0' s1' s2' s3' s4' s5' s6' s7' s8' s9' s10' s11' r6' r7' r8' r9' r10' r11' r12' r13' q2' q10' q11'
    obtain ⟨⟨b0', b1', b2', b3', b4'⟩, -⟩ := id hS1.2.1
    have hrd := hS1.2.1.r_flt (j := j) (by omega)
    simp only [Nat.reduceAdd] at hrd
    simp (disch := omega) only [wp_c, wp_n, jj_n, v_ct, Int.reduceToNat, Int.toNat_natCast, stE, wlE, lgt, lpu, lpw, v_c2, va_s, true_and, and_true, Option.toList, List.nil_append, List.cons_append, List.take, List.drop, List.reverse, List.reverseAux, List.length_cons, List.length_nil, reduceCtorEq, false_implies, true_implies, forall_const, not_true_eq_false, not_false_eq_true, ite_true, ite_false, Bool.false_eq_true, I_I, J_J, Nat.add_left_cancel_iff, Nat.reduceEqDiff, Nat.add_eq_left, Nat.left_eq_add, false_and, and_false, Nat.reduceSub, Nat.sub_self, Nat.le_refl, Nat.zero_le, ge_iff_le, Nat.reduceAdd, Nat.reduceLeDiff, Nat.zero_add, Nat.reduceLT, z_lt, z_le, z_eq, z_l0, z_g0, z_le0, z_ge0, z_e0, z_e1, z_vp, z_nc, z_rem, z_div, i_ltT, i_ltF, i_leT, i_leF, i_eqT, i_eqF, n_ltT, n_ltF, n_leT, n_leF, n_eqT, n_eqF, tn_9, tn_12, tn_14, tn_20, tn_28, tn_44, tn_52, tn_68, tn_84, tn_100, tn_116, tn_132, fu_e, up_eq, ob_0, ob_b, oi_add, oi_sub, oi_mul, oi_neg, Int.add_zero, Int.zero_add, or_true, true_or, or_false, false_or, and_self, z_i2l, z_l2i, lo_nat, lo_add, lo_sub, lo_mul, lo_0, e_rem, mr_X9_damage, mh_X9_damage, k0', c0', c1', c2', c3', c4', c5', c6', c7', c8', c9', c10', s0', s1', s2', s3', s4', s5', s6', s7', s8', s9', s10', s11', r6', r7', r8', r9', r10', r11', r12', r13', q2', q10', q11', b0', b1', b2', b3', b4', hrd, hor, Int.toNat_natCast]
    have hS2 : MS (s_I w1 105 j (Int32.ofInt (A (68 + j) + v1))) 101 (up A (68 + j) (A (68 + j) + v1)) := hS1.flt (j := j) (by omega)
    have hG2 : GR (up A (68 + j) (A (68 + j) + v1)) := hG.flt h5 (by omega) (by omega)
    have e1 : up A (68 + j) (A (68 + j) + v1) 1 = A 1 := by rw [up_eq, if_neg (by omega)]
    refine c_faultTotal hS2.1 hS2.2.1 hG2.1.1 ?_
    rw [e1]
    simp (disch := omega) only [wp_c, wp_n, jj_n, v_ct, Int.reduceToNat, Int.toNat_natCast, stE, wlE, lgt, lpu, lpw, v_c2, va_s, true_and, and_true, Option.toList, List.nil_append, List.cons_append, List.take, List.drop, List.reverse, List.reverseAux, List.length_cons, List.length_nil, reduceCtorEq, false_implies, true_implies, forall_const, not_true_eq_false, not_false_eq_true, ite_true, ite_false, Bool.false_eq_true, I_I, J_J, Nat.add_left_cancel_iff, Nat.reduceEqDiff, Nat.add_eq_left, Nat.left_eq_add, false_and, and_false, Nat.reduceSub, Nat.sub_self, Nat.le_refl, Nat.zero_le, ge_iff_le, Nat.reduceAdd, Nat.reduceLeDiff, Nat.zero_add, Nat.reduceLT, z_lt, z_le, z_eq, z_l0, z_g0, z_le0, z_ge0, z_e0, z_e1, z_vp, z_nc, z_rem, z_div, i_ltT, i_ltF, i_leT, i_leF, i_eqT, i_eqF, n_ltT, n_ltF, n_leT, n_leF, n_eqT, n_eqF, tn_9, tn_12, tn_14, tn_20, tn_28, tn_44, tn_52, tn_68, tn_84, tn_100, tn_116, tn_132, fu_e, up_eq, ob_0, ob_b, oi_add, oi_sub, oi_mul, oi_neg, Int.add_zero, Int.zero_add, or_true, true_or, or_false, false_or, and_self, z_i2l, z_l2i, lo_nat, lo_add, lo_sub, lo_mul, lo_0, e_rem, mr_X9_damage, mh_X9_damage, k0', c0', c1', c2', c3', c4', c5', c6', c7', c8', c9', c10', s0', s1', s2', s3', s4', s5', s6', s7', s8', s9', s10', s11', r6', r7', r8', r9', r10', r11', r12', r13', q2', q10', q11', b0', b1', b2', b3', b4']
    obtain ⟨m1, m2⟩ := hCS.ch k1 k2 hS2 ((Fr.refl [105] w1).I (by simp) |>.toM (by simp))
    exact hq h h' (fun q' => by rcases q' with q' | q'; exact h5 q'; exact q q') _ m1 m2
  simp (disch := omega) only [wp_c, wp_n, jj_n, v_ct, Int.reduceToNat, Int.toNat_natCast, stE, wlE, lgt, lpu, lpw, v_c2, va_s, true_and, and_true, Option.toList, List.nil_append, List.cons_append, List.take, List.drop, List.reverse, List.reverseAux, List.length_cons, List.length_nil, reduceCtorEq, false_implies, true_implies, forall_const, not_true_eq_false, not_false_eq_true, ite_true, ite_false, Bool.false_eq_true, I_I, J_J, Nat.add_left_cancel_iff, Nat.reduceEqDiff, Nat.add_eq_left, Nat.left_eq_add, false_and, and_false, Nat.reduceSub, Nat.sub_self, Nat.le_refl, Nat.zero_le, ge_iff_le, Nat.reduceAdd, Nat.reduceLeDiff, Nat.zero_add, Nat.reduceLT, z_lt, z_le, z_eq, z_l0, z_g0, z_le0, z_ge0, z_e0, z_e1, z_vp, z_nc, z_rem, z_div, i_ltT, i_ltF, i_leT, i_leF, i_eqT, i_eqF, n_ltT, n_ltF, n_leT, n_leF, n_eqT, n_eqF, tn_9, tn_12, tn_14, tn_20, tn_28, tn_44, tn_52, tn_68, tn_84, tn_100, tn_116, tn_132, fu_e, up_eq, ob_0, ob_b, oi_add, oi_sub, oi_mul, oi_neg, Int.add_zero, Int.zero_add, or_true, true_or, or_false, false_or, and_self, z_i2l, z_l2i, lo_nat, lo_add, lo_sub, lo_mul, lo_0, e_rem, mr_X9_damage, mh_X9_damage, k0, c0, c1, c2, c3, c4, c5, c6, c7, c8, c9, c10, s0, s1, s2, s3, s4, s5, s6, s7, s8, s9, s10, s11, r6, r7, r8, r9, r10, r11, r12, r13, q2, q10, q11, b0, b1, b2, b3, b4, hjm]
  exact ⟨fun _ => h25, fun q => ⟨fun _ => h25, fun q2 => by omega⟩⟩
theorem x_multiply {w : mW} {A : Row} {Z : Zx} {Y : Yx} {X : Xx} {U : Ux} {Q : mW → mO → Prop} {v0 : Int} (h0 : -2147483648 ≤ v0 ∧ v0 ≤ 2147483647) {v1 : Int} (h1 : v1 = 0 ∨ v1 = 1) (hS : CS w A Z Y X U) (hG : GR A) (hn1 : ¬ (0 ≤ v0 ∧ v0 ≤ 999999) → Q w (.inr 1)) (hn2 : (0 ≤ v0 ∧ v0 ≤ 999999) → (0 < A 5 ∨ ¬ ((a_pl 7 v0 0 v1).length : Int) - 1 ≤ A 1 - A 0) → ∀ w', CS w' A Z Y X U → FX CL w w' → Q w' (.inr 0)) (hq : (0 ≤ v0 ∧ v0 ≤ 999999) → ¬ (0 < A 5 ∨ ¬ ((a_pl 7 v0 0 v1).length : Int) - 1 ≤ A 1 - A 0) → ∀ w', CS w' ((a_mul (a_pl 7 v0 0 v1) 0 (up (up A 4 0) 8 0) 0).1) Z (hp Y A) X U → FX CL w w' → Q w' (.inl (some (.int (Int32.ofInt (((a_mul (a_pl 7 v0 0 v1) 0 (up (up A 4 0) 8 0) 0).2 : Nat))))))) : CT n_X9_multiply [.ref 100, .int (Int32.ofInt v0), .int (Int32.ofInt v1)] w Q := by
  have hCS := hS
  obtain ⟨hC, hS, hB, hE, hH, hX, hU⟩ := hS
  have hz := hG.sz
  have hS0 := hS
  have hJ := hG.1.1
  obtain ⟨⟨k0, c0, c1, c2, c3, c4, c5, c6, c7, c8, c9, c10⟩, -⟩ := id hC
  obtain ⟨⟨s0, s1, s2, s3, s4, s5, s6, s7, s8, s9, s10, s11⟩, r6, r7, r8, r9, r10, r11, r12, r13, q2, q10, q11⟩ := hS.1
  simp only [Nat.reduceAdd] at s0 s1 s2 s3 s4 s5 s6 s7 s8 s9 s10 s11 r6 r7 r8 r9 r10 r11 r12 r13 q2 q10 q11
  obtain ⟨⟨b0, b1, b2, b3, b4⟩, -⟩ := id hS.2.1
  have hjm := hS.jam
  simp only [Nat.reduceAdd] at hjm
  have hK := hC
  have g5 := hC.2.1.2.2.1
  refine ct_X9_multiply (rt_X9_multiply_0 ?_)
  simp (disch := omega) only [wp_c, wp_n, jj_n, v_ct, Int.reduceToNat, Int.toNat_natCast, stE, wlE, lgt, lpu, lpw, v_c2, va_s, true_and, and_true, Option.toList, List.nil_append, List.cons_append, List.take, List.drop, List.reverse, List.reverseAux, List.length_cons, List.length_nil, reduceCtorEq, false_implies, true_implies, forall_const, not_true_eq_false, not_false_eq_true, ite_true, ite_false, Bool.false_eq_true, I_I, J_J, Nat.add_left_cancel_iff, Nat.reduceEqDiff, Nat.add_eq_left, Nat.left_eq_add, false_and, and_false, Nat.reduceSub, Nat.sub_self, Nat.le_refl, Nat.zero_le, ge_iff_le, Nat.reduceAdd, Nat.reduceLeDiff, Nat.zero_add, Nat.reduceLT, z_lt, z_le, z_eq, z_l0, z_g0, z_le0, z_ge0, z_e0, z_e1, z_vp, z_nc, z_rem, z_div, i_ltT, i_ltF, i_leT, i_leF, i_eqT, i_eqF, n_ltT, n_ltF, n_leT, n_leF, n_eqT, n_eqF, tn_9, tn_12, tn_14, tn_20, tn_28, tn_44, tn_52, tn_68, tn_84, tn_100, tn_116, tn_132, fu_e, up_eq, ob_0, ob_b, oi_add, oi_sub, oi_mul, oi_neg, Int.add_zero, Int.zero_add, or_true, true_or, or_false, false_or, and_self, z_i2l, z_l2i, lo_nat, lo_add, lo_sub, lo_mul, lo_0, e_rem, mr_X9_multiply, mh_X9_multiply, k0, c0, c1, c2, c3, c4, c5, c6, c7, c8, c9, c10, s0, s1, s2, s3, s4, s5, s6, s7, s8, s9, s10, s11, r6, r7, r8, r9, r10, r11, r12, r13, q2, q10, q11, b0, b1, b2, b3, b4, hjm]
  refine x_requireFactor h0 hCS hG (fun h => hn1 h) (fun h => ?_)
  simp (disch := omega) only [wp_c, wp_n, jj_n, v_ct, Int.reduceToNat, Int.toNat_natCast, stE, wlE, lgt, lpu, lpw, v_c2, va_s, true_and, and_true, Option.toList, List.nil_append, List.cons_append, List.take, List.drop, List.reverse, List.reverseAux, List.length_cons, List.length_nil, reduceCtorEq, false_implies, true_implies, forall_const, not_true_eq_false, not_false_eq_true, ite_true, ite_false, Bool.false_eq_true, I_I, J_J, Nat.add_left_cancel_iff, Nat.reduceEqDiff, Nat.add_eq_left, Nat.left_eq_add, false_and, and_false, Nat.reduceSub, Nat.sub_self, Nat.le_refl, Nat.zero_le, ge_iff_le, Nat.reduceAdd, Nat.reduceLeDiff, Nat.zero_add, Nat.reduceLT, z_lt, z_le, z_eq, z_l0, z_g0, z_le0, z_ge0, z_e0, z_e1, z_vp, z_nc, z_rem, z_div, i_ltT, i_ltF, i_leT, i_leF, i_eqT, i_eqF, n_ltT, n_ltF, n_leT, n_leF, n_eqT, n_eqF, tn_9, tn_12, tn_14, tn_20, tn_28, tn_44, tn_52, tn_68, tn_84, tn_100, tn_116, tn_132, fu_e, up_eq, ob_0, ob_b, oi_add, oi_sub, oi_mul, oi_neg, Int.add_zero, Int.zero_add, or_true, true_or, or_false, false_or, and_self, z_i2l, z_l2i, lo_nat, lo_add, lo_sub, lo_mul, lo_0, e_rem, mr_X9_multiply, mh_X9_multiply, k0, c0, c1, c2, c3, c4, c5, c6, c7, c8, c9, c10, s0, s1, s2, s3, s4, s5, s6, s7, s8, s9, s10, s11, r6, r7, r8, r9, r10, r11, r12, r13, q2, q10, q11, b0, b1, b2, b3, b4, hjm]
  refine x_requireNoJam hCS hG (fun h5 => hn2 h (Or.inl h5) w hCS (FX.refl _ _)) (fun h5 => ?_)
  have hU3 := hC.2.2.2.1
  have hpr := pl_r 7 v0 0 v1 h.1 (Or.inl rfl)
  have g3 := hU3.1
  simp (disch := omega) only [wp_c, wp_n, jj_n, v_ct, Int.reduceToNat, Int.toNat_natCast, stE, wlE, lgt, lpu, lpw, v_c2, va_s, true_and, and_true, Option.toList, List.nil_append, List.cons_append, List.take, List.drop, List.reverse, List.reverseAux, List.length_cons, List.length_nil, reduceCtorEq, false_implies, true_implies, forall_const, not_true_eq_false, not_false_eq_true, ite_true, ite_false, Bool.false_eq_true, I_I, J_J, Nat.add_left_cancel_iff, Nat.reduceEqDiff, Nat.add_eq_left, Nat.left_eq_add, false_and, and_false, Nat.reduceSub, Nat.sub_self, Nat.le_refl, Nat.zero_le, ge_iff_le, Nat.reduceAdd, Nat.reduceLeDiff, Nat.zero_add, Nat.reduceLT, z_lt, z_le, z_eq, z_l0, z_g0, z_le0, z_ge0, z_e0, z_e1, z_vp, z_nc, z_rem, z_div, i_ltT, i_ltF, i_leT, i_leF, i_eqT, i_eqF, n_ltT, n_ltF, n_leT, n_leF, n_eqT, n_eqF, tn_9, tn_12, tn_14, tn_20, tn_28, tn_44, tn_52, tn_68, tn_84, tn_100, tn_116, tn_132, fu_e, up_eq, ob_0, ob_b, oi_add, oi_sub, oi_mul, oi_neg, Int.add_zero, Int.zero_add, or_true, true_or, or_false, false_or, and_self, z_i2l, z_l2i, lo_nat, lo_add, lo_sub, lo_mul, lo_0, e_rem, mr_X9_multiply, mh_X9_multiply, k0, c0, c1, c2, c3, c4, c5, c6, c7, c8, c9, c10, s0, s1, s2, s3, s4, s5, s6, s7, s8, s9, s10, s11, r6, r7, r8, r9, r10, r11, r12, r13, q2, q10, q11, b0, b1, b2, b3, b4, hjm, g3]
  refine c_plan h1 h hU3 fun w1 k1 k2 => ?_
  have fp : FX (fun a => a = 273 ∨ a = 274) w w1 := k2.toX (fun a ha => by simp at ha; exact ha)
  have hCS1 : CS w1 A Z Y X U := hCS.fx fp (fun a a1 a2 q => Or.inr q)
  have hfl : FX CL w w1 := fp.mono (fun a q => by unfold CL; omega)
  obtain ⟨hC1, hS1, hB1, hE1, hH1, hX1, hU1⟩ := id hCS1
  have hU31 := hC1.2.2.2.1
  have g31 := hU31.1
  obtain ⟨⟨k0', c0', c1', c2', c3', c4', c5', c6', c7', c8', c9', c10'⟩, -⟩ := id hC1
  have s0' := hS1.1.1
  have s0' := s0'.1
  simp (disch := omega) only [wp_c, wp_n, jj_n, v_ct, Int.reduceToNat, Int.toNat_natCast, stE, wlE, lgt, lpu, lpw, v_c2, va_s, true_and, and_true, Option.toList, List.nil_append, List.cons_append, List.take, List.drop, List.reverse, List.reverseAux, List.length_cons, List.length_nil, reduceCtorEq, false_implies, true_implies, forall_const, not_true_eq_false, not_false_eq_true, ite_true, ite_false, Bool.false_eq_true, I_I, J_J, Nat.add_left_cancel_iff, Nat.reduceEqDiff, Nat.add_eq_left, Nat.left_eq_add, false_and, and_false, Nat.reduceSub, Nat.sub_self, Nat.le_refl, Nat.zero_le, ge_iff_le, Nat.reduceAdd, Nat.reduceLeDiff, Nat.zero_add, Nat.reduceLT, z_lt, z_le, z_eq, z_l0, z_g0, z_le0, z_ge0, z_e0, z_e1, z_vp, z_nc, z_rem, z_div, i_ltT, i_ltF, i_leT, i_leF, i_eqT, i_eqF, n_ltT, n_ltF, n_leT, n_leF, n_eqT, n_eqF, tn_9, tn_12, tn_14, tn_20, tn_28, tn_44, tn_52, tn_68, tn_84, tn_100, tn_116, tn_132, fu_e, up_eq, ob_0, ob_b, oi_add, oi_sub, oi_mul, oi_neg, Int.add_zero, Int.zero_add, or_true, true_or, or_false, false_or, and_self, z_i2l, z_l2i, lo_nat, lo_add, lo_sub, lo_mul, lo_0, e_rem, mr_X9_multiply, mh_X9_multiply, k0', c0', c1', c2', c3', c4', c5', c6', c7', c8', c9', c10', s0', g31]
  refine c_fits (A := A) hpr.1 hU31 k1 hS1.1 hS1.2.1 (by omega) ?_
  simp (disch := omega) only [wp_c, wp_n, jj_n, v_ct, Int.reduceToNat, Int.toNat_natCast, stE, wlE, lgt, lpu, lpw, v_c2, va_s, true_and, and_true, Option.toList, List.nil_append, List.cons_append, List.take, List.drop, List.reverse, List.reverseAux, List.length_cons, List.length_nil, reduceCtorEq, false_implies, true_implies, forall_const, not_true_eq_false, not_false_eq_true, ite_true, ite_false, Bool.false_eq_true, I_I, J_J, Nat.add_left_cancel_iff, Nat.reduceEqDiff, Nat.add_eq_left, Nat.left_eq_add, false_and, and_false, Nat.reduceSub, Nat.sub_self, Nat.le_refl, Nat.zero_le, ge_iff_le, Nat.reduceAdd, Nat.reduceLeDiff, Nat.zero_add, Nat.reduceLT, z_lt, z_le, z_eq, z_l0, z_g0, z_le0, z_ge0, z_e0, z_e1, z_vp, z_nc, z_rem, z_div, i_ltT, i_ltF, i_leT, i_leF, i_eqT, i_eqF, n_ltT, n_ltF, n_leT, n_leF, n_eqT, n_eqF, tn_9, tn_12, tn_14, tn_20, tn_28, tn_44, tn_52, tn_68, tn_84, tn_100, tn_116, tn_132, fu_e, up_eq, ob_0, ob_b, oi_add, oi_sub, oi_mul, oi_neg, Int.add_zero, Int.zero_add, or_true, true_or, or_false, false_or, and_self, z_i2l, z_l2i, lo_nat, lo_add, lo_sub, lo_mul, lo_0, e_rem, mr_X9_multiply, mh_X9_multiply, k0']
  refine ⟨fun q => ?_, fun q => hn2 h (Or.inr (by omega)) w1 hCS1 hfl⟩
  have q : ((a_pl 7 v0 0 v1).length : Int) - 1 ≤ A 1 - A 0 := by omega
  have g51 := hC1.2.1.2.2.1
  refine rt_X9_multiply_41 ?_
  simp (disch := omega) only [wp_c, wp_n, jj_n, v_ct, Int.reduceToNat, Int.toNat_natCast, stE, wlE, lgt, lpu, lpw, v_c2, va_s, true_and, and_true, Option.toList, List.nil_append, List.cons_append, List.take, List.drop, List.reverse, List.reverseAux, List.length_cons, List.length_nil, reduceCtorEq, false_implies, true_implies, forall_const, not_true_eq_false, not_false_eq_true, ite_true, ite_false, Bool.false_eq_true, I_I, J_J, Nat.add_left_cancel_iff, Nat.reduceEqDiff, Nat.add_eq_left, Nat.left_eq_add, false_and, and_false, Nat.reduceSub, Nat.sub_self, Nat.le_refl, Nat.zero_le, ge_iff_le, Nat.reduceAdd, Nat.reduceLeDiff, Nat.zero_add, Nat.reduceLT, z_lt, z_le, z_eq, z_l0, z_g0, z_le0, z_ge0, z_e0, z_e1, z_vp, z_nc, z_rem, z_div, i_ltT, i_ltF, i_leT, i_leF, i_eqT, i_eqF, n_ltT, n_ltF, n_leT, n_leF, n_eqT, n_eqF, tn_9, tn_12, tn_14, tn_20, tn_28, tn_44, tn_52, tn_68, tn_84, tn_100, tn_116, tn_132, fu_e, up_eq, ob_0, ob_b, oi_add, oi_sub, oi_mul, oi_neg, Int.add_zero, Int.zero_add, or_true, true_or, or_false, false_or, and_self, z_i2l, z_l2i, lo_nat, lo_add, lo_sub, lo_mul, lo_0, e_rem, mr_X9_multiply, mh_X9_multiply, k0', c0', c2', g51, s0']
  refine c_keep hC1 hH1 hS1 hJ (by omega) fun w2 n1 n2 => ?_
  have hS2 := hS1.frB n2 (by omega)
  have hC2 := hC1.fr n2
  have hP2 : PL w2 273 (a_pl 7 v0 0 v1) := ⟨by rw [n2.cI 273 (by omega)]; exact k1.1, fun i hi => by rw [n2.cI 274 (by omega)]; exact k1.2 i hi⟩
  obtain ⟨⟨k0'', c0'', c1'', c2'', c3'', c4'', c5'', c6'', c7'', c8'', c9'', c10''⟩, -⟩ := id hC2
  have s0'' := hS2.1.1.1
  have g32 := hC2.2.2.2.1.1
  simp (disch := omega) only [wp_c, wp_n, jj_n, v_ct, Int.reduceToNat, Int.toNat_natCast, stE, wlE, lgt, lpu, lpw, v_c2, va_s, true_and, and_true, Option.toList, List.nil_append, List.cons_append, List.take, List.drop, List.reverse, List.reverseAux, List.length_cons, List.length_nil, reduceCtorEq, false_implies, true_implies, forall_const, not_true_eq_false, not_false_eq_true, ite_true, ite_false, Bool.false_eq_true, I_I, J_J, Nat.add_left_cancel_iff, Nat.reduceEqDiff, Nat.add_eq_left, Nat.left_eq_add, false_and, and_false, Nat.reduceSub, Nat.sub_self, Nat.le_refl, Nat.zero_le, ge_iff_le, Nat.reduceAdd, Nat.reduceLeDiff, Nat.zero_add, Nat.reduceLT, z_lt, z_le, z_eq, z_l0, z_g0, z_le0, z_ge0, z_e0, z_e1, z_vp, z_nc, z_rem, z_div, i_ltT, i_ltF, i_leT, i_leF, i_eqT, i_eqF, n_ltT, n_ltF, n_leT, n_leF, n_eqT, n_eqF, tn_9, tn_12, tn_14, tn_20, tn_28, tn_44, tn_52, tn_68, tn_84, tn_100, tn_116, tn_132, fu_e, up_eq, ob_0, ob_b, oi_add, oi_sub, oi_mul, oi_neg, Int.add_zero, Int.zero_add, or_true, true_or, or_false, false_or, and_self, z_i2l, z_l2i, lo_nat, lo_add, lo_sub, lo_mul, lo_0, e_rem, mr_X9_multiply, mh_X9_multiply, k0'', c0'', c5'', g32, s0'']
  have hin : ∀ i, -999 ≤ (a_pl 7 v0 0 v1).getD i 0 ∧ (a_pl 7 v0 0 v1).getD i 0 ≤ 999 := fun i => by have := pl_g 7 v0 v1 h.1 i; omega
  refine c_runOn (by omega) hpr.1 hin hS2 hG.1 (hG.free h5).1 q hC2.2.2.2.1 hP2 fun w3 n3 n4 => ?_
  simp (disch := omega) only [wp_c, wp_n, jj_n, v_ct, Int.reduceToNat, Int.toNat_natCast, stE, wlE, lgt, lpu, lpw, v_c2, va_s, true_and, and_true, Option.toList, List.nil_append, List.cons_append, List.take, List.drop, List.reverse, List.reverseAux, List.length_cons, List.length_nil, reduceCtorEq, false_implies, true_implies, forall_const, not_true_eq_false, not_false_eq_true, ite_true, ite_false, Bool.false_eq_true, I_I, J_J, Nat.add_left_cancel_iff, Nat.reduceEqDiff, Nat.add_eq_left, Nat.left_eq_add, false_and, and_false, Nat.reduceSub, Nat.sub_self, Nat.le_refl, Nat.zero_le, ge_iff_le, Nat.reduceAdd, Nat.reduceLeDiff, Nat.zero_add, Nat.reduceLT, z_lt, z_le, z_eq, z_l0, z_g0, z_le0, z_ge0, z_e0, z_e1, z_vp, z_nc, z_rem, z_div, i_ltT, i_ltF, i_leT, i_leF, i_eqT, i_eqF, n_ltT, n_ltF, n_leT, n_leF, n_eqT, n_eqF, tn_9, tn_12, tn_14, tn_20, tn_28, tn_44, tn_52, tn_68, tn_84, tn_100, tn_116, tn_132, fu_e, up_eq, ob_0, ob_b, oi_add, oi_sub, oi_mul, oi_neg, Int.add_zero, Int.zero_add, or_true, true_or, or_false, false_or, and_self, z_i2l, z_l2i, lo_nat, lo_add, lo_sub, lo_mul, lo_0, e_rem, mr_X9_multiply, mh_X9_multiply, k0'']
  obtain ⟨m1, m2⟩ := hCS1.ch n1 n2 n3 n4
  exact hq h (by omega) _ m1 (hfl.trans m2)
theorem x_turnsFor {w : mW} {A : Row} {Z : Zx} {Y : Yx} {X : Xx} {U : Ux} {Q : mW → mO → Prop} {v0 : Int} (h0 : -2147483648 ≤ v0 ∧ v0 ≤ 2147483647) {v1 : Int} (h1 : v1 = 0 ∨ v1 = 1) (hS : CS w A Z Y X U) (hG : GR A) (hn1 : ¬ (0 ≤ v0 ∧ v0 ≤ 999999) → Q w (.inr 1)) (hq : (0 ≤ v0 ∧ v0 ≤ 999999) → ∀ w', CS w' A Z Y X U → FX CL w w' → Q w' (.inl (some (.int (Int32.ofInt (a_tt (a_pl 7 v0 0 v1) (a_pl 7 v0 0 v1).length)))))) : CT n_X9_turnsFor [.ref 100, .int (Int32.ofInt v0), .int (Int32.ofInt v1)] w Q := by
  have hCS := hS
  obtain ⟨hC, hS, hB, hE, hH, hX, hU⟩ := hS
  have hz := hG.sz
  have hS0 := hS
  have hJ := hG.1.1
  obtain ⟨⟨k0, c0, c1, c2, c3, c4, c5, c6, c7, c8, c9, c10⟩, -⟩ := id hC
  obtain ⟨⟨s0, s1, s2, s3, s4, s5, s6, s7, s8, s9, s10, s11⟩, r6, r7, r8, r9, r10, r11, r12, r13, q2, q10, q11⟩ := hS.1
  simp only [Nat.reduceAdd] at s0 s1 s2 s3 s4 s5 s6 s7 s8 s9 s10 s11 r6 r7 r8 r9 r10 r11 r12 r13 q2 q10 q11
  obtain ⟨⟨b0, b1, b2, b3, b4⟩, -⟩ := id hS.2.1
  have hjm := hS.jam
  simp only [Nat.reduceAdd] at hjm
  have hK := hC
  have g5 := hC.2.1.2.2.1
  refine ct_X9_turnsFor (rt_X9_turnsFor_0 ?_)
  simp (disch := omega) only [wp_c, wp_n, jj_n, v_ct, Int.reduceToNat, Int.toNat_natCast, stE, wlE, lgt, lpu, lpw, v_c2, va_s, true_and, and_true, Option.toList, List.nil_append, List.cons_append, List.take, List.drop, List.reverse, List.reverseAux, List.length_cons, List.length_nil, reduceCtorEq, false_implies, true_implies, forall_const, not_true_eq_false, not_false_eq_true, ite_true, ite_false, Bool.false_eq_true, I_I, J_J, Nat.add_left_cancel_iff, Nat.reduceEqDiff, Nat.add_eq_left, Nat.left_eq_add, false_and, and_false, Nat.reduceSub, Nat.sub_self, Nat.le_refl, Nat.zero_le, ge_iff_le, Nat.reduceAdd, Nat.reduceLeDiff, Nat.zero_add, Nat.reduceLT, z_lt, z_le, z_eq, z_l0, z_g0, z_le0, z_ge0, z_e0, z_e1, z_vp, z_nc, z_rem, z_div, i_ltT, i_ltF, i_leT, i_leF, i_eqT, i_eqF, n_ltT, n_ltF, n_leT, n_leF, n_eqT, n_eqF, tn_9, tn_12, tn_14, tn_20, tn_28, tn_44, tn_52, tn_68, tn_84, tn_100, tn_116, tn_132, fu_e, up_eq, ob_0, ob_b, oi_add, oi_sub, oi_mul, oi_neg, Int.add_zero, Int.zero_add, or_true, true_or, or_false, false_or, and_self, z_i2l, z_l2i, lo_nat, lo_add, lo_sub, lo_mul, lo_0, e_rem, mr_X9_turnsFor, mh_X9_turnsFor, k0, c0, c1, c2, c3, c4, c5, c6, c7, c8, c9, c10, s0, s1, s2, s3, s4, s5, s6, s7, s8, s9, s10, s11, r6, r7, r8, r9, r10, r11, r12, r13, q2, q10, q11, b0, b1, b2, b3, b4, hjm]
  refine x_requireFactor h0 hCS hG (fun h => hn1 h) (fun h => ?_)
  have hU3 := hC.2.2.2.1
  have hpr := pl_r 7 v0 0 v1 h.1 (Or.inl rfl)
  have g3 := hU3.1
  simp (disch := omega) only [wp_c, wp_n, jj_n, v_ct, Int.reduceToNat, Int.toNat_natCast, stE, wlE, lgt, lpu, lpw, v_c2, va_s, true_and, and_true, Option.toList, List.nil_append, List.cons_append, List.take, List.drop, List.reverse, List.reverseAux, List.length_cons, List.length_nil, reduceCtorEq, false_implies, true_implies, forall_const, not_true_eq_false, not_false_eq_true, ite_true, ite_false, Bool.false_eq_true, I_I, J_J, Nat.add_left_cancel_iff, Nat.reduceEqDiff, Nat.add_eq_left, Nat.left_eq_add, false_and, and_false, Nat.reduceSub, Nat.sub_self, Nat.le_refl, Nat.zero_le, ge_iff_le, Nat.reduceAdd, Nat.reduceLeDiff, Nat.zero_add, Nat.reduceLT, z_lt, z_le, z_eq, z_l0, z_g0, z_le0, z_ge0, z_e0, z_e1, z_vp, z_nc, z_rem, z_div, i_ltT, i_ltF, i_leT, i_leF, i_eqT, i_eqF, n_ltT, n_ltF, n_leT, n_leF, n_eqT, n_eqF, tn_9, tn_12, tn_14, tn_20, tn_28, tn_44, tn_52, tn_68, tn_84, tn_100, tn_116, tn_132, fu_e, up_eq, ob_0, ob_b, oi_add, oi_sub, oi_mul, oi_neg, Int.add_zero, Int.zero_add, or_true, true_or, or_false, false_or, and_self, z_i2l, z_l2i, lo_nat, lo_add, lo_sub, lo_mul, lo_0, e_rem, mr_X9_turnsFor, mh_X9_turnsFor, k0, c0, c1, c2, c3, c4, c5, c6, c7, c8, c9, c10, s0, s1, s2, s3, s4, s5, s6, s7, s8, s9, s10, s11, r6, r7, r8, r9, r10, r11, r12, r13, q2, q10, q11, b0, b1, b2, b3, b4, hjm, g3]
  refine c_plan h1 h hU3 fun w1 k1 k2 => ?_
  have fp : FX (fun a => a = 273 ∨ a = 274) w w1 := k2.toX (fun a ha => by simp at ha; exact ha)
  have hCS1 : CS w1 A Z Y X U := hCS.fx fp (fun a a1 a2 q => Or.inr q)
  have hfl : FX CL w w1 := fp.mono (fun a q => by unfold CL; omega)
  have hC1 := hCS1.1
  have g31 := hC1.2.2.2.1.1
  obtain ⟨⟨k0', c0', c1', c2', c3', c4', c5', -⟩, -⟩ := id hC1
  simp (disch := omega) only [wp_c, wp_n, jj_n, v_ct, Int.reduceToNat, Int.toNat_natCast, stE, wlE, lgt, lpu, lpw, v_c2, va_s, true_and, and_true, Option.toList, List.nil_append, List.cons_append, List.take, List.drop, List.reverse, List.reverseAux, List.length_cons, List.length_nil, reduceCtorEq, false_implies, true_implies, forall_const, not_true_eq_false, not_false_eq_true, ite_true, ite_false, Bool.false_eq_true, I_I, J_J, Nat.add_left_cancel_iff, Nat.reduceEqDiff, Nat.add_eq_left, Nat.left_eq_add, false_and, and_false, Nat.reduceSub, Nat.sub_self, Nat.le_refl, Nat.zero_le, ge_iff_le, Nat.reduceAdd, Nat.reduceLeDiff, Nat.zero_add, Nat.reduceLT, z_lt, z_le, z_eq, z_l0, z_g0, z_le0, z_ge0, z_e0, z_e1, z_vp, z_nc, z_rem, z_div, i_ltT, i_ltF, i_leT, i_leF, i_eqT, i_eqF, n_ltT, n_ltF, n_leT, n_leF, n_eqT, n_eqF, tn_9, tn_12, tn_14, tn_20, tn_28, tn_44, tn_52, tn_68, tn_84, tn_100, tn_116, tn_132, fu_e, up_eq, ob_0, ob_b, oi_add, oi_sub, oi_mul, oi_neg, Int.add_zero, Int.zero_add, or_true, true_or, or_false, false_or, and_self, z_i2l, z_l2i, lo_nat, lo_add, lo_sub, lo_mul, lo_0, e_rem, mr_X9_turnsFor, mh_X9_turnsFor, k0', c5', g31]
  refine c_turnTotal hpr.1 hC1.2.2.2.1 k1 (fun i => by have := pl_g 7 v0 v1 h.1 i; exact ⟨by omega, by omega⟩) ?_
  simp (disch := omega) only [wp_c, wp_n, jj_n, v_ct, Int.reduceToNat, Int.toNat_natCast, stE, wlE, lgt, lpu, lpw, v_c2, va_s, true_and, and_true, Option.toList, List.nil_append, List.cons_append, List.take, List.drop, List.reverse, List.reverseAux, List.length_cons, List.length_nil, reduceCtorEq, false_implies, true_implies, forall_const, not_true_eq_false, not_false_eq_true, ite_true, ite_false, Bool.false_eq_true, I_I, J_J, Nat.add_left_cancel_iff, Nat.reduceEqDiff, Nat.add_eq_left, Nat.left_eq_add, false_and, and_false, Nat.reduceSub, Nat.sub_self, Nat.le_refl, Nat.zero_le, ge_iff_le, Nat.reduceAdd, Nat.reduceLeDiff, Nat.zero_add, Nat.reduceLT, z_lt, z_le, z_eq, z_l0, z_g0, z_le0, z_ge0, z_e0, z_e1, z_vp, z_nc, z_rem, z_div, i_ltT, i_ltF, i_leT, i_leF, i_eqT, i_eqF, n_ltT, n_ltF, n_leT, n_leF, n_eqT, n_eqF, tn_9, tn_12, tn_14, tn_20, tn_28, tn_44, tn_52, tn_68, tn_84, tn_100, tn_116, tn_132, fu_e, up_eq, ob_0, ob_b, oi_add, oi_sub, oi_mul, oi_neg, Int.add_zero, Int.zero_add, or_true, true_or, or_false, false_or, and_self, z_i2l, z_l2i, lo_nat, lo_add, lo_sub, lo_mul, lo_0, e_rem, mr_X9_turnsFor, mh_X9_turnsFor, k0']
  exact hq h _ hCS1 hfl
theorem x_truncate {w : mW} {A : Row} {Z : Zx} {Y : Yx} {X : Xx} {U : Ux} {Q : mW → mO → Prop} {v0 : Int} (h0 : -2147483648 ≤ v0 ∧ v0 ≤ 2147483647)  (hS : CS w A Z Y X U) (hG : GR A) (hn1 : ¬ (0 ≤ v0 ∧ v0 ≤ Z.2.1) → Q w (.inr 1)) (hq : (0 ≤ v0 ∧ v0 ≤ Z.2.1) → ∀ w', CS w' A (Z.1, v0.toNat, Z.2.2) Y X U → FX CL w w' → Q w' (.inl (some (.int (Int32.ofInt v0))))) : CT n_X9_truncate [.ref 100, .int (Int32.ofInt v0)] w Q := by
  have hCS := hS
  obtain ⟨hC, hS, hB, hE, hH, hX, hU⟩ := hS
  have hz := hG.sz
  have hS0 := hS
  have hJ := hG.1.1
  obtain ⟨⟨k0, c0, c1, c2, c3, c4, c5, c6, c7, c8, c9, c10⟩, -⟩ := id hC
  obtain ⟨⟨s0, s1, s2, s3, s4, s5, s6, s7, s8, s9, s10, s11⟩, r6, r7, r8, r9, r10, r11, r12, r13, q2, q10, q11⟩ := hS.1
  simp only [Nat.reduceAdd] at s0 s1 s2 s3 s4 s5 s6 s7 s8 s9 s10 s11 r6 r7 r8 r9 r10 r11 r12 r13 q2 q10 q11
  obtain ⟨⟨b0, b1, b2, b3, b4⟩, -⟩ := id hS.2.1
  have hjm := hS.jam
  simp only [Nat.reduceAdd] at hjm
  have hK := hC
  have g5 := hC.2.2.2.2.1.1
  have hn := hB.1
  have hb0 := hB.2.1
  refine ct_X9_truncate (rt_X9_truncate_0 ?_)
  by_cases h : 0 ≤ v0 ∧ v0 ≤ Z.2.1
  · simp (disch := omega) only [wp_c, wp_n, jj_n, v_ct, Int.reduceToNat, Int.toNat_natCast, stE, wlE, lgt, lpu, lpw, v_c2, va_s, true_and, and_true, Option.toList, List.nil_append, List.cons_append, List.take, List.drop, List.reverse, List.reverseAux, List.length_cons, List.length_nil, reduceCtorEq, false_implies, true_implies, forall_const, not_true_eq_false, not_false_eq_true, ite_true, ite_false, Bool.false_eq_true, I_I, J_J, Nat.add_left_cancel_iff, Nat.reduceEqDiff, Nat.add_eq_left, Nat.left_eq_add, false_and, and_false, Nat.reduceSub, Nat.sub_self, Nat.le_refl, Nat.zero_le, ge_iff_le, Nat.reduceAdd, Nat.reduceLeDiff, Nat.zero_add, Nat.reduceLT, z_lt, z_le, z_eq, z_l0, z_g0, z_le0, z_ge0, z_e0, z_e1, z_vp, z_nc, z_rem, z_div, i_ltT, i_ltF, i_leT, i_leF, i_eqT, i_eqF, n_ltT, n_ltF, n_leT, n_leF, n_eqT, n_eqF, tn_9, tn_12, tn_14, tn_20, tn_28, tn_44, tn_52, tn_68, tn_84, tn_100, tn_116, tn_132, fu_e, up_eq, ob_0, ob_b, oi_add, oi_sub, oi_mul, oi_neg, Int.add_zero, Int.zero_add, or_true, true_or, or_false, false_or, and_self, z_i2l, z_l2i, lo_nat, lo_add, lo_sub, lo_mul, lo_0, e_rem, mr_X9_truncate, mh_X9_truncate, k0, c0, c1, c2, c3, c4, c5, c6, c7, c8, c9, c10, s0, s1, s2, s3, s4, s5, s6, s7, s8, s9, s10, s11, r6, r7, r8, r9, r10, r11, r12, r13, q2, q10, q11, b0, b1, b2, b3, b4, hjm, g5, hb0]
    refine rt_X9_truncate_25 ?_
    simp (disch := omega) only [wp_c, wp_n, jj_n, v_ct, Int.reduceToNat, Int.toNat_natCast, stE, wlE, lgt, lpu, lpw, v_c2, va_s, true_and, and_true, Option.toList, List.nil_append, List.cons_append, List.take, List.drop, List.reverse, List.reverseAux, List.length_cons, List.length_nil, reduceCtorEq, false_implies, true_implies, forall_const, not_true_eq_false, not_false_eq_true, ite_true, ite_false, Bool.false_eq_true, I_I, J_J, Nat.add_left_cancel_iff, Nat.reduceEqDiff, Nat.add_eq_left, Nat.left_eq_add, false_and, and_false, Nat.reduceSub, Nat.sub_self, Nat.le_refl, Nat.zero_le, ge_iff_le, Nat.reduceAdd, Nat.reduceLeDiff, Nat.zero_add, Nat.reduceLT, z_lt, z_le, z_eq, z_l0, z_g0, z_le0, z_ge0, z_e0, z_e1, z_vp, z_nc, z_rem, z_div, i_ltT, i_ltF, i_leT, i_leF, i_eqT, i_eqF, n_ltT, n_ltF, n_leT, n_leF, n_eqT, n_eqF, tn_9, tn_12, tn_14, tn_20, tn_28, tn_44, tn_52, tn_68, tn_84, tn_100, tn_116, tn_132, fu_e, up_eq, ob_0, ob_b, oi_add, oi_sub, oi_mul, oi_neg, Int.add_zero, Int.zero_add, or_true, true_or, or_false, false_or, and_self, z_i2l, z_l2i, lo_nat, lo_add, lo_sub, lo_mul, lo_0, e_rem, mr_X9_truncate, mh_X9_truncate, k0, c0, c1, c2, c3, c4, c5, c6, c7, c8, c9, c10, s0, s1, s2, s3, s4, s5, s6, s7, s8, s9, s10, s11, r6, r7, r8, r9, r10, r11, r12, r13, q2, q10, q11, b0, b1, b2, b3, b4, hjm, g5, hb0]
    have f : FX (fun a => a = 275) w (s_I w 275 0 (Int32.ofInt v0)) := (FX.refl _ w).I rfl
    refine hq h _ ⟨hC.fx f, hS.fx f (fun a a1 a2 => by omega), ⟨?_, ?_, fun i hi => ?_⟩, hE.fx f (by omega), hH.fx f (fun a a1 a2 => by omega), hX.fx f (by omega) (fun a a1 a2 => by omega), hU.fx f (by omega) (by omega)⟩ (f.mono (fun a q => by unfold CL; omega))
    · show v0.toNat ≤ 900
      omega
    · simp only [wp_c, wp_n, jj_n, v_ct, Int.reduceToNat, Int.toNat_natCast, stE, wlE, lgt, lpu, lpw, v_c2, va_s, true_and, and_true, Option.toList, List.nil_append, List.cons_append, List.take, List.drop, List.reverse, List.reverseAux, List.length_cons, List.length_nil, reduceCtorEq, false_implies, true_implies, forall_const, not_true_eq_false, not_false_eq_true, ite_true, ite_false, Bool.false_eq_true, I_I, J_J, Nat.add_left_cancel_iff, Nat.reduceEqDiff, Nat.add_eq_left, Nat.left_eq_add, false_and, and_false, Nat.reduceSub, Nat.sub_self, Nat.le_refl, Nat.zero_le, ge_iff_le, Nat.reduceAdd, Nat.reduceLeDiff, Nat.zero_add, Nat.reduceLT]
      congr 1
      show v0 = ((v0.toNat : Nat) : Int)
      omega
    · have hi : i < v0.toNat := hi
      rw [(f.2.2.2 276 (by omega)).1]
      exact hB.2.2 i (by omega)
  · simp (disch := omega) only [wp_c, wp_n, jj_n, v_ct, Int.reduceToNat, Int.toNat_natCast, stE, wlE, lgt, lpu, lpw, v_c2, va_s, true_and, and_true, Option.toList, List.nil_append, List.cons_append, List.take, List.drop, List.reverse, List.reverseAux, List.length_cons, List.length_nil, reduceCtorEq, false_implies, true_implies, forall_const, not_true_eq_false, not_false_eq_true, ite_true, ite_false, Bool.false_eq_true, I_I, J_J, Nat.add_left_cancel_iff, Nat.reduceEqDiff, Nat.add_eq_left, Nat.left_eq_add, false_and, and_false, Nat.reduceSub, Nat.sub_self, Nat.le_refl, Nat.zero_le, ge_iff_le, Nat.reduceAdd, Nat.reduceLeDiff, Nat.zero_add, Nat.reduceLT, z_lt, z_le, z_eq, z_l0, z_g0, z_le0, z_ge0, z_e0, z_e1, z_vp, z_nc, z_rem, z_div, i_ltT, i_ltF, i_leT, i_leF, i_eqT, i_eqF, n_ltT, n_ltF, n_leT, n_leF, n_eqT, n_eqF, tn_9, tn_12, tn_14, tn_20, tn_28, tn_44, tn_52, tn_68, tn_84, tn_100, tn_116, tn_132, fu_e, up_eq, ob_0, ob_b, oi_add, oi_sub, oi_mul, oi_neg, Int.add_zero, Int.zero_add, or_true, true_or, or_false, false_or, and_self, z_i2l, z_l2i, lo_nat, lo_add, lo_sub, lo_mul, lo_0, e_rem, mr_X9_truncate, mh_X9_truncate, k0, c0, c1, c2, c3, c4, c5, c6, c7, c8, c9, c10, s0, s1, s2, s3, s4, s5, s6, s7, s8, s9, s10, s11, r6, r7, r8, r9, r10, r11, r12, r13, q2, q10, q11, b0, b1, b2, b3, b4, hjm, g5, hb0]
    repeat' (first | (with_reducible refine And.intro ?_ ?_) | (with_reducible intro _) | ((first | refine rt_X9_truncate_15 ?_); simp (disch := omega) only [wp_c, wp_n, jj_n, v_ct, Int.reduceToNat, Int.toNat_natCast, stE, wlE, lgt, lpu, lpw, v_c2, va_s, true_and, and_true, Option.toList, List.nil_append, List.cons_append, List.take, List.drop, List.reverse, List.reverseAux, List.length_cons, List.length_nil, reduceCtorEq, false_implies, true_implies, forall_const, not_true_eq_false, not_false_eq_true, ite_true, ite_false, Bool.false_eq_true, I_I, J_J, Nat.add_left_cancel_iff, Nat.reduceEqDiff, Nat.add_eq_left, Nat.left_eq_add, false_and, and_false, Nat.reduceSub, Nat.sub_self, Nat.le_refl, Nat.zero_le, ge_iff_le, Nat.reduceAdd, Nat.reduceLeDiff, Nat.zero_add, Nat.reduceLT, z_lt, z_le, z_eq, z_l0, z_g0, z_le0, z_ge0, z_e0, z_e1, z_vp, z_nc, z_rem, z_div, i_ltT, i_ltF, i_leT, i_leF, i_eqT, i_eqF, n_ltT, n_ltF, n_leT, n_leF, n_eqT, n_eqF, tn_9, tn_12, tn_14, tn_20, tn_28, tn_44, tn_52, tn_68, tn_84, tn_100, tn_116, tn_132, fu_e, up_eq, ob_0, ob_b, oi_add, oi_sub, oi_mul, oi_neg, Int.add_zero, Int.zero_add, or_true, true_or, or_false, false_or, and_self, z_i2l, z_l2i, lo_nat, lo_add, lo_sub, lo_mul, lo_0, e_rem, mr_X9_truncate, mh_X9_truncate, k0, c0, c1, c2, c3, c4, c5, c6, c7, c8, c9, c10, s0, s1, s2, s3, s4, s5, s6, s7, s8, s9, s10, s11, r6, r7, r8, r9, r10, r11, r12, r13, q2, q10, q11, b0, b1, b2, b3, b4, hjm, g5, hb0]))
    all_goals first | (exfalso; omega) | exact hn1 h
/-! the class's buffer and text -/
theorem nar_8 (y : Int32) : vp_nar .byte (y.toInt8.toInt32) = Int32.ofInt (sgb (y.toInt % 256)) := by
  have e : vp_nar .byte (y.toInt8.toInt32) = y.toInt8.toInt32 := by
    show (y.toInt8.toInt32).toInt8.toInt32 = _
    rw [Int8.toInt8_toInt32]
  have hb := sgb_b (v := y.toInt % 256) ⟨by omega, by omega⟩
  rw [e, ← Int32.toInt_inj, Int8.toInt_toInt32, Int32.toInt_toInt8, Int32.toInt_ofInt_of_le (by omega) (by omega)]
  unfold sgb
  rw [Int.bmod_def]
  rfl
theorem nar_s {v : Int} (h : 0 ≤ v) (h2 : v ≤ 127) : vp_nar .byte ((Int32.ofInt v).toInt8.toInt32) = Int32.ofInt v := by
  rw [nar_8, oi_to ⟨by omega, by omega⟩, show v % 256 = v by omega]
  unfold sgb
  rw [if_pos (by omega)]
theorem IB.c {w : mW} {f g : Nat → Int} {n : Nat} (h : IB w f n) (e : ∀ i, i < n → g i = f i) : IB w g n := ⟨h.1, h.2.1, fun i hi => by rw [e i hi]; exact h.2.2 i hi⟩
def I2 (a : Nat) : Prop := a = 275 ∨ a = 276
theorem c_addByte {f : Nat → Int} {n : Nat} {y : Int32} {w : mW} {Q : mW → mO → Prop} (hT : TB w) (hB : IB w f n) (hn : n < 900) (hq : ∀ w', IB w' (fun i => if i = n then y.toInt % 256 else f i) (n + 1) → FX I2 w w' → Q w' (.inl none)) : CT n_X1_addByte [.ref 275, .int y] w Q := by
  obtain ⟨⟨s5, r5, s6⟩, -⟩ := hT
  obtain ⟨h1, b0, b1⟩ := hB
  refine ct_X1_addByte (rt_X1_addByte_0 ?_)
  simp (disch := omega) only [wp_c, wp_n, jj_n, v_ct, Int.reduceToNat, Int.toNat_natCast, stE, wlE, lgt, lpu, lpw, v_c2, va_s, true_and, and_true, Option.toList, List.nil_append, List.cons_append, List.take, List.drop, List.reverse, List.reverseAux, List.length_cons, List.length_nil, reduceCtorEq, false_implies, true_implies, forall_const, not_true_eq_false, not_false_eq_true, ite_true, ite_false, Bool.false_eq_true, I_I, J_J, Nat.add_left_cancel_iff, Nat.reduceEqDiff, Nat.add_eq_left, Nat.left_eq_add, false_and, and_false, Nat.reduceSub, Nat.sub_self, Nat.le_refl, Nat.zero_le, ge_iff_le, Nat.reduceAdd, Nat.reduceLeDiff, Nat.zero_add, Nat.reduceLT, z_lt, z_le, z_eq, z_l0, z_g0, z_le0, z_ge0, z_e0, z_e1, z_vp, z_nc, z_rem, z_div, i_ltT, i_ltF, i_leT, i_leF, i_eqT, i_eqF, n_ltT, n_ltF, n_leT, n_leF, n_eqT, n_eqF, tn_9, tn_12, tn_14, tn_20, tn_28, tn_44, tn_52, tn_68, tn_84, tn_100, tn_116, tn_132, fu_e, up_eq, ob_0, ob_b, oi_add, oi_sub, oi_mul, oi_neg, Int.add_zero, Int.zero_add, or_true, true_or, or_false, false_or, and_self, z_i2l, z_l2i, lo_nat, lo_add, lo_sub, lo_mul, lo_0, e_rem, mr_X1_addByte, mh_X1_addByte, s5, r5, s6, b0, nar_8, Int.toNat_natCast]
  refine rt_X1_addByte_31 ?_
  simp (disch := omega) only [wp_c, wp_n, jj_n, v_ct, Int.reduceToNat, Int.toNat_natCast, stE, wlE, lgt, lpu, lpw, v_c2, va_s, true_and, and_true, Option.toList, List.nil_append, List.cons_append, List.take, List.drop, List.reverse, List.reverseAux, List.length_cons, List.length_nil, reduceCtorEq, false_implies, true_implies, forall_const, not_true_eq_false, not_false_eq_true, ite_true, ite_false, Bool.false_eq_true, I_I, J_J, Nat.add_left_cancel_iff, Nat.reduceEqDiff, Nat.add_eq_left, Nat.left_eq_add, false_and, and_false, Nat.reduceSub, Nat.sub_self, Nat.le_refl, Nat.zero_le, ge_iff_le, Nat.reduceAdd, Nat.reduceLeDiff, Nat.zero_add, Nat.reduceLT, z_lt, z_le, z_eq, z_l0, z_g0, z_le0, z_ge0, z_e0, z_e1, z_vp, z_nc, z_rem, z_div, i_ltT, i_ltF, i_leT, i_leF, i_eqT, i_eqF, n_ltT, n_ltF, n_leT, n_leF, n_eqT, n_eqF, tn_9, tn_12, tn_14, tn_20, tn_28, tn_44, tn_52, tn_68, tn_84, tn_100, tn_116, tn_132, fu_e, up_eq, ob_0, ob_b, oi_add, oi_sub, oi_mul, oi_neg, Int.add_zero, Int.zero_add, or_true, true_or, or_false, false_or, and_self, z_i2l, z_l2i, lo_nat, lo_add, lo_sub, lo_mul, lo_0, e_rem, mr_X1_addByte, mh_X1_addByte, s5]
  have f1 : FX I2 w (s_I (s_I w 276 n (Int32.ofInt (sgb (y.toInt % 256)))) 275 0 (Int32.ofInt ((n : Int) + 1))) := ((FX.refl I2 w).I (Or.inr rfl)).I (Or.inl rfl)
  refine hq _ ⟨by omega, by simp only [wp_c, wp_n, jj_n, v_ct, Int.reduceToNat, Int.toNat_natCast, stE, wlE, lgt, lpu, lpw, v_c2, va_s, true_and, and_true, Option.toList, List.nil_append, List.cons_append, List.take, List.drop, List.reverse, List.reverseAux, List.length_cons, List.length_nil, reduceCtorEq, false_implies, true_implies, forall_const, not_true_eq_false, not_false_eq_true, ite_true, ite_false, Bool.false_eq_true, I_I, J_J, Nat.add_left_cancel_iff, Nat.reduceEqDiff, Nat.add_eq_left, Nat.left_eq_add, false_and, and_false, Nat.reduceSub, Nat.sub_self, Nat.le_refl, Nat.zero_le, ge_iff_le, Nat.reduceAdd, Nat.reduceLeDiff, Nat.zero_add, Nat.reduceLT]; rfl, fun i hi => ?_⟩ f1
  simp only [wp_c, wp_n, jj_n, v_ct, Int.reduceToNat, Int.toNat_natCast, stE, wlE, lgt, lpu, lpw, v_c2, va_s, true_and, and_true, Option.toList, List.nil_append, List.cons_append, List.take, List.drop, List.reverse, List.reverseAux, List.length_cons, List.length_nil, reduceCtorEq, false_implies, true_implies, forall_const, not_true_eq_false, not_false_eq_true, ite_true, ite_false, Bool.false_eq_true, I_I, J_J, Nat.add_left_cancel_iff, Nat.reduceEqDiff, Nat.add_eq_left, Nat.left_eq_add, false_and, and_false, Nat.reduceSub, Nat.sub_self, Nat.le_refl, Nat.zero_le, ge_iff_le, Nat.reduceAdd, Nat.reduceLeDiff, Nat.zero_add, Nat.reduceLT]
  by_cases e : i = n
  · rw [if_pos e, if_pos e]; exact ⟨rfl, by omega, by omega⟩
  · rw [if_neg e, if_neg e]; exact b1 i (by omega)
theorem c_addNumber {f : Nat → Int} {n : Nat} {x : Int32} {w : mW} {Q : mW → mO → Prop} (hT : TB w) (hB : IB w f n) (hn : n + 4 ≤ 900) (hq : ∀ w', IB w' (ap4 f n x) (n + 4) → FX I2 w w' → Q w' (.inl none)) : CT n_X1_addNumber [.ref 275, .int x] w Q := by
  have s5 := hT.1.1
  refine ct_X1_addNumber (rt_X1_addNumber_0 ?_)
  simp (disch := omega) only [wp_c, wp_n, jj_n, v_ct, Int.reduceToNat, Int.toNat_natCast, stE, wlE, lgt, lpu, lpw, v_c2, va_s, true_and, and_true, Option.toList, List.nil_append, List.cons_append, List.take, List.drop, List.reverse, List.reverseAux, List.length_cons, List.length_nil, reduceCtorEq, false_implies, true_implies, forall_const, not_true_eq_false, not_false_eq_true, ite_true, ite_false, Bool.false_eq_true, I_I, J_J, Nat.add_left_cancel_iff, Nat.reduceEqDiff, Nat.add_eq_left, Nat.left_eq_add, false_and, and_false, Nat.reduceSub, Nat.sub_self, Nat.le_refl, Nat.zero_le, ge_iff_le, Nat.reduceAdd, Nat.reduceLeDiff, Nat.zero_add, Nat.reduceLT, z_lt, z_le, z_eq, z_l0, z_g0, z_le0, z_ge0, z_e0, z_e1, z_vp, z_nc, z_rem, z_div, i_ltT, i_ltF, i_leT, i_leF, i_eqT, i_eqF, n_ltT, n_ltF, n_leT, n_leF, n_eqT, n_eqF, tn_9, tn_12, tn_14, tn_20, tn_28, tn_44, tn_52, tn_68, tn_84, tn_100, tn_116, tn_132, fu_e, up_eq, ob_0, ob_b, oi_add, oi_sub, oi_mul, oi_neg, Int.add_zero, Int.zero_add, or_true, true_or, or_false, false_or, and_self, z_i2l, z_l2i, lo_nat, lo_add, lo_sub, lo_mul, lo_0, e_rem, mr_X1_addNumber, mh_X1_addNumber, s5]
  refine c_addByte hT hB (by omega) fun w1 g1 f1 => ?_
  have e1 : w_sh w1 275 = (0, 1) := by rw [f1.1]; exact s5
  simp (disch := omega) only [wp_c, wp_n, jj_n, v_ct, Int.reduceToNat, Int.toNat_natCast, stE, wlE, lgt, lpu, lpw, v_c2, va_s, true_and, and_true, Option.toList, List.nil_append, List.cons_append, List.take, List.drop, List.reverse, List.reverseAux, List.length_cons, List.length_nil, reduceCtorEq, false_implies, true_implies, forall_const, not_true_eq_false, not_false_eq_true, ite_true, ite_false, Bool.false_eq_true, I_I, J_J, Nat.add_left_cancel_iff, Nat.reduceEqDiff, Nat.add_eq_left, Nat.left_eq_add, false_and, and_false, Nat.reduceSub, Nat.sub_self, Nat.le_refl, Nat.zero_le, ge_iff_le, Nat.reduceAdd, Nat.reduceLeDiff, Nat.zero_add, Nat.reduceLT, z_lt, z_le, z_eq, z_l0, z_g0, z_le0, z_ge0, z_e0, z_e1, z_vp, z_nc, z_rem, z_div, i_ltT, i_ltF, i_leT, i_leF, i_eqT, i_eqF, n_ltT, n_ltF, n_leT, n_leF, n_eqT, n_eqF, tn_9, tn_12, tn_14, tn_20, tn_28, tn_44, tn_52, tn_68, tn_84, tn_100, tn_116, tn_132, fu_e, up_eq, ob_0, ob_b, oi_add, oi_sub, oi_mul, oi_neg, Int.add_zero, Int.zero_add, or_true, true_or, or_false, false_or, and_self, z_i2l, z_l2i, lo_nat, lo_add, lo_sub, lo_mul, lo_0, e_rem, mr_X1_addNumber, mh_X1_addNumber, e1]
  refine c_addByte (hT.fx f1) g1 (by omega) fun w2 g2 f2 => ?_
  have e2 : w_sh w2 275 = (0, 1) := by rw [f2.1]; exact e1
  simp (disch := omega) only [wp_c, wp_n, jj_n, v_ct, Int.reduceToNat, Int.toNat_natCast, stE, wlE, lgt, lpu, lpw, v_c2, va_s, true_and, and_true, Option.toList, List.nil_append, List.cons_append, List.take, List.drop, List.reverse, List.reverseAux, List.length_cons, List.length_nil, reduceCtorEq, false_implies, true_implies, forall_const, not_true_eq_false, not_false_eq_true, ite_true, ite_false, Bool.false_eq_true, I_I, J_J, Nat.add_left_cancel_iff, Nat.reduceEqDiff, Nat.add_eq_left, Nat.left_eq_add, false_and, and_false, Nat.reduceSub, Nat.sub_self, Nat.le_refl, Nat.zero_le, ge_iff_le, Nat.reduceAdd, Nat.reduceLeDiff, Nat.zero_add, Nat.reduceLT, z_lt, z_le, z_eq, z_l0, z_g0, z_le0, z_ge0, z_e0, z_e1, z_vp, z_nc, z_rem, z_div, i_ltT, i_ltF, i_leT, i_leF, i_eqT, i_eqF, n_ltT, n_ltF, n_leT, n_leF, n_eqT, n_eqF, tn_9, tn_12, tn_14, tn_20, tn_28, tn_44, tn_52, tn_68, tn_84, tn_100, tn_116, tn_132, fu_e, up_eq, ob_0, ob_b, oi_add, oi_sub, oi_mul, oi_neg, Int.add_zero, Int.zero_add, or_true, true_or, or_false, false_or, and_self, z_i2l, z_l2i, lo_nat, lo_add, lo_sub, lo_mul, lo_0, e_rem, mr_X1_addNumber, mh_X1_addNumber, e2]
  refine c_addByte ((hT.fx f1).fx f2) g2 (by omega) fun w3 g3 f3 => ?_
  have e3 : w_sh w3 275 = (0, 1) := by rw [f3.1]; exact e2
  simp (disch := omega) only [wp_c, wp_n, jj_n, v_ct, Int.reduceToNat, Int.toNat_natCast, stE, wlE, lgt, lpu, lpw, v_c2, va_s, true_and, and_true, Option.toList, List.nil_append, List.cons_append, List.take, List.drop, List.reverse, List.reverseAux, List.length_cons, List.length_nil, reduceCtorEq, false_implies, true_implies, forall_const, not_true_eq_false, not_false_eq_true, ite_true, ite_false, Bool.false_eq_true, I_I, J_J, Nat.add_left_cancel_iff, Nat.reduceEqDiff, Nat.add_eq_left, Nat.left_eq_add, false_and, and_false, Nat.reduceSub, Nat.sub_self, Nat.le_refl, Nat.zero_le, ge_iff_le, Nat.reduceAdd, Nat.reduceLeDiff, Nat.zero_add, Nat.reduceLT, z_lt, z_le, z_eq, z_l0, z_g0, z_le0, z_ge0, z_e0, z_e1, z_vp, z_nc, z_rem, z_div, i_ltT, i_ltF, i_leT, i_leF, i_eqT, i_eqF, n_ltT, n_ltF, n_leT, n_leF, n_eqT, n_eqF, tn_9, tn_12, tn_14, tn_20, tn_28, tn_44, tn_52, tn_68, tn_84, tn_100, tn_116, tn_132, fu_e, up_eq, ob_0, ob_b, oi_add, oi_sub, oi_mul, oi_neg, Int.add_zero, Int.zero_add, or_true, true_or, or_false, false_or, and_self, z_i2l, z_l2i, lo_nat, lo_add, lo_sub, lo_mul, lo_0, e_rem, mr_X1_addNumber, mh_X1_addNumber, e3]
  refine c_addByte (((hT.fx f1).fx f2).fx f3) g3 (by omega) fun w4 g4 f4 => ?_
  simp (disch := omega) only [wp_c, wp_n, jj_n, v_ct, Int.reduceToNat, Int.toNat_natCast, stE, wlE, lgt, lpu, lpw, v_c2, va_s, true_and, and_true, Option.toList, List.nil_append, List.cons_append, List.take, List.drop, List.reverse, List.reverseAux, List.length_cons, List.length_nil, reduceCtorEq, false_implies, true_implies, forall_const, not_true_eq_false, not_false_eq_true, ite_true, ite_false, Bool.false_eq_true, I_I, J_J, Nat.add_left_cancel_iff, Nat.reduceEqDiff, Nat.add_eq_left, Nat.left_eq_add, false_and, and_false, Nat.reduceSub, Nat.sub_self, Nat.le_refl, Nat.zero_le, ge_iff_le, Nat.reduceAdd, Nat.reduceLeDiff, Nat.zero_add, Nat.reduceLT, z_lt, z_le, z_eq, z_l0, z_g0, z_le0, z_ge0, z_e0, z_e1, z_vp, z_nc, z_rem, z_div, i_ltT, i_ltF, i_leT, i_leF, i_eqT, i_eqF, n_ltT, n_ltF, n_leT, n_leF, n_eqT, n_eqF, tn_9, tn_12, tn_14, tn_20, tn_28, tn_44, tn_52, tn_68, tn_84, tn_100, tn_116, tn_132, fu_e, up_eq, ob_0, ob_b, oi_add, oi_sub, oi_mul, oi_neg, Int.add_zero, Int.zero_add, or_true, true_or, or_false, false_or, and_self, z_i2l, z_l2i, lo_nat, lo_add, lo_sub, lo_mul, lo_0, e_rem, mr_X1_addNumber, mh_X1_addNumber, e3]
  have ez : x >>> (Int32.ofInt 0 &&& 31) = x := by
    have : (Int32.ofInt 0 &&& 31) = (0 : Int32) := by decide
    rw [this, Int32.shiftRight_zero]
  refine hq w4 (g4.c (fun i hi => ?_)) (((f1.trans f2).trans f3).trans f4)
  unfold ap4 by8
  rw [ez]
  by_cases i0 : i = n
  · rw [if_pos i0, if_neg (by omega), if_neg (by omega), if_neg (by omega), if_pos i0]
  · rw [if_neg i0]
    by_cases i1 : i = n + 1
    · rw [if_pos i1, if_neg (by omega), if_neg (by omega), if_pos i1]
    · rw [if_neg i1]
      by_cases i2 : i = n + 2
      · rw [if_pos i2, if_neg (by omega), if_pos (by omega)]
      · rw [if_neg i2]
        by_cases i3 : i = n + 3
        · rw [if_pos i3, if_pos (by omega)]
        · rw [if_neg i3, if_neg (by omega), if_neg (by omega), if_neg (by omega), if_neg i0]
theorem x_append {w : mW} {A : Row} {Z : Zx} {Y : Yx} {X : Xx} {U : Ux} {Q : mW → mO → Prop} {y0 y1 y2 y3 y4 : Int32} (hS : CS w A Z Y X U) (hG : GR A) (hn1 : ¬ Z.2.1 + 20 ≤ 900 → Q w (.inr 0)) (hq : Z.2.1 + 20 ≤ 900 → ∀ w', CS w' A (ap20 Z.1 Z.2.1 y0 y1 y2 y3 y4, Z.2.1 + 20, Z.2.2) Y X U → FX CL w w' → Q w' (.inl (some (.int (Int32.ofInt ((Z.2.1 + 20 : Nat) : Int)))))) : CT n_X9_append [.ref 100, .int y0, .int y1, .int y2, .int y3, .int y4] w Q := by
  have hCS := hS
  obtain ⟨hC, hS, hB, hE, hH, hX, hU⟩ := hS
  have hz := hG.sz
  have hS0 := hS
  have hJ := hG.1.1
  obtain ⟨⟨k0, c0, c1, c2, c3, c4, c5, c6, c7, c8, c9, c10⟩, -⟩ := id hC
  obtain ⟨⟨s0, s1, s2, s3, s4, s5, s6, s7, s8, s9, s10, s11⟩, r6, r7, r8, r9, r10, r11, r12, r13, q2, q10, q11⟩ := hS.1
  simp only [Nat.reduceAdd] at s0 s1 s2 s3 s4 s5 s6 s7 s8 s9 s10 s11 r6 r7 r8 r9 r10 r11 r12 r13 q2 q10 q11
  obtain ⟨⟨b0, b1, b2, b3, b4⟩, -⟩ := id hS.2.1
  have hjm := hS.jam
  simp only [Nat.reduceAdd] at hjm
  have hK := hC
  have hT : TB w := ⟨hC.2.2.2.2.1, hC.2.2.2.2.2.1⟩
  have s5 := hT.1.1
  have hn := hB.1
  have b0 := hB.2.1
  have dd := hC.1.2.2.2.2.2.2.2.1
  by_cases h : Z.2.1 + 20 ≤ 900
  rotate_left
  · refine ct_X9_append (rt_X9_append_0 ?_)
    simp (disch := omega) only [wp_c, wp_n, jj_n, v_ct, Int.reduceToNat, Int.toNat_natCast, stE, wlE, lgt, lpu, lpw, v_c2, va_s, true_and, and_true, Option.toList, List.nil_append, List.cons_append, List.take, List.drop, List.reverse, List.reverseAux, List.length_cons, List.length_nil, reduceCtorEq, false_implies, true_implies, forall_const, not_true_eq_false, not_false_eq_true, ite_true, ite_false, Bool.false_eq_true, I_I, J_J, Nat.add_left_cancel_iff, Nat.reduceEqDiff, Nat.add_eq_left, Nat.left_eq_add, false_and, and_false, Nat.reduceSub, Nat.sub_self, Nat.le_refl, Nat.zero_le, ge_iff_le, Nat.reduceAdd, Nat.reduceLeDiff, Nat.zero_add, Nat.reduceLT, z_lt, z_le, z_eq, z_l0, z_g0, z_le0, z_ge0, z_e0, z_e1, z_vp, z_nc, z_rem, z_div, i_ltT, i_ltF, i_leT, i_leF, i_eqT, i_eqF, n_ltT, n_ltF, n_leT, n_leF, n_eqT, n_eqF, tn_9, tn_12, tn_14, tn_20, tn_28, tn_44, tn_52, tn_68, tn_84, tn_100, tn_116, tn_132, fu_e, up_eq, ob_0, ob_b, oi_add, oi_sub, oi_mul, oi_neg, Int.add_zero, Int.zero_add, or_true, true_or, or_false, false_or, and_self, z_i2l, z_l2i, lo_nat, lo_add, lo_sub, lo_mul, lo_0, e_rem, mr_X9_append, mh_X9_append, k0, dd, s5, b0]
    exact hn1 h
  refine ct_X9_append (rt_X9_append_0 ?_)
  simp (disch := omega) only [wp_c, wp_n, jj_n, v_ct, Int.reduceToNat, Int.toNat_natCast, stE, wlE, lgt, lpu, lpw, v_c2, va_s, true_and, and_true, Option.toList, List.nil_append, List.cons_append, List.take, List.drop, List.reverse, List.reverseAux, List.length_cons, List.length_nil, reduceCtorEq, false_implies, true_implies, forall_const, not_true_eq_false, not_false_eq_true, ite_true, ite_false, Bool.false_eq_true, I_I, J_J, Nat.add_left_cancel_iff, Nat.reduceEqDiff, Nat.add_eq_left, Nat.left_eq_add, false_and, and_false, Nat.reduceSub, Nat.sub_self, Nat.le_refl, Nat.zero_le, ge_iff_le, Nat.reduceAdd, Nat.reduceLeDiff, Nat.zero_add, Nat.reduceLT, z_lt, z_le, z_eq, z_l0, z_g0, z_le0, z_ge0, z_e0, z_e1, z_vp, z_nc, z_rem, z_div, i_ltT, i_ltF, i_leT, i_leF, i_eqT, i_eqF, n_ltT, n_ltF, n_leT, n_leF, n_eqT, n_eqF, tn_9, tn_12, tn_14, tn_20, tn_28, tn_44, tn_52, tn_68, tn_84, tn_100, tn_116, tn_132, fu_e, up_eq, ob_0, ob_b, oi_add, oi_sub, oi_mul, oi_neg, Int.add_zero, Int.zero_add, or_true, true_or, or_false, false_or, and_self, z_i2l, z_l2i, lo_nat, lo_add, lo_sub, lo_mul, lo_0, e_rem, mr_X9_append, mh_X9_append, k0, dd, s5, b0]
  refine rt_X9_append_23 ?_
  simp (disch := omega) only [wp_c, wp_n, jj_n, v_ct, Int.reduceToNat, Int.toNat_natCast, stE, wlE, lgt, lpu, lpw, v_c2, va_s, true_and, and_true, Option.toList, List.nil_append, List.cons_append, List.take, List.drop, List.reverse, List.reverseAux, List.length_cons, List.length_nil, reduceCtorEq, false_implies, true_implies, forall_const, not_true_eq_false, not_false_eq_true, ite_true, ite_false, Bool.false_eq_true, I_I, J_J, Nat.add_left_cancel_iff, Nat.reduceEqDiff, Nat.add_eq_left, Nat.left_eq_add, false_and, and_false, Nat.reduceSub, Nat.sub_self, Nat.le_refl, Nat.zero_le, ge_iff_le, Nat.reduceAdd, Nat.reduceLeDiff, Nat.zero_add, Nat.reduceLT, z_lt, z_le, z_eq, z_l0, z_g0, z_le0, z_ge0, z_e0, z_e1, z_vp, z_nc, z_rem, z_div, i_ltT, i_ltF, i_leT, i_leF, i_eqT, i_eqF, n_ltT, n_ltF, n_leT, n_leF, n_eqT, n_eqF, tn_9, tn_12, tn_14, tn_20, tn_28, tn_44, tn_52, tn_68, tn_84, tn_100, tn_116, tn_132, fu_e, up_eq, ob_0, ob_b, oi_add, oi_sub, oi_mul, oi_neg, Int.add_zero, Int.zero_add, or_true, true_or, or_false, false_or, and_self, z_i2l, z_l2i, lo_nat, lo_add, lo_sub, lo_mul, lo_0, e_rem, mr_X9_append, mh_X9_append, k0, dd, s5, b0]
  refine c_addNumber hT hB (by omega) fun w1 b1 f1 => ?_
  have hC1 := hC.fx f1
  have k1' := hC1.1.1
  have d1 := hC1.1.2.2.2.2.2.2.2.1
  have s1' := hC1.2.2.2.2.1.1
  have hT1 : TB w1 := ⟨hC1.2.2.2.2.1, hC1.2.2.2.2.2.1⟩
  simp (disch := omega) only [wp_c, wp_n, jj_n, v_ct, Int.reduceToNat, Int.toNat_natCast, stE, wlE, lgt, lpu, lpw, v_c2, va_s, true_and, and_true, Option.toList, List.nil_append, List.cons_append, List.take, List.drop, List.reverse, List.reverseAux, List.length_cons, List.length_nil, reduceCtorEq, false_implies, true_implies, forall_const, not_true_eq_false, not_false_eq_true, ite_true, ite_false, Bool.false_eq_true, I_I, J_J, Nat.add_left_cancel_iff, Nat.reduceEqDiff, Nat.add_eq_left, Nat.left_eq_add, false_and, and_false, Nat.reduceSub, Nat.sub_self, Nat.le_refl, Nat.zero_le, ge_iff_le, Nat.reduceAdd, Nat.reduceLeDiff, Nat.zero_add, Nat.reduceLT, z_lt, z_le, z_eq, z_l0, z_g0, z_le0, z_ge0, z_e0, z_e1, z_vp, z_nc, z_rem, z_div, i_ltT, i_ltF, i_leT, i_leF, i_eqT, i_eqF, n_ltT, n_ltF, n_leT, n_leF, n_eqT, n_eqF, tn_9, tn_12, tn_14, tn_20, tn_28, tn_44, tn_52, tn_68, tn_84, tn_100, tn_116, tn_132, fu_e, up_eq, ob_0, ob_b, oi_add, oi_sub, oi_mul, oi_neg, Int.add_zero, Int.zero_add, or_true, true_or, or_false, false_or, and_self, z_i2l, z_l2i, lo_nat, lo_add, lo_sub, lo_mul, lo_0, e_rem, mr_X9_append, mh_X9_append, k1', d1, s1']
  refine c_addNumber hT1 b1 (by omega) fun w2 b2 f2 => ?_
  have hC2 := hC1.fx f2
  have k2' := hC2.1.1
  have d2 := hC2.1.2.2.2.2.2.2.2.1
  have s2' := hC2.2.2.2.2.1.1
  have hT2 : TB w2 := ⟨hC2.2.2.2.2.1, hC2.2.2.2.2.2.1⟩
  simp (disch := omega) only [wp_c, wp_n, jj_n, v_ct, Int.reduceToNat, Int.toNat_natCast, stE, wlE, lgt, lpu, lpw, v_c2, va_s, true_and, and_true, Option.toList, List.nil_append, List.cons_append, List.take, List.drop, List.reverse, List.reverseAux, List.length_cons, List.length_nil, reduceCtorEq, false_implies, true_implies, forall_const, not_true_eq_false, not_false_eq_true, ite_true, ite_false, Bool.false_eq_true, I_I, J_J, Nat.add_left_cancel_iff, Nat.reduceEqDiff, Nat.add_eq_left, Nat.left_eq_add, false_and, and_false, Nat.reduceSub, Nat.sub_self, Nat.le_refl, Nat.zero_le, ge_iff_le, Nat.reduceAdd, Nat.reduceLeDiff, Nat.zero_add, Nat.reduceLT, z_lt, z_le, z_eq, z_l0, z_g0, z_le0, z_ge0, z_e0, z_e1, z_vp, z_nc, z_rem, z_div, i_ltT, i_ltF, i_leT, i_leF, i_eqT, i_eqF, n_ltT, n_ltF, n_leT, n_leF, n_eqT, n_eqF, tn_9, tn_12, tn_14, tn_20, tn_28, tn_44, tn_52, tn_68, tn_84, tn_100, tn_116, tn_132, fu_e, up_eq, ob_0, ob_b, oi_add, oi_sub, oi_mul, oi_neg, Int.add_zero, Int.zero_add, or_true, true_or, or_false, false_or, and_self, z_i2l, z_l2i, lo_nat, lo_add, lo_sub, lo_mul, lo_0, e_rem, mr_X9_append, mh_X9_append, k2', d2, s2']
  refine c_addNumber hT2 b2 (by omega) fun w3 b3 f3 => ?_
  have hC3 := hC2.fx f3
  have k3' := hC3.1.1
  have d3 := hC3.1.2.2.2.2.2.2.2.1
  have s3' := hC3.2.2.2.2.1.1
  have hT3 : TB w3 := ⟨hC3.2.2.2.2.1, hC3.2.2.2.2.2.1⟩
  simp (disch := omega) only [wp_c, wp_n, jj_n, v_ct, Int.reduceToNat, Int.toNat_natCast, stE, wlE, lgt, lpu, lpw, v_c2, va_s, true_and, and_true, Option.toList, List.nil_append, List.cons_append, List.take, List.drop, List.reverse, List.reverseAux, List.length_cons, List.length_nil, reduceCtorEq, false_implies, true_implies, forall_const, not_true_eq_false, not_false_eq_true, ite_true, ite_false, Bool.false_eq_true, I_I, J_J, Nat.add_left_cancel_iff, Nat.reduceEqDiff, Nat.add_eq_left, Nat.left_eq_add, false_and, and_false, Nat.reduceSub, Nat.sub_self, Nat.le_refl, Nat.zero_le, ge_iff_le, Nat.reduceAdd, Nat.reduceLeDiff, Nat.zero_add, Nat.reduceLT, z_lt, z_le, z_eq, z_l0, z_g0, z_le0, z_ge0, z_e0, z_e1, z_vp, z_nc, z_rem, z_div, i_ltT, i_ltF, i_leT, i_leF, i_eqT, i_eqF, n_ltT, n_ltF, n_leT, n_leF, n_eqT, n_eqF, tn_9, tn_12, tn_14, tn_20, tn_28, tn_44, tn_52, tn_68, tn_84, tn_100, tn_116, tn_132, fu_e, up_eq, ob_0, ob_b, oi_add, oi_sub, oi_mul, oi_neg, Int.add_zero, Int.zero_add, or_true, true_or, or_false, false_or, and_self, z_i2l, z_l2i, lo_nat, lo_add, lo_sub, lo_mul, lo_0, e_rem, mr_X9_append, mh_X9_append, k3', d3, s3']
  refine c_addNumber hT3 b3 (by omega) fun w4 b4 f4 => ?_
  have hC4 := hC3.fx f4
  have k4' := hC4.1.1
  have d4 := hC4.1.2.2.2.2.2.2.2.1
  have s4' := hC4.2.2.2.2.1.1
  have hT4 : TB w4 := ⟨hC4.2.2.2.2.1, hC4.2.2.2.2.2.1⟩
  simp (disch := omega) only [wp_c, wp_n, jj_n, v_ct, Int.reduceToNat, Int.toNat_natCast, stE, wlE, lgt, lpu, lpw, v_c2, va_s, true_and, and_true, Option.toList, List.nil_append, List.cons_append, List.take, List.drop, List.reverse, List.reverseAux, List.length_cons, List.length_nil, reduceCtorEq, false_implies, true_implies, forall_const, not_true_eq_false, not_false_eq_true, ite_true, ite_false, Bool.false_eq_true, I_I, J_J, Nat.add_left_cancel_iff, Nat.reduceEqDiff, Nat.add_eq_left, Nat.left_eq_add, false_and, and_false, Nat.reduceSub, Nat.sub_self, Nat.le_refl, Nat.zero_le, ge_iff_le, Nat.reduceAdd, Nat.reduceLeDiff, Nat.zero_add, Nat.reduceLT, z_lt, z_le, z_eq, z_l0, z_g0, z_le0, z_ge0, z_e0, z_e1, z_vp, z_nc, z_rem, z_div, i_ltT, i_ltF, i_leT, i_leF, i_eqT, i_eqF, n_ltT, n_ltF, n_leT, n_leF, n_eqT, n_eqF, tn_9, tn_12, tn_14, tn_20, tn_28, tn_44, tn_52, tn_68, tn_84, tn_100, tn_116, tn_132, fu_e, up_eq, ob_0, ob_b, oi_add, oi_sub, oi_mul, oi_neg, Int.add_zero, Int.zero_add, or_true, true_or, or_false, false_or, and_self, z_i2l, z_l2i, lo_nat, lo_add, lo_sub, lo_mul, lo_0, e_rem, mr_X9_append, mh_X9_append, k4', d4, s4']
  refine c_addNumber hT4 b4 (by omega) fun w5 b5 f5 => ?_
  have hC5 := hC4.fx f5
  have k5' := hC5.1.1
  have d5 := hC5.1.2.2.2.2.2.2.2.1
  have s5' := hC5.2.2.2.2.1.1
  have hT5 : TB w5 := ⟨hC5.2.2.2.2.1, hC5.2.2.2.2.2.1⟩
  simp (disch := omega) only [wp_c, wp_n, jj_n, v_ct, Int.reduceToNat, Int.toNat_natCast, stE, wlE, lgt, lpu, lpw, v_c2, va_s, true_and, and_true, Option.toList, List.nil_append, List.cons_append, List.take, List.drop, List.reverse, List.reverseAux, List.length_cons, List.length_nil, reduceCtorEq, false_implies, true_implies, forall_const, not_true_eq_false, not_false_eq_true, ite_true, ite_false, Bool.false_eq_true, I_I, J_J, Nat.add_left_cancel_iff, Nat.reduceEqDiff, Nat.add_eq_left, Nat.left_eq_add, false_and, and_false, Nat.reduceSub, Nat.sub_self, Nat.le_refl, Nat.zero_le, ge_iff_le, Nat.reduceAdd, Nat.reduceLeDiff, Nat.zero_add, Nat.reduceLT, z_lt, z_le, z_eq, z_l0, z_g0, z_le0, z_ge0, z_e0, z_e1, z_vp, z_nc, z_rem, z_div, i_ltT, i_ltF, i_leT, i_leF, i_eqT, i_eqF, n_ltT, n_ltF, n_leT, n_leF, n_eqT, n_eqF, tn_9, tn_12, tn_14, tn_20, tn_28, tn_44, tn_52, tn_68, tn_84, tn_100, tn_116, tn_132, fu_e, up_eq, ob_0, ob_b, oi_add, oi_sub, oi_mul, oi_neg, Int.add_zero, Int.zero_add, or_true, true_or, or_false, false_or, and_self, z_i2l, z_l2i, lo_nat, lo_add, lo_sub, lo_mul, lo_0, e_rem, mr_X9_append, mh_X9_append, k5', d5, s5', b5.2.1]
  have f : FX I2 w w5 := (((f1.trans f2).trans f3).trans f4).trans f5
  have hn2 : ∀ a, I2 a → a = 275 ∨ a = 276 := fun a q => q
  refine hq h w5 ⟨hC5, hS.fx f (fun a a1 a2 q => by unfold I2 at q; omega), b5, hE.fx f (by unfold I2; omega), hH.fx f (fun a a1 a2 q => by unfold I2 at q; omega), hX.fx f (by unfold I2; omega) (fun a a1 a2 q => by unfold I2 at q; omega), hU.fx f (by unfold I2; omega) (by unfold I2; omega)⟩ (f.mono (fun a q => by unfold I2 at q; unfold CL; omega))
/-! the class's text -/
def T1 (a : Nat) : Prop := a = 100 ∨ a = 284
def TXc (w : mW) (l : List Int) : Prop := w_I w 100 11 = Int32.ofInt l.length ∧ ∀ i, i < l.length → w_I w 284 i = Int32.ofInt (l.getD i 0)
theorem c_showByte {v : Int} {l : List Int} {w : mW} {Q : mW → mO → Prop} (hC : CB w) (hT : TXc w l) (hl : l.length < 48) (h0 : 0 ≤ v ∧ v ≤ 127) (hq : ∀ w', TXc w' (l ++ [v]) → FX T1 w w' → Q w' (.inl none)) : CT n_X9_showByte [.ref 100, .int (Int32.ofInt v)] w Q := by
  obtain ⟨t0, t1⟩ := hT
  have k0 := hC.1.1
  have c10 := hC.1.2.2.2.2.2.2.2.2.2.2.2
  have s4 := hC.2.2.2.2.2.2.2.2
  have hn := nar_s h0.1 h0.2
  refine ct_X9_showByte (rt_X9_showByte_0 ?_)
  simp (disch := omega) only [wp_c, wp_n, jj_n, v_ct, Int.reduceToNat, Int.toNat_natCast, stE, wlE, lgt, lpu, lpw, v_c2, va_s, true_and, and_true, Option.toList, List.nil_append, List.cons_append, List.take, List.drop, List.reverse, List.reverseAux, List.length_cons, List.length_nil, reduceCtorEq, false_implies, true_implies, forall_const, not_true_eq_false, not_false_eq_true, ite_true, ite_false, Bool.false_eq_true, I_I, J_J, Nat.add_left_cancel_iff, Nat.reduceEqDiff, Nat.add_eq_left, Nat.left_eq_add, false_and, and_false, Nat.reduceSub, Nat.sub_self, Nat.le_refl, Nat.zero_le, ge_iff_le, Nat.reduceAdd, Nat.reduceLeDiff, Nat.zero_add, Nat.reduceLT, z_lt, z_le, z_eq, z_l0, z_g0, z_le0, z_ge0, z_e0, z_e1, z_vp, z_nc, z_rem, z_div, i_ltT, i_ltF, i_leT, i_leF, i_eqT, i_eqF, n_ltT, n_ltF, n_leT, n_leF, n_eqT, n_eqF, tn_9, tn_12, tn_14, tn_20, tn_28, tn_44, tn_52, tn_68, tn_84, tn_100, tn_116, tn_132, fu_e, up_eq, ob_0, ob_b, oi_add, oi_sub, oi_mul, oi_neg, Int.add_zero, Int.zero_add, or_true, true_or, or_false, false_or, and_self, z_i2l, z_l2i, lo_nat, lo_add, lo_sub, lo_mul, lo_0, e_rem, mr_X9_showByte, mh_X9_showByte, k0, c10, s4, t0, hn, Int.toNat_natCast]
  refine rt_X9_showByte_30 ?_
  simp (disch := omega) only [wp_c, wp_n, jj_n, v_ct, Int.reduceToNat, Int.toNat_natCast, stE, wlE, lgt, lpu, lpw, v_c2, va_s, true_and, and_true, Option.toList, List.nil_append, List.cons_append, List.take, List.drop, List.reverse, List.reverseAux, List.length_cons, List.length_nil, reduceCtorEq, false_implies, true_implies, forall_const, not_true_eq_false, not_false_eq_true, ite_true, ite_false, Bool.false_eq_true, I_I, J_J, Nat.add_left_cancel_iff, Nat.reduceEqDiff, Nat.add_eq_left, Nat.left_eq_add, false_and, and_false, Nat.reduceSub, Nat.sub_self, Nat.le_refl, Nat.zero_le, ge_iff_le, Nat.reduceAdd, Nat.reduceLeDiff, Nat.zero_add, Nat.reduceLT, z_lt, z_le, z_eq, z_l0, z_g0, z_le0, z_ge0, z_e0, z_e1, z_vp, z_nc, z_rem, z_div, i_ltT, i_ltF, i_leT, i_leF, i_eqT, i_eqF, n_ltT, n_ltF, n_leT, n_leF, n_eqT, n_eqF, tn_9, tn_12, tn_14, tn_20, tn_28, tn_44, tn_52, tn_68, tn_84, tn_100, tn_116, tn_132, fu_e, up_eq, ob_0, ob_b, oi_add, oi_sub, oi_mul, oi_neg, Int.add_zero, Int.zero_add, or_true, true_or, or_false, false_or, and_self, z_i2l, z_l2i, lo_nat, lo_add, lo_sub, lo_mul, lo_0, e_rem, mr_X9_showByte, mh_X9_showByte, k0]
  refine hq _ ⟨by simp only [wp_c, wp_n, jj_n, v_ct, Int.reduceToNat, Int.toNat_natCast, stE, wlE, lgt, lpu, lpw, v_c2, va_s, true_and, and_true, Option.toList, List.nil_append, List.cons_append, List.take, List.drop, List.reverse, List.reverseAux, List.length_cons, List.length_nil, reduceCtorEq, false_implies, true_implies, forall_const, not_true_eq_false, not_false_eq_true, ite_true, ite_false, Bool.false_eq_true, I_I, J_J, Nat.add_left_cancel_iff, Nat.reduceEqDiff, Nat.add_eq_left, Nat.left_eq_add, false_and, and_false, Nat.reduceSub, Nat.sub_self, Nat.le_refl, Nat.zero_le, ge_iff_le, Nat.reduceAdd, Nat.reduceLeDiff, Nat.zero_add, Nat.reduceLT, List.length_append]; rfl, fun i hi => ?_⟩ (((FX.refl T1 w).I (Or.inr rfl)).I (Or.inl rfl))
  simp only [List.length_append, List.length_cons, List.length_nil] at hi
  rw [getD_ap]
  simp only [wp_c, wp_n, jj_n, v_ct, Int.reduceToNat, Int.toNat_natCast, stE, wlE, lgt, lpu, lpw, v_c2, va_s, true_and, and_true, Option.toList, List.nil_append, List.cons_append, List.take, List.drop, List.reverse, List.reverseAux, List.length_cons, List.length_nil, reduceCtorEq, false_implies, true_implies, forall_const, not_true_eq_false, not_false_eq_true, ite_true, ite_false, Bool.false_eq_true, I_I, J_J, Nat.add_left_cancel_iff, Nat.reduceEqDiff, Nat.add_eq_left, Nat.left_eq_add, false_and, and_false, Nat.reduceSub, Nat.sub_self, Nat.le_refl, Nat.zero_le, ge_iff_le, Nat.reduceAdd, Nat.reduceLeDiff, Nat.zero_add, Nat.reduceLT]
  by_cases e : i = l.length
  · rw [if_pos e, if_neg (by omega), if_pos e]
  · rw [if_neg e, if_pos (by omega)]; exact t1 i (by omega)
theorem c_sh_33 {A : Row} {mk : Int} {w0 : mW} {Q : mW → mO → Prop} (hC0 : CB w0) (hS0 : MS w0 101 A) (hG : GR A) (hmk : -1 ≤ mk ∧ mk ≤ 100) : ∀ (n : Nat) (l : List Int) (w : mW), n ≤ 16 → TXc w l → FX T1 w0 w → l.length + (dg A 28 mk n).length ≤ 48 → (∀ w' z, TXc w' (l ++ dg A 28 mk n) → FX T1 w0 w' → RT n_X9_show 70 [.ref 100, .int (Int32.ofInt mk), z] [] w' (0, 0, false) Q) →
    RT n_X9_show 33 [.ref 100, .int (Int32.ofInt mk), .int (Int32.ofInt ((n : Int) - 1))] [] w (0, 0, false) Q := by
  have hz := hG.sz
  intro n
  induction n with
  | zero =>
    intro l w hn hT hw hl hq
    have k0 := (hC0.fx hw).1.1
    refine rt_X9_show_33 ?_
    simp (disch := omega) only [wp_c, wp_n, jj_n, v_ct, Int.reduceToNat, Int.toNat_natCast, stE, wlE, lgt, lpu, lpw, v_c2, va_s, true_and, and_true, Option.toList, List.nil_append, List.cons_append, List.take, List.drop, List.reverse, List.reverseAux, List.length_cons, List.length_nil, reduceCtorEq, false_implies, true_implies, forall_const, not_true_eq_false, not_false_eq_true, ite_true, ite_false, Bool.false_eq_true, I_I, J_J, Nat.add_left_cancel_iff, Nat.reduceEqDiff, Nat.add_eq_left, Nat.left_eq_add, false_and, and_false, Nat.reduceSub, Nat.sub_self, Nat.le_refl, Nat.zero_le, ge_iff_le, Nat.reduceAdd, Nat.reduceLeDiff, Nat.zero_add, Nat.reduceLT, z_lt, z_le, z_eq, z_l0, z_g0, z_le0, z_ge0, z_e0, z_e1, z_vp, z_nc, z_rem, z_div, i_ltT, i_ltF, i_leT, i_leF, i_eqT, i_eqF, n_ltT, n_ltF, n_leT, n_leF, n_eqT, n_eqF, tn_9, tn_12, tn_14, tn_20, tn_28, tn_44, tn_52, tn_68, tn_84, tn_100, tn_116, tn_132, fu_e, up_eq, ob_0, ob_b, oi_add, oi_sub, oi_mul, oi_neg, Int.add_zero, Int.zero_add, or_true, true_or, or_false, false_or, and_self, z_i2l, z_l2i, lo_nat, lo_add, lo_sub, lo_mul, lo_0, e_rem, mr_X9_show, mh_X9_show, k0]
    exact hq w _ (by simpa [dg] using hT) hw
  | succ n ih =>
    intro l w hn hT hw hl hq
    have hC := hC0.fx hw
    have hS := hS0.fx hw (fun a a1 a2 q => by unfold T1 at q; omega)
    have k0 := hC.1.1
    have c0 := hC.1.2.1
    have s0 := hS.1.1.1
    have s1 := hS.1.1.2.2.1
    have r1 := hS.1.2.2.1
    simp only [Nat.reduceAdd] at s1 r1
    have hd := TJ_dig hG.1.1 n (by omega)
    have hrd := hS.2.1.r_dig (j := n) (by omega)
    simp only [Nat.reduceAdd] at hrd
    have e1 : (((n + 1 : Nat) : Int) - 1) = (n : Int) := by omega
    rw [dg] at hl hq
    rw [e1]
    have h48 : ∀ (l' : List Int) (w' : mW), TXc w' l' → FX T1 w0 w' → l'.length + 1 + (dg A 28 mk n).length ≤ 48 → (∀ w'' z, TXc w'' (l' ++ (48 + A (28 + n)) :: dg A 28 mk n) → FX T1 w0 w'' → RT n_X9_show 70 [.ref 100, .int (Int32.ofInt mk), z] [] w'' (0, 0, false) Q) → RT n_X9_show 48 [.ref 100, .int (Int32.ofInt mk), .int (Int32.ofInt n)] [] w' (0, 0, false) Q := by
      intro l' w' hT' hw' hl' hq'
      have hC' := hC0.fx hw'
      have hS' := hS0.fx hw' (fun a a1 a2 q => by unfold T1 at q; omega)
      have k0' := hC'.1.1
      have c0' := hC'.1.2.1
      have s0' := hS'.1.1.1
      have s2' := hS'.1.1.2.2.1
      have r7' := hS'.1.2.2.1
      have hrd' := hS'.2.1.r_dig (j := n) (by omega)
      simp only [Nat.reduceAdd] at hrd' s2' r7'
      refine rt_X9_show_48 ?_
      simp (disch := omega) only [wp_c, wp_n, jj_n, v_ct, Int.reduceToNat, Int.toNat_natCast, stE, wlE, lgt, lpu, lpw, v_c2, va_s, true_and, and_true, Option.toList, List.nil_append, List.cons_append, List.take, List.drop, List.reverse, List.reverseAux, List.length_cons, List.length_nil, reduceCtorEq, false_implies, true_implies, forall_const, not_true_eq_false, not_false_eq_true, ite_true, ite_false, Bool.false_eq_true, I_I, J_J, Nat.add_left_cancel_iff, Nat.reduceEqDiff, Nat.add_eq_left, Nat.left_eq_add, false_and, and_false, Nat.reduceSub, Nat.sub_self, Nat.le_refl, Nat.zero_le, ge_iff_le, Nat.reduceAdd, Nat.reduceLeDiff, Nat.zero_add, Nat.reduceLT, z_lt, z_le, z_eq, z_l0, z_g0, z_le0, z_ge0, z_e0, z_e1, z_vp, z_nc, z_rem, z_div, i_ltT, i_ltF, i_leT, i_leF, i_eqT, i_eqF, n_ltT, n_ltF, n_leT, n_leF, n_eqT, n_eqF, tn_9, tn_12, tn_14, tn_20, tn_28, tn_44, tn_52, tn_68, tn_84, tn_100, tn_116, tn_132, fu_e, up_eq, ob_0, ob_b, oi_add, oi_sub, oi_mul, oi_neg, Int.add_zero, Int.zero_add, or_true, true_or, or_false, false_or, and_self, z_i2l, z_l2i, lo_nat, lo_add, lo_sub, lo_mul, lo_0, e_rem, mr_X9_show, mh_X9_show, k0', c0', s0', s2', r7', hrd', Int.toNat_natCast]
      refine c_showByte hC' hT' (by omega) (by omega) fun w2 g1 f1 => ?_
      simp (disch := omega) only [wp_c, wp_n, jj_n, v_ct, Int.reduceToNat, Int.toNat_natCast, stE, wlE, lgt, lpu, lpw, v_c2, va_s, true_and, and_true, Option.toList, List.nil_append, List.cons_append, List.take, List.drop, List.reverse, List.reverseAux, List.length_cons, List.length_nil, reduceCtorEq, false_implies, true_implies, forall_const, not_true_eq_false, not_false_eq_true, ite_true, ite_false, Bool.false_eq_true, I_I, J_J, Nat.add_left_cancel_iff, Nat.reduceEqDiff, Nat.add_eq_left, Nat.left_eq_add, false_and, and_false, Nat.reduceSub, Nat.sub_self, Nat.le_refl, Nat.zero_le, ge_iff_le, Nat.reduceAdd, Nat.reduceLeDiff, Nat.zero_add, Nat.reduceLT, z_lt, z_le, z_eq, z_l0, z_g0, z_le0, z_ge0, z_e0, z_e1, z_vp, z_nc, z_rem, z_div, i_ltT, i_ltF, i_leT, i_leF, i_eqT, i_eqF, n_ltT, n_ltF, n_leT, n_leF, n_eqT, n_eqF, tn_9, tn_12, tn_14, tn_20, tn_28, tn_44, tn_52, tn_68, tn_84, tn_100, tn_116, tn_132, fu_e, up_eq, ob_0, ob_b, oi_add, oi_sub, oi_mul, oi_neg, Int.add_zero, Int.zero_add, or_true, true_or, or_false, false_or, and_self, z_i2l, z_l2i, lo_nat, lo_add, lo_sub, lo_mul, lo_0, e_rem, mr_X9_show, mh_X9_show, k0']
      refine ih (l' ++ [48 + A (28 + n)]) w2 (by omega) g1 (hw'.trans f1) (by simp; omega) (fun w3 z q1 q2 => hq' w3 z ?_ q2)
      simpa using q1
    refine rt_X9_show_33 ?_
    simp (disch := omega) only [wp_c, wp_n, jj_n, v_ct, Int.reduceToNat, Int.toNat_natCast, stE, wlE, lgt, lpu, lpw, v_c2, va_s, true_and, and_true, Option.toList, List.nil_append, List.cons_append, List.take, List.drop, List.reverse, List.reverseAux, List.length_cons, List.length_nil, reduceCtorEq, false_implies, true_implies, forall_const, not_true_eq_false, not_false_eq_true, ite_true, ite_false, Bool.false_eq_true, I_I, J_J, Nat.add_left_cancel_iff, Nat.reduceEqDiff, Nat.add_eq_left, Nat.left_eq_add, false_and, and_false, Nat.reduceSub, Nat.sub_self, Nat.le_refl, Nat.zero_le, ge_iff_le, Nat.reduceAdd, Nat.reduceLeDiff, Nat.zero_add, Nat.reduceLT, z_lt, z_le, z_eq, z_l0, z_g0, z_le0, z_ge0, z_e0, z_e1, z_vp, z_nc, z_rem, z_div, i_ltT, i_ltF, i_leT, i_leF, i_eqT, i_eqF, n_ltT, n_ltF, n_leT, n_leF, n_eqT, n_eqF, tn_9, tn_12, tn_14, tn_20, tn_28, tn_44, tn_52, tn_68, tn_84, tn_100, tn_116, tn_132, fu_e, up_eq, ob_0, ob_b, oi_add, oi_sub, oi_mul, oi_neg, Int.add_zero, Int.zero_add, or_true, true_or, or_false, false_or, and_self, z_i2l, z_l2i, lo_nat, lo_add, lo_sub, lo_mul, lo_0, e_rem, mr_X9_show, mh_X9_show, k0]
    by_cases hm : (n : Int) = mk
    · rw [if_pos hm] at hl hq
      simp only [List.length_append, List.length_cons, List.length_nil] at hl
      simp (disch := omega) only [wp_c, wp_n, jj_n, v_ct, Int.reduceToNat, Int.toNat_natCast, stE, wlE, lgt, lpu, lpw, v_c2, va_s, true_and, and_true, Option.toList, List.nil_append, List.cons_append, List.take, List.drop, List.reverse, List.reverseAux, List.length_cons, List.length_nil, reduceCtorEq, false_implies, true_implies, forall_const, not_true_eq_false, not_false_eq_true, ite_true, ite_false, Bool.false_eq_true, I_I, J_J, Nat.add_left_cancel_iff, Nat.reduceEqDiff, Nat.add_eq_left, Nat.left_eq_add, false_and, and_false, Nat.reduceSub, Nat.sub_self, Nat.le_refl, Nat.zero_le, ge_iff_le, Nat.reduceAdd, Nat.reduceLeDiff, Nat.zero_add, Nat.reduceLT, z_lt, z_le, z_eq, z_l0, z_g0, z_le0, z_ge0, z_e0, z_e1, z_vp, z_nc, z_rem, z_div, i_ltT, i_ltF, i_leT, i_leF, i_eqT, i_eqF, n_ltT, n_ltF, n_leT, n_leF, n_eqT, n_eqF, tn_9, tn_12, tn_14, tn_20, tn_28, tn_44, tn_52, tn_68, tn_84, tn_100, tn_116, tn_132, fu_e, up_eq, ob_0, ob_b, oi_add, oi_sub, oi_mul, oi_neg, Int.add_zero, Int.zero_add, or_true, true_or, or_false, false_or, and_self, z_i2l, z_l2i, lo_nat, lo_add, lo_sub, lo_mul, lo_0, e_rem, mr_X9_show, mh_X9_show, k0]
      refine c_showByte hC hT (by omega) (by omega) fun w2 g1 f1 => ?_
      simp (disch := omega) only [wp_c, wp_n, jj_n, v_ct, Int.reduceToNat, Int.toNat_natCast, stE, wlE, lgt, lpu, lpw, v_c2, va_s, true_and, and_true, Option.toList, List.nil_append, List.cons_append, List.take, List.drop, List.reverse, List.reverseAux, List.length_cons, List.length_nil, reduceCtorEq, false_implies, true_implies, forall_const, not_true_eq_false, not_false_eq_true, ite_true, ite_false, Bool.false_eq_true, I_I, J_J, Nat.add_left_cancel_iff, Nat.reduceEqDiff, Nat.add_eq_left, Nat.left_eq_add, false_and, and_false, Nat.reduceSub, Nat.sub_self, Nat.le_refl, Nat.zero_le, ge_iff_le, Nat.reduceAdd, Nat.reduceLeDiff, Nat.zero_add, Nat.reduceLT, z_lt, z_le, z_eq, z_l0, z_g0, z_le0, z_ge0, z_e0, z_e1, z_vp, z_nc, z_rem, z_div, i_ltT, i_ltF, i_leT, i_leF, i_eqT, i_eqF, n_ltT, n_ltF, n_leT, n_leF, n_eqT, n_eqF, tn_9, tn_12, tn_14, tn_20, tn_28, tn_44, tn_52, tn_68, tn_84, tn_100, tn_116, tn_132, fu_e, up_eq, ob_0, ob_b, oi_add, oi_sub, oi_mul, oi_neg, Int.add_zero, Int.zero_add, or_true, true_or, or_false, false_or, and_self, z_i2l, z_l2i, lo_nat, lo_add, lo_sub, lo_mul, lo_0, e_rem, mr_X9_show, mh_X9_show, k0]
      refine h48 (l ++ [94]) w2 g1 (hw.trans f1) (by simp; omega) (fun w3 z q1 q2 => hq w3 z (by simpa using q1) q2)
    · rw [if_neg hm] at hl hq
      simp only [List.length_append, List.length_cons, List.length_nil] at hl
      simp (disch := omega) only [wp_c, wp_n, jj_n, v_ct, Int.reduceToNat, Int.toNat_natCast, stE, wlE, lgt, lpu, lpw, v_c2, va_s, true_and, and_true, Option.toList, List.nil_append, List.cons_append, List.take, List.drop, List.reverse, List.reverseAux, List.length_cons, List.length_nil, reduceCtorEq, false_implies, true_implies, forall_const, not_true_eq_false, not_false_eq_true, ite_true, ite_false, Bool.false_eq_true, I_I, J_J, Nat.add_left_cancel_iff, Nat.reduceEqDiff, Nat.add_eq_left, Nat.left_eq_add, false_and, and_false, Nat.reduceSub, Nat.sub_self, Nat.le_refl, Nat.zero_le, ge_iff_le, Nat.reduceAdd, Nat.reduceLeDiff, Nat.zero_add, Nat.reduceLT, z_lt, z_le, z_eq, z_l0, z_g0, z_le0, z_ge0, z_e0, z_e1, z_vp, z_nc, z_rem, z_div, i_ltT, i_ltF, i_leT, i_leF, i_eqT, i_eqF, n_ltT, n_ltF, n_leT, n_leF, n_eqT, n_eqF, tn_9, tn_12, tn_14, tn_20, tn_28, tn_44, tn_52, tn_68, tn_84, tn_100, tn_116, tn_132, fu_e, up_eq, ob_0, ob_b, oi_add, oi_sub, oi_mul, oi_neg, Int.add_zero, Int.zero_add, or_true, true_or, or_false, false_or, and_self, z_i2l, z_l2i, lo_nat, lo_add, lo_sub, lo_mul, lo_0, e_rem, mr_X9_show, mh_X9_show, k0]
      exact h48 l w hT hw (by omega) (fun w3 z q1 q2 => hq w3 z (by simpa using q1) q2)
theorem c_sh_86 {A : Row} {mk : Int} {w0 : mW} {Q : mW → mO → Prop} (hC0 : CB w0) (hS0 : MS w0 101 A) (hG : GR A) (hmk : -1 ≤ mk ∧ mk ≤ 100) : ∀ (n : Nat) (l : List Int) (w : mW), n ≤ 8 → TXc w l → FX T1 w0 w → l.length + (dg A 44 (-1) n).length ≤ 48 → (∀ w' z, TXc w' (l ++ dg A 44 (-1) n) → FX T1 w0 w' → RT n_X9_show 112 [.ref 100, .int (Int32.ofInt mk), z] [] w' (0, 0, false) Q) →
    RT n_X9_show 86 [.ref 100, .int (Int32.ofInt mk), .int (Int32.ofInt ((n : Int) - 1))] [] w (0, 0, false) Q := by
  have hz := hG.sz
  intro n
  induction n with
  | zero =>
    intro l w hn hT hw hl hq
    have k0 := (hC0.fx hw).1.1
    refine rt_X9_show_86 ?_
    simp (disch := omega) only [wp_c, wp_n, jj_n, v_ct, Int.reduceToNat, Int.toNat_natCast, stE, wlE, lgt, lpu, lpw, v_c2, va_s, true_and, and_true, Option.toList, List.nil_append, List.cons_append, List.take, List.drop, List.reverse, List.reverseAux, List.length_cons, List.length_nil, reduceCtorEq, false_implies, true_implies, forall_const, not_true_eq_false, not_false_eq_true, ite_true, ite_false, Bool.false_eq_true, I_I, J_J, Nat.add_left_cancel_iff, Nat.reduceEqDiff, Nat.add_eq_left, Nat.left_eq_add, false_and, and_false, Nat.reduceSub, Nat.sub_self, Nat.le_refl, Nat.zero_le, ge_iff_le, Nat.reduceAdd, Nat.reduceLeDiff, Nat.zero_add, Nat.reduceLT, z_lt, z_le, z_eq, z_l0, z_g0, z_le0, z_ge0, z_e0, z_e1, z_vp, z_nc, z_rem, z_div, i_ltT, i_ltF, i_leT, i_leF, i_eqT, i_eqF, n_ltT, n_ltF, n_leT, n_leF, n_eqT, n_eqF, tn_9, tn_12, tn_14, tn_20, tn_28, tn_44, tn_52, tn_68, tn_84, tn_100, tn_116, tn_132, fu_e, up_eq, ob_0, ob_b, oi_add, oi_sub, oi_mul, oi_neg, Int.add_zero, Int.zero_add, or_true, true_or, or_false, false_or, and_self, z_i2l, z_l2i, lo_nat, lo_add, lo_sub, lo_mul, lo_0, e_rem, mr_X9_show, mh_X9_show, k0]
    exact hq w _ (by simpa [dg] using hT) hw
  | succ n ih =>
    intro l w hn hT hw hl hq
    have hC := hC0.fx hw
    have hS := hS0.fx hw (fun a a1 a2 q => by unfold T1 at q; omega)
    have k0 := hC.1.1
    have c0 := hC.1.2.1
    have s0 := hS.1.1.1
    have s1 := hS.1.1.2.2.2.1
    have r1 := hS.1.2.2.2.1
    simp only [Nat.reduceAdd] at s1 r1
    have hd := TJ_cnt hG.1.1 n (by omega)
    have hrd := hS.2.1.r_cnt (j := n) (by omega)
    simp only [Nat.reduceAdd] at hrd
    have e1 : (((n + 1 : Nat) : Int) - 1) = (n : Int) := by omega
    rw [dg] at hl hq
    rw [e1]
    rw [if_neg (by omega)] at hl hq
    simp only [List.length_append, List.length_cons, List.length_nil] at hl
    refine rt_X9_show_86 ?_
    simp (disch := omega) only [wp_c, wp_n, jj_n, v_ct, Int.reduceToNat, Int.toNat_natCast, stE, wlE, lgt, lpu, lpw, v_c2, va_s, true_and, and_true, Option.toList, List.nil_append, List.cons_append, List.take, List.drop, List.reverse, List.reverseAux, List.length_cons, List.length_nil, reduceCtorEq, false_implies, true_implies, forall_const, not_true_eq_false, not_false_eq_true, ite_true, ite_false, Bool.false_eq_true, I_I, J_J, Nat.add_left_cancel_iff, Nat.reduceEqDiff, Nat.add_eq_left, Nat.left_eq_add, false_and, and_false, Nat.reduceSub, Nat.sub_self, Nat.le_refl, Nat.zero_le, ge_iff_le, Nat.reduceAdd, Nat.reduceLeDiff, Nat.zero_add, Nat.reduceLT, z_lt, z_le, z_eq, z_l0, z_g0, z_le0, z_ge0, z_e0, z_e1, z_vp, z_nc, z_rem, z_div, i_ltT, i_ltF, i_leT, i_leF, i_eqT, i_eqF, n_ltT, n_ltF, n_leT, n_leF, n_eqT, n_eqF, tn_9, tn_12, tn_14, tn_20, tn_28, tn_44, tn_52, tn_68, tn_84, tn_100, tn_116, tn_132, fu_e, up_eq, ob_0, ob_b, oi_add, oi_sub, oi_mul, oi_neg, Int.add_zero, Int.zero_add, or_true, true_or, or_false, false_or, and_self, z_i2l, z_l2i, lo_nat, lo_add, lo_sub, lo_mul, lo_0, e_rem, mr_X9_show, mh_X9_show, k0, c0, s0, s1, r1, hrd, Int.toNat_natCast]
    refine c_showByte hC hT (by omega) (by omega) fun w2 g1 f1 => ?_
    simp (disch := omega) only [wp_c, wp_n, jj_n, v_ct, Int.reduceToNat, Int.toNat_natCast, stE, wlE, lgt, lpu, lpw, v_c2, va_s, true_and, and_true, Option.toList, List.nil_append, List.cons_append, List.take, List.drop, List.reverse, List.reverseAux, List.length_cons, List.length_nil, reduceCtorEq, false_implies, true_implies, forall_const, not_true_eq_false, not_false_eq_true, ite_true, ite_false, Bool.false_eq_true, I_I, J_J, Nat.add_left_cancel_iff, Nat.reduceEqDiff, Nat.add_eq_left, Nat.left_eq_add, false_and, and_false, Nat.reduceSub, Nat.sub_self, Nat.le_refl, Nat.zero_le, ge_iff_le, Nat.reduceAdd, Nat.reduceLeDiff, Nat.zero_add, Nat.reduceLT, z_lt, z_le, z_eq, z_l0, z_g0, z_le0, z_ge0, z_e0, z_e1, z_vp, z_nc, z_rem, z_div, i_ltT, i_ltF, i_leT, i_leF, i_eqT, i_eqF, n_ltT, n_ltF, n_leT, n_leF, n_eqT, n_eqF, tn_9, tn_12, tn_14, tn_20, tn_28, tn_44, tn_52, tn_68, tn_84, tn_100, tn_116, tn_132, fu_e, up_eq, ob_0, ob_b, oi_add, oi_sub, oi_mul, oi_neg, Int.add_zero, Int.zero_add, or_true, true_or, or_false, false_or, and_self, z_i2l, z_l2i, lo_nat, lo_add, lo_sub, lo_mul, lo_0, e_rem, mr_X9_show, mh_X9_show, k0]
    refine ih (l ++ [48 + A (44 + n)]) w2 (by omega) g1 (hw.trans f1) (by simp; omega) (fun w3 z q1 q2 => hq w3 z ?_ q2)
    simpa using q1
theorem c_sh_128 {A : Row} {mk : Int} {w0 : mW} {Q : mW → mO → Prop} (hC0 : CB w0) (hS0 : MS w0 101 A) (hG : GR A) (hmk : -1 ≤ mk ∧ mk ≤ 100) : ∀ (n : Nat) (l : List Int) (w : mW), n ≤ 8 → TXc w l → FX T1 w0 w → l.length + (dg A 20 (-1) n).length ≤ 48 → (∀ w' z, TXc w' (l ++ dg A 20 (-1) n) → FX T1 w0 w' → RT n_X9_show 154 [.ref 100, .int (Int32.ofInt mk), z] [] w' (0, 0, false) Q) →
    RT n_X9_show 128 [.ref 100, .int (Int32.ofInt mk), .int (Int32.ofInt ((n : Int) - 1))] [] w (0, 0, false) Q := by
  have hz := hG.sz
  intro n
  induction n with
  | zero =>
    intro l w hn hT hw hl hq
    have k0 := (hC0.fx hw).1.1
    refine rt_X9_show_128 ?_
    simp (disch := omega) only [wp_c, wp_n, jj_n, v_ct, Int.reduceToNat, Int.toNat_natCast, stE, wlE, lgt, lpu, lpw, v_c2, va_s, true_and, and_true, Option.toList, List.nil_append, List.cons_append, List.take, List.drop, List.reverse, List.reverseAux, List.length_cons, List.length_nil, reduceCtorEq, false_implies, true_implies, forall_const, not_true_eq_false, not_false_eq_true, ite_true, ite_false, Bool.false_eq_true, I_I, J_J, Nat.add_left_cancel_iff, Nat.reduceEqDiff, Nat.add_eq_left, Nat.left_eq_add, false_and, and_false, Nat.reduceSub, Nat.sub_self, Nat.le_refl, Nat.zero_le, ge_iff_le, Nat.reduceAdd, Nat.reduceLeDiff, Nat.zero_add, Nat.reduceLT, z_lt, z_le, z_eq, z_l0, z_g0, z_le0, z_ge0, z_e0, z_e1, z_vp, z_nc, z_rem, z_div, i_ltT, i_ltF, i_leT, i_leF, i_eqT, i_eqF, n_ltT, n_ltF, n_leT, n_leF, n_eqT, n_eqF, tn_9, tn_12, tn_14, tn_20, tn_28, tn_44, tn_52, tn_68, tn_84, tn_100, tn_116, tn_132, fu_e, up_eq, ob_0, ob_b, oi_add, oi_sub, oi_mul, oi_neg, Int.add_zero, Int.zero_add, or_true, true_or, or_false, false_or, and_self, z_i2l, z_l2i, lo_nat, lo_add, lo_sub, lo_mul, lo_0, e_rem, mr_X9_show, mh_X9_show, k0]
    exact hq w _ (by simpa [dg] using hT) hw
  | succ n ih =>
    intro l w hn hT hw hl hq
    have hC := hC0.fx hw
    have hS := hS0.fx hw (fun a a1 a2 q => by unfold T1 at q; omega)
    have k0 := hC.1.1
    have c0 := hC.1.2.1
    have s0 := hS.1.1.1
    have s1 := hS.1.1.2.1
    have r1 := hS.1.2.1
    simp only [Nat.reduceAdd] at s1 r1
    have hd := TJ_pin hG.1.1 n (by omega)
    have hrd := hS.2.1.r_pin (j := n) (by omega)
    simp only [Nat.reduceAdd] at hrd
    have e1 : (((n + 1 : Nat) : Int) - 1) = (n : Int) := by omega
    rw [dg] at hl hq
    rw [e1]
    rw [if_neg (by omega)] at hl hq
    simp only [List.length_append, List.length_cons, List.length_nil] at hl
    refine rt_X9_show_128 ?_
    simp (disch := omega) only [wp_c, wp_n, jj_n, v_ct, Int.reduceToNat, Int.toNat_natCast, stE, wlE, lgt, lpu, lpw, v_c2, va_s, true_and, and_true, Option.toList, List.nil_append, List.cons_append, List.take, List.drop, List.reverse, List.reverseAux, List.length_cons, List.length_nil, reduceCtorEq, false_implies, true_implies, forall_const, not_true_eq_false, not_false_eq_true, ite_true, ite_false, Bool.false_eq_true, I_I, J_J, Nat.add_left_cancel_iff, Nat.reduceEqDiff, Nat.add_eq_left, Nat.left_eq_add, false_and, and_false, Nat.reduceSub, Nat.sub_self, Nat.le_refl, Nat.zero_le, ge_iff_le, Nat.reduceAdd, Nat.reduceLeDiff, Nat.zero_add, Nat.reduceLT, z_lt, z_le, z_eq, z_l0, z_g0, z_le0, z_ge0, z_e0, z_e1, z_vp, z_nc, z_rem, z_div, i_ltT, i_ltF, i_leT, i_leF, i_eqT, i_eqF, n_ltT, n_ltF, n_leT, n_leF, n_eqT, n_eqF, tn_9, tn_12, tn_14, tn_20, tn_28, tn_44, tn_52, tn_68, tn_84, tn_100, tn_116, tn_132, fu_e, up_eq, ob_0, ob_b, oi_add, oi_sub, oi_mul, oi_neg, Int.add_zero, Int.zero_add, or_true, true_or, or_false, false_or, and_self, z_i2l, z_l2i, lo_nat, lo_add, lo_sub, lo_mul, lo_0, e_rem, mr_X9_show, mh_X9_show, k0, c0, s0, s1, r1, hrd, Int.toNat_natCast]
    refine c_showByte hC hT (by omega) (by omega) fun w2 g1 f1 => ?_
    simp (disch := omega) only [wp_c, wp_n, jj_n, v_ct, Int.reduceToNat, Int.toNat_natCast, stE, wlE, lgt, lpu, lpw, v_c2, va_s, true_and, and_true, Option.toList, List.nil_append, List.cons_append, List.take, List.drop, List.reverse, List.reverseAux, List.length_cons, List.length_nil, reduceCtorEq, false_implies, true_implies, forall_const, not_true_eq_false, not_false_eq_true, ite_true, ite_false, Bool.false_eq_true, I_I, J_J, Nat.add_left_cancel_iff, Nat.reduceEqDiff, Nat.add_eq_left, Nat.left_eq_add, false_and, and_false, Nat.reduceSub, Nat.sub_self, Nat.le_refl, Nat.zero_le, ge_iff_le, Nat.reduceAdd, Nat.reduceLeDiff, Nat.zero_add, Nat.reduceLT, z_lt, z_le, z_eq, z_l0, z_g0, z_le0, z_ge0, z_e0, z_e1, z_vp, z_nc, z_rem, z_div, i_ltT, i_ltF, i_leT, i_leF, i_eqT, i_eqF, n_ltT, n_ltF, n_leT, n_leF, n_eqT, n_eqF, tn_9, tn_12, tn_14, tn_20, tn_28, tn_44, tn_52, tn_68, tn_84, tn_100, tn_116, tn_132, fu_e, up_eq, ob_0, ob_b, oi_add, oi_sub, oi_mul, oi_neg, Int.add_zero, Int.zero_add, or_true, true_or, or_false, false_or, and_self, z_i2l, z_l2i, lo_nat, lo_add, lo_sub, lo_mul, lo_0, e_rem, mr_X9_show, mh_X9_show, k0]
    refine ih (l ++ [48 + A (20 + n)]) w2 (by omega) g1 (hw.trans f1) (by simp; omega) (fun w3 z q1 q2 => hq w3 z ?_ q2)
    simpa using q1
theorem x_show {w : mW} {A : Row} {Z : Zx} {Y : Yx} {X : Xx} {U : Ux} {Q : mW → mO → Prop} (hS : CS w A Z Y X U) (hG : GR A) (hq : ∀ w', CS w' A Z Y X (fun i => (shw A).getD i 0, (shw A).length) → FX CL w w' → Q w' (.inl (some (.int (Int32.ofInt ((shw A).length : Nat)))))) : CT n_X9_show [.ref 100] w Q := by
  have hCS := hS
  obtain ⟨hC, hS, hB, hE, hH, hX, hU⟩ := hS
  have hz := hG.sz
  have hS0 := hS
  have hJ := hG.1.1
  obtain ⟨⟨k0, c0, c1, c2, c3, c4, c5, c6, c7, c8, c9, c10⟩, -⟩ := id hC
  obtain ⟨⟨s0, s1, s2, s3, s4, s5, s6, s7, s8, s9, s10, s11⟩, r6, r7, r8, r9, r10, r11, r12, r13, q2, q10, q11⟩ := hS.1
  simp only [Nat.reduceAdd] at s0 s1 s2 s3 s4 s5 s6 s7 s8 s9 s10 s11 r6 r7 r8 r9 r10 r11 r12 r13 q2 q10 q11
  obtain ⟨⟨b0, b1, b2, b3, b4⟩, -⟩ := id hS.2.1
  have hjm := hS.jam
  simp only [Nat.reduceAdd] at hjm
  have hK := hC
  have hlen := shw_len hJ
  have hsh : shw A = dg A 28 (A 4 + A 0 - 1) (A 1).toNat ++ 32 :: (dg A 44 (-1) (A 2).toNat ++ 32 :: (dg A 20 (-1) (A 0).toNat ++ (if 0 < A 5 then [33] else []))) := rfl
  have h48 : (dg A 28 (A 4 + A 0 - 1) (A 1).toNat).length + 1 + (dg A 44 (-1) (A 2).toNat).length + 1 + (dg A 20 (-1) (A 0).toNat).length ≤ 36 := by
    rw [hsh] at hlen
    simp only [List.length_append, List.length_cons] at hlen
    omega
  refine ct_X9_show (rt_X9_show_0 ?_)
  simp (disch := omega) only [wp_c, wp_n, jj_n, v_ct, Int.reduceToNat, Int.toNat_natCast, stE, wlE, lgt, lpu, lpw, v_c2, va_s, true_and, and_true, Option.toList, List.nil_append, List.cons_append, List.take, List.drop, List.reverse, List.reverseAux, List.length_cons, List.length_nil, reduceCtorEq, false_implies, true_implies, forall_const, not_true_eq_false, not_false_eq_true, ite_true, ite_false, Bool.false_eq_true, I_I, J_J, Nat.add_left_cancel_iff, Nat.reduceEqDiff, Nat.add_eq_left, Nat.left_eq_add, false_and, and_false, Nat.reduceSub, Nat.sub_self, Nat.le_refl, Nat.zero_le, ge_iff_le, Nat.reduceAdd, Nat.reduceLeDiff, Nat.zero_add, Nat.reduceLT, z_lt, z_le, z_eq, z_l0, z_g0, z_le0, z_ge0, z_e0, z_e1, z_vp, z_nc, z_rem, z_div, i_ltT, i_ltF, i_leT, i_leF, i_eqT, i_eqF, n_ltT, n_ltF, n_leT, n_leF, n_eqT, n_eqF, tn_9, tn_12, tn_14, tn_20, tn_28, tn_44, tn_52, tn_68, tn_84, tn_100, tn_116, tn_132, fu_e, up_eq, ob_0, ob_b, oi_add, oi_sub, oi_mul, oi_neg, Int.add_zero, Int.zero_add, or_true, true_or, or_false, false_or, and_self, z_i2l, z_l2i, lo_nat, lo_add, lo_sub, lo_mul, lo_0, e_rem, mr_X9_show, mh_X9_show, k0, c0, c1, c2, c3, c4, c5, c6, c7, c8, c9, c10, s0, s1, s2, s3, s4, s5, s6, s7, s8, s9, s10, s11, r6, r7, r8, r9, r10, r11, r12, r13, q2, q10, q11, b0, b1, b2, b3, b4, hjm]
  have f0 : FX T1 w (s_I w 100 11 (Int32.ofInt 0)) := (FX.refl T1 w).I (Or.inl rfl)
  have tr : ∀ {w1 : mW}, FX T1 w w1 → CB w1 ∧ MS w1 101 A := fun f => ⟨hC.fx f, hS.fx f (fun a a1 a2 q => by unfold T1 at q; omega)⟩
  have t0 : TXc (s_I w 100 11 (Int32.ofInt 0)) [] := ⟨by simp only [wp_c, wp_n, jj_n, v_ct, Int.reduceToNat, Int.toNat_natCast, stE, wlE, lgt, lpu, lpw, v_c2, va_s, true_and, and_true, Option.toList, List.nil_append, List.cons_append, List.take, List.drop, List.reverse, List.reverseAux, List.length_cons, List.length_nil, reduceCtorEq, false_implies, true_implies, forall_const, not_true_eq_false, not_false_eq_true, ite_true, ite_false, Bool.false_eq_true, I_I, J_J, Nat.add_left_cancel_iff, Nat.reduceEqDiff, Nat.add_eq_left, Nat.left_eq_add, false_and, and_false, Nat.reduceSub, Nat.sub_self, Nat.le_refl, Nat.zero_le, ge_iff_le, Nat.reduceAdd, Nat.reduceLeDiff, Nat.zero_add, Nat.reduceLT]; rfl, fun i hi => absurd hi (by simp)⟩
  have e1 : A 1 - 1 = ((A 1).toNat : Int) - 1 := by omega
  rw [e1]
  refine c_sh_33 hC hS hG (by omega) (A 1).toNat [] _ (by omega) t0 f0 (by simp; omega) fun w1 z q1 f1 => ?_
  obtain ⟨hC1, hS1⟩ := tr f1
  have k1 := hC1.1.1
  refine rt_X9_show_70 ?_
  simp (disch := omega) only [wp_c, wp_n, jj_n, v_ct, Int.reduceToNat, Int.toNat_natCast, stE, wlE, lgt, lpu, lpw, v_c2, va_s, true_and, and_true, Option.toList, List.nil_append, List.cons_append, List.take, List.drop, List.reverse, List.reverseAux, List.length_cons, List.length_nil, reduceCtorEq, false_implies, true_implies, forall_const, not_true_eq_false, not_false_eq_true, ite_true, ite_false, Bool.false_eq_true, I_I, J_J, Nat.add_left_cancel_iff, Nat.reduceEqDiff, Nat.add_eq_left, Nat.left_eq_add, false_and, and_false, Nat.reduceSub, Nat.sub_self, Nat.le_refl, Nat.zero_le, ge_iff_le, Nat.reduceAdd, Nat.reduceLeDiff, Nat.zero_add, Nat.reduceLT, z_lt, z_le, z_eq, z_l0, z_g0, z_le0, z_ge0, z_e0, z_e1, z_vp, z_nc, z_rem, z_div, i_ltT, i_ltF, i_leT, i_leF, i_eqT, i_eqF, n_ltT, n_ltF, n_leT, n_leF, n_eqT, n_eqF, tn_9, tn_12, tn_14, tn_20, tn_28, tn_44, tn_52, tn_68, tn_84, tn_100, tn_116, tn_132, fu_e, up_eq, ob_0, ob_b, oi_add, oi_sub, oi_mul, oi_neg, Int.add_zero, Int.zero_add, or_true, true_or, or_false, false_or, and_self, z_i2l, z_l2i, lo_nat, lo_add, lo_sub, lo_mul, lo_0, e_rem, mr_X9_show, mh_X9_show, k1]
  refine c_showByte hC1 q1 (by simp; omega) (by omega) fun w2 q2 f2 => ?_
  have f2 := f1.trans f2
  obtain ⟨hC2, hS2⟩ := tr f2
  have k2 := hC2.1.1
  have d2 := hC2.1.2.1
  have s2 := hS2.1.1.1
  have m2 := hS2.2.1.1.2.2.1
  simp (disch := omega) only [wp_c, wp_n, jj_n, v_ct, Int.reduceToNat, Int.toNat_natCast, stE, wlE, lgt, lpu, lpw, v_c2, va_s, true_and, and_true, Option.toList, List.nil_append, List.cons_append, List.take, List.drop, List.reverse, List.reverseAux, List.length_cons, List.length_nil, reduceCtorEq, false_implies, true_implies, forall_const, not_true_eq_false, not_false_eq_true, ite_true, ite_false, Bool.false_eq_true, I_I, J_J, Nat.add_left_cancel_iff, Nat.reduceEqDiff, Nat.add_eq_left, Nat.left_eq_add, false_and, and_false, Nat.reduceSub, Nat.sub_self, Nat.le_refl, Nat.zero_le, ge_iff_le, Nat.reduceAdd, Nat.reduceLeDiff, Nat.zero_add, Nat.reduceLT, z_lt, z_le, z_eq, z_l0, z_g0, z_le0, z_ge0, z_e0, z_e1, z_vp, z_nc, z_rem, z_div, i_ltT, i_ltF, i_leT, i_leF, i_eqT, i_eqF, n_ltT, n_ltF, n_leT, n_leF, n_eqT, n_eqF, tn_9, tn_12, tn_14, tn_20, tn_28, tn_44, tn_52, tn_68, tn_84, tn_100, tn_116, tn_132, fu_e, up_eq, ob_0, ob_b, oi_add, oi_sub, oi_mul, oi_neg, Int.add_zero, Int.zero_add, or_true, true_or, or_false, false_or, and_self, z_i2l, z_l2i, lo_nat, lo_add, lo_sub, lo_mul, lo_0, e_rem, mr_X9_show, mh_X9_show, k2, d2, s2, m2]
  have e2 : A 2 - 1 = ((A 2).toNat : Int) - 1 := by omega
  rw [e2]
  refine c_sh_86 hC hS hG (by omega) (A 2).toNat _ w2 (by omega) q2 f2 (by simp; omega) fun w3 z3 q3 f3 => ?_
  obtain ⟨hC3, hS3⟩ := tr f3
  have k3 := hC3.1.1
  refine rt_X9_show_112 ?_
  simp (disch := omega) only [wp_c, wp_n, jj_n, v_ct, Int.reduceToNat, Int.toNat_natCast, stE, wlE, lgt, lpu, lpw, v_c2, va_s, true_and, and_true, Option.toList, List.nil_append, List.cons_append, List.take, List.drop, List.reverse, List.reverseAux, List.length_cons, List.length_nil, reduceCtorEq, false_implies, true_implies, forall_const, not_true_eq_false, not_false_eq_true, ite_true, ite_false, Bool.false_eq_true, I_I, J_J, Nat.add_left_cancel_iff, Nat.reduceEqDiff, Nat.add_eq_left, Nat.left_eq_add, false_and, and_false, Nat.reduceSub, Nat.sub_self, Nat.le_refl, Nat.zero_le, ge_iff_le, Nat.reduceAdd, Nat.reduceLeDiff, Nat.zero_add, Nat.reduceLT, z_lt, z_le, z_eq, z_l0, z_g0, z_le0, z_ge0, z_e0, z_e1, z_vp, z_nc, z_rem, z_div, i_ltT, i_ltF, i_leT, i_leF, i_eqT, i_eqF, n_ltT, n_ltF, n_leT, n_leF, n_eqT, n_eqF, tn_9, tn_12, tn_14, tn_20, tn_28, tn_44, tn_52, tn_68, tn_84, tn_100, tn_116, tn_132, fu_e, up_eq, ob_0, ob_b, oi_add, oi_sub, oi_mul, oi_neg, Int.add_zero, Int.zero_add, or_true, true_or, or_false, false_or, and_self, z_i2l, z_l2i, lo_nat, lo_add, lo_sub, lo_mul, lo_0, e_rem, mr_X9_show, mh_X9_show, k3]
  refine c_showByte hC3 q3 (by simp; omega) (by omega) fun w4 q4 f4 => ?_
  have f4 := f3.trans f4
  obtain ⟨hC4, hS4⟩ := tr f4
  have k4 := hC4.1.1
  have d4 := hC4.1.2.1
  have s4 := hS4.1.1.1
  have m4 := hS4.2.1.1.1
  simp (disch := omega) only [wp_c, wp_n, jj_n, v_ct, Int.reduceToNat, Int.toNat_natCast, stE, wlE, lgt, lpu, lpw, v_c2, va_s, true_and, and_true, Option.toList, List.nil_append, List.cons_append, List.take, List.drop, List.reverse, List.reverseAux, List.length_cons, List.length_nil, reduceCtorEq, false_implies, true_implies, forall_const, not_true_eq_false, not_false_eq_true, ite_true, ite_false, Bool.false_eq_true, I_I, J_J, Nat.add_left_cancel_iff, Nat.reduceEqDiff, Nat.add_eq_left, Nat.left_eq_add, false_and, and_false, Nat.reduceSub, Nat.sub_self, Nat.le_refl, Nat.zero_le, ge_iff_le, Nat.reduceAdd, Nat.reduceLeDiff, Nat.zero_add, Nat.reduceLT, z_lt, z_le, z_eq, z_l0, z_g0, z_le0, z_ge0, z_e0, z_e1, z_vp, z_nc, z_rem, z_div, i_ltT, i_ltF, i_leT, i_leF, i_eqT, i_eqF, n_ltT, n_ltF, n_leT, n_leF, n_eqT, n_eqF, tn_9, tn_12, tn_14, tn_20, tn_28, tn_44, tn_52, tn_68, tn_84, tn_100, tn_116, tn_132, fu_e, up_eq, ob_0, ob_b, oi_add, oi_sub, oi_mul, oi_neg, Int.add_zero, Int.zero_add, or_true, true_or, or_false, false_or, and_self, z_i2l, z_l2i, lo_nat, lo_add, lo_sub, lo_mul, lo_0, e_rem, mr_X9_show, mh_X9_show, k4, d4, s4, m4]
  have e0 : A 0 - 1 = ((A 0).toNat : Int) - 1 := by omega
  rw [e0]
  refine c_sh_128 hC hS hG (by omega) (A 0).toNat _ w4 (by omega) q4 f4 (by simp; omega) fun w5 z5 q5 f5 => ?_
  obtain ⟨hC5, hS5⟩ := tr f5
  have k5 := hC5.1.1
  have d5 := hC5.1.2.1
  have s5 := hS5.1.1.1
  have s95 := hS5.1.1.2.2.2.2.2.2.2.2.2.1
  have r135 := hS5.1.2.2.2.2.2.2.2.2.1
  have hj5 := hS5.jam
  simp only [Nat.reduceAdd] at s95 r135 hj5
  have fin : ∀ w6, FX T1 w w6 → TXc w6 (shw A) → RT n_X9_show 173 [.ref 100, .int (Int32.ofInt (A 4 + A 0 - 1)), z5] [] w6 (0, 0, false) Q := by
    intro w6 f6 q6
    obtain ⟨hC6, hS6⟩ := tr f6
    have k6 := hC6.1.1
    refine rt_X9_show_173 ?_
    simp (disch := omega) only [wp_c, wp_n, jj_n, v_ct, Int.reduceToNat, Int.toNat_natCast, stE, wlE, lgt, lpu, lpw, v_c2, va_s, true_and, and_true, Option.toList, List.nil_append, List.cons_append, List.take, List.drop, List.reverse, List.reverseAux, List.length_cons, List.length_nil, reduceCtorEq, false_implies, true_implies, forall_const, not_true_eq_false, not_false_eq_true, ite_true, ite_false, Bool.false_eq_true, I_I, J_J, Nat.add_left_cancel_iff, Nat.reduceEqDiff, Nat.add_eq_left, Nat.left_eq_add, false_and, and_false, Nat.reduceSub, Nat.sub_self, Nat.le_refl, Nat.zero_le, ge_iff_le, Nat.reduceAdd, Nat.reduceLeDiff, Nat.zero_add, Nat.reduceLT, z_lt, z_le, z_eq, z_l0, z_g0, z_le0, z_ge0, z_e0, z_e1, z_vp, z_nc, z_rem, z_div, i_ltT, i_ltF, i_leT, i_leF, i_eqT, i_eqF, n_ltT, n_ltF, n_leT, n_leF, n_eqT, n_eqF, tn_9, tn_12, tn_14, tn_20, tn_28, tn_44, tn_52, tn_68, tn_84, tn_100, tn_116, tn_132, fu_e, up_eq, ob_0, ob_b, oi_add, oi_sub, oi_mul, oi_neg, Int.add_zero, Int.zero_add, or_true, true_or, or_false, false_or, and_self, z_i2l, z_l2i, lo_nat, lo_add, lo_sub, lo_mul, lo_0, e_rem, mr_X9_show, mh_X9_show, k6, q6.1]
    exact hq w6 ⟨hC6, hS6, hB.fx f6 (by unfold T1; omega) (by unfold T1; omega), hE.fx f6 (by unfold T1; omega), hH.fx f6 (fun a a1 a2 q => by unfold T1 at q; omega), hX.fx f6 (by unfold T1; omega) (fun a a1 a2 q => by unfold T1 at q; omega), ⟨q6.1, by show (shw A).length ≤ 40; omega, q6.2⟩⟩ (f6.mono (fun a q => by unfold T1 at q; unfold CL; omega))
  refine rt_X9_show_154 ?_
  simp (disch := omega) only [wp_c, wp_n, jj_n, v_ct, Int.reduceToNat, Int.toNat_natCast, stE, wlE, lgt, lpu, lpw, v_c2, va_s, true_and, and_true, Option.toList, List.nil_append, List.cons_append, List.take, List.drop, List.reverse, List.reverseAux, List.length_cons, List.length_nil, reduceCtorEq, false_implies, true_implies, forall_const, not_true_eq_false, not_false_eq_true, ite_true, ite_false, Bool.false_eq_true, I_I, J_J, Nat.add_left_cancel_iff, Nat.reduceEqDiff, Nat.add_eq_left, Nat.left_eq_add, false_and, and_false, Nat.reduceSub, Nat.sub_self, Nat.le_refl, Nat.zero_le, ge_iff_le, Nat.reduceAdd, Nat.reduceLeDiff, Nat.zero_add, Nat.reduceLT, z_lt, z_le, z_eq, z_l0, z_g0, z_le0, z_ge0, z_e0, z_e1, z_vp, z_nc, z_rem, z_div, i_ltT, i_ltF, i_leT, i_leF, i_eqT, i_eqF, n_ltT, n_ltF, n_leT, n_leF, n_eqT, n_eqF, tn_9, tn_12, tn_14, tn_20, tn_28, tn_44, tn_52, tn_68, tn_84, tn_100, tn_116, tn_132, fu_e, up_eq, ob_0, ob_b, oi_add, oi_sub, oi_mul, oi_neg, Int.add_zero, Int.zero_add, or_true, true_or, or_false, false_or, and_self, z_i2l, z_l2i, lo_nat, lo_add, lo_sub, lo_mul, lo_0, e_rem, mr_X9_show, mh_X9_show, k5, d5, s5, s95, r135, hj5, ob_0]
  refine ⟨fun h5 => fin w5 f5 ?_, fun h5 => ?_⟩
  · rw [hsh, if_neg h5]; simpa using q5
  · refine c_showByte hC5 q5 (by simp; omega) (by omega) fun w6 q6 f6 => ?_
    simp (disch := omega) only [wp_c, wp_n, jj_n, v_ct, Int.reduceToNat, Int.toNat_natCast, stE, wlE, lgt, lpu, lpw, v_c2, va_s, true_and, and_true, Option.toList, List.nil_append, List.cons_append, List.take, List.drop, List.reverse, List.reverseAux, List.length_cons, List.length_nil, reduceCtorEq, false_implies, true_implies, forall_const, not_true_eq_false, not_false_eq_true, ite_true, ite_false, Bool.false_eq_true, I_I, J_J, Nat.add_left_cancel_iff, Nat.reduceEqDiff, Nat.add_eq_left, Nat.left_eq_add, false_and, and_false, Nat.reduceSub, Nat.sub_self, Nat.le_refl, Nat.zero_le, ge_iff_le, Nat.reduceAdd, Nat.reduceLeDiff, Nat.zero_add, Nat.reduceLT, z_lt, z_le, z_eq, z_l0, z_g0, z_le0, z_ge0, z_e0, z_e1, z_vp, z_nc, z_rem, z_div, i_ltT, i_ltF, i_leT, i_leF, i_eqT, i_eqF, n_ltT, n_ltF, n_leT, n_leF, n_eqT, n_eqF, tn_9, tn_12, tn_14, tn_20, tn_28, tn_44, tn_52, tn_68, tn_84, tn_100, tn_116, tn_132, fu_e, up_eq, ob_0, ob_b, oi_add, oi_sub, oi_mul, oi_neg, Int.add_zero, Int.zero_add, or_true, true_or, or_false, false_or, and_self, z_i2l, z_l2i, lo_nat, lo_add, lo_sub, lo_mul, lo_0, e_rem, mr_X9_show, mh_X9_show, k5]
    refine fin w6 (f5.trans f6) ?_
    rw [hsh, if_pos (by omega)]; simpa using q6
/-! the class's setup and script, whole -/
def CQ (a : Nat) : Prop := (113 ≤ a ∧ a < 125) ∨ a = 279 ∨ a = 277 ∨ a = 275
theorem c_sl_46 {w0 : mW} {Q : mW → mO → Prop} (hC0 : CB w0) : ∀ (m k : Nat) (w : mW), k + m = 2 → FX (fun a => a = 272) w0 w → (∀ i, i < k → w_I w 272 i = Int32.ofInt 0) → (∀ w' z, FX (fun a => a = 272) w0 w' → (∀ i, i < 2 → w_I w' 272 i = Int32.ofInt 0) → RT n_X9_setup 64 [.ref 100, .int (Int32.ofInt 1), z] [] w' (0, 0, false) Q) → RT n_X9_setup 46 [.ref 100, .int (Int32.ofInt 1), .int (Int32.ofInt k)] [] w (0, 0, false) Q := by
  intro m
  induction m with
  | zero =>
    intro k w hk hw hz hq
    have k0 := (hC0.fx hw).1.1
    refine rt_X9_setup_46 ?_
    simp (disch := omega) only [wp_c, wp_n, jj_n, v_ct, Int.reduceToNat, Int.toNat_natCast, stE, wlE, lgt, lpu, lpw, v_c2, va_s, true_and, and_true, Option.toList, List.nil_append, List.cons_append, List.take, List.drop, List.reverse, List.reverseAux, List.length_cons, List.length_nil, reduceCtorEq, false_implies, true_implies, forall_const, not_true_eq_false, not_false_eq_true, ite_true, ite_false, Bool.false_eq_true, I_I, J_J, Nat.add_left_cancel_iff, Nat.reduceEqDiff, Nat.add_eq_left, Nat.left_eq_add, false_and, and_false, Nat.reduceSub, Nat.sub_self, Nat.le_refl, Nat.zero_le, ge_iff_le, Nat.reduceAdd, Nat.reduceLeDiff, Nat.zero_add, Nat.reduceLT, z_lt, z_le, z_eq, z_l0, z_g0, z_le0, z_ge0, z_e0, z_e1, z_vp, z_nc, z_rem, z_div, i_ltT, i_ltF, i_leT, i_leF, i_eqT, i_eqF, n_ltT, n_ltF, n_leT, n_leF, n_eqT, n_eqF, tn_9, tn_12, tn_14, tn_20, tn_28, tn_44, tn_52, tn_68, tn_84, tn_100, tn_116, tn_132, fu_e, up_eq, ob_0, ob_b, oi_add, oi_sub, oi_mul, oi_neg, Int.add_zero, Int.zero_add, or_true, true_or, or_false, false_or, and_self, z_i2l, z_l2i, lo_nat, lo_add, lo_sub, lo_mul, lo_0, e_rem, mr_X9_setup, mh_X9_setup, k0]
    exact hq w _ hw (fun i hi => hz i (by omega))
  | succ m ih =>
    intro k w hk hw hz hq
    have hC := hC0.fx hw
    have k0 := hC.1.1
    have c4 := hC.1.2.2.2.2.2.1
    have g7 := hC.2.2.1.2.1
    have e1 : vp_nar .boolean (Int32.ofInt 0) = Int32.ofInt 0 := nar_b ⟨by omega, by omega⟩
    refine rt_X9_setup_46 ?_
    simp (disch := omega) only [wp_c, wp_n, jj_n, v_ct, Int.reduceToNat, Int.toNat_natCast, stE, wlE, lgt, lpu, lpw, v_c2, va_s, true_and, and_true, Option.toList, List.nil_append, List.cons_append, List.take, List.drop, List.reverse, List.reverseAux, List.length_cons, List.length_nil, reduceCtorEq, false_implies, true_implies, forall_const, not_true_eq_false, not_false_eq_true, ite_true, ite_false, Bool.false_eq_true, I_I, J_J, Nat.add_left_cancel_iff, Nat.reduceEqDiff, Nat.add_eq_left, Nat.left_eq_add, false_and, and_false, Nat.reduceSub, Nat.sub_self, Nat.le_refl, Nat.zero_le, ge_iff_le, Nat.reduceAdd, Nat.reduceLeDiff, Nat.zero_add, Nat.reduceLT, z_lt, z_le, z_eq, z_l0, z_g0, z_le0, z_ge0, z_e0, z_e1, z_vp, z_nc, z_rem, z_div, i_ltT, i_ltF, i_leT, i_leF, i_eqT, i_eqF, n_ltT, n_ltF, n_leT, n_leF, n_eqT, n_eqF, tn_9, tn_12, tn_14, tn_20, tn_28, tn_44, tn_52, tn_68, tn_84, tn_100, tn_116, tn_132, fu_e, up_eq, ob_0, ob_b, oi_add, oi_sub, oi_mul, oi_neg, Int.add_zero, Int.zero_add, or_true, true_or, or_false, false_or, and_self, z_i2l, z_l2i, lo_nat, lo_add, lo_sub, lo_mul, lo_0, e_rem, mr_X9_setup, mh_X9_setup, k0, c4, g7, e1, Int.toNat_natCast]
    have := ih (k + 1) (s_I w 272 k (Int32.ofInt 0)) (by omega) (hw.I rfl) (fun i hi => by
      simp only [wp_c, wp_n, jj_n, v_ct, Int.reduceToNat, Int.toNat_natCast, stE, wlE, lgt, lpu, lpw, v_c2, va_s, true_and, and_true, Option.toList, List.nil_append, List.cons_append, List.take, List.drop, List.reverse, List.reverseAux, List.length_cons, List.length_nil, reduceCtorEq, false_implies, true_implies, forall_const, not_true_eq_false, not_false_eq_true, ite_true, ite_false, Bool.false_eq_true, I_I, J_J, Nat.add_left_cancel_iff, Nat.reduceEqDiff, Nat.add_eq_left, Nat.left_eq_add, false_and, and_false, Nat.reduceSub, Nat.sub_self, Nat.le_refl, Nat.zero_le, ge_iff_le, Nat.reduceAdd, Nat.reduceLeDiff, Nat.zero_add, Nat.reduceLT]
      by_cases e : i = k
      · rw [if_pos e]
      · rw [if_neg e]; exact hz i (by omega)) hq
    simpa using this
theorem x_setup {w : mW} {A : Row} {Z : Zx} {Y : Yx} {X : Xx} {U : Ux} {Q : mW → mO → Prop} (hS : CS w A Z Y X U) (hG : GR A) (hbad : ∀ c p, s_run Z.1 Z.2.1 900 (n_rw A) (fun _ => false) (tok Z.1 Z.2.1 0) = .inl (c, p) → ∀ w', CS w' A (Z.1, 0, (c : Int), (p : Int)) Y X U → FX CL w w' → Q w' (.inl (some (.int (Int32.ofInt (-1)))))) (hgood : ∀ A1, s_run Z.1 Z.2.1 900 (n_rw A) (fun _ => false) (tok Z.1 Z.2.1 0) = .inr A1 → ∀ w', CS w' A1 (Z.1, 0, 0, -1) (Y.1, 0) (fun _ => false, X.2) U → FX CL w w' → Q w' (.inl (some (.int (Int32.ofInt (A1 1)))))) : CT n_X9_setup [.ref 100] w Q := by
  have hCS := hS
  obtain ⟨hC, hS, hB, hE, hH, hX, hU⟩ := hS
  have hz := hG.sz
  have hS0 := hS
  have hJ := hG.1.1
  obtain ⟨⟨k0, c0, c1, c2, c3, c4, c5, c6, c7, c8, c9, c10⟩, -⟩ := id hC
  obtain ⟨⟨s0, s1, s2, s3, s4, s5, s6, s7, s8, s9, s10, s11⟩, r6, r7, r8, r9, r10, r11, r12, r13, q2, q10, q11⟩ := hS.1
  simp only [Nat.reduceAdd] at s0 s1 s2 s3 s4 s5 s6 s7 s8 s9 s10 s11 r6 r7 r8 r9 r10 r11 r12 r13 q2 q10 q11
  obtain ⟨⟨b0, b1, b2, b3, b4⟩, -⟩ := id hS.2.1
  have hjm := hS.jam
  simp only [Nat.reduceAdd] at hjm
  have hK := hC
  have hT : TB w := ⟨hC.2.2.2.2.1, hC.2.2.2.2.2.1⟩
  have hSB : SB w := hC.2.2.2.2.2.2.1
  have m8 := hSB.1
  have c6 := hC.1.2.2.2.2.2.2.2.1
  have s5 := hT.1.1
  refine ct_X9_setup (rt_X9_setup_0 ?_)
  simp (disch := omega) only [wp_c, wp_n, jj_n, v_ct, Int.reduceToNat, Int.toNat_natCast, stE, wlE, lgt, lpu, lpw, v_c2, va_s, true_and, and_true, Option.toList, List.nil_append, List.cons_append, List.take, List.drop, List.reverse, List.reverseAux, List.length_cons, List.length_nil, reduceCtorEq, false_implies, true_implies, forall_const, not_true_eq_false, not_false_eq_true, ite_true, ite_false, Bool.false_eq_true, I_I, J_J, Nat.add_left_cancel_iff, Nat.reduceEqDiff, Nat.add_eq_left, Nat.left_eq_add, false_and, and_false, Nat.reduceSub, Nat.sub_self, Nat.le_refl, Nat.zero_le, ge_iff_le, Nat.reduceAdd, Nat.reduceLeDiff, Nat.zero_add, Nat.reduceLT, z_lt, z_le, z_eq, z_l0, z_g0, z_le0, z_ge0, z_e0, z_e1, z_vp, z_nc, z_rem, z_div, i_ltT, i_ltF, i_leT, i_leF, i_eqT, i_eqF, n_ltT, n_ltF, n_leT, n_leF, n_eqT, n_eqF, tn_9, tn_12, tn_14, tn_20, tn_28, tn_44, tn_52, tn_68, tn_84, tn_100, tn_116, tn_132, fu_e, up_eq, ob_0, ob_b, oi_add, oi_sub, oi_mul, oi_neg, Int.add_zero, Int.zero_add, or_true, true_or, or_false, false_or, and_self, z_i2l, z_l2i, lo_nat, lo_add, lo_sub, lo_mul, lo_0, e_rem, mr_X9_setup, mh_X9_setup, k0, c8, c1, m8]
  -- the buffer is emptied
  have emp : ∀ w1 : mW, FX SQ w w1 → FX CQ w (s_I w1 275 0 (Int32.ofInt 0)) := fun w1 f => (f.mono (fun a q => by unfold SQ SP at q; unfold CQ; omega)).I (by unfold CQ; omega)
  have nq : ∀ a, CQ a → (113 ≤ a ∧ a < 125) ∨ a = 279 ∨ a = 277 ∨ a = 275 := fun a q => q
  have ib0 : ∀ w1 : mW, IB (s_I w1 275 0 (Int32.ofInt 0)) Z.1 0 := fun w1 => ⟨by omega, by simp only [wp_c, wp_n, jj_n, v_ct, Int.reduceToNat, Int.toNat_natCast, stE, wlE, lgt, lpu, lpw, v_c2, va_s, true_and, and_true, Option.toList, List.nil_append, List.cons_append, List.take, List.drop, List.reverse, List.reverseAux, List.length_cons, List.length_nil, reduceCtorEq, false_implies, true_implies, forall_const, not_true_eq_false, not_false_eq_true, ite_true, ite_false, Bool.false_eq_true, I_I, J_J, Nat.add_left_cancel_iff, Nat.reduceEqDiff, Nat.add_eq_left, Nat.left_eq_add, false_and, and_false, Nat.reduceSub, Nat.sub_self, Nat.le_refl, Nat.zero_le, ge_iff_le, Nat.reduceAdd, Nat.reduceLeDiff, Nat.zero_add, Nat.reduceLT]; rfl, fun i hi => absurd hi (by omega)⟩
  refine c_readInto (A := A) hT hB hSB hC.2.1.2.1 (fun c p he w1 f1 e0 e1 => ?_) (fun A1 he w1 f1 e0 e1 hS1 hJ1 => ?_)
  · have hC1 := hC.fx f1
    have k1 := hC1.1.1
    have d6 := hC1.1.2.2.2.2.2.2.2.1
    have s51 := hC1.2.2.2.2.1.1
    simp (disch := omega) only [wp_c, wp_n, jj_n, v_ct, Int.reduceToNat, Int.toNat_natCast, stE, wlE, lgt, lpu, lpw, v_c2, va_s, true_and, and_true, Option.toList, List.nil_append, List.cons_append, List.take, List.drop, List.reverse, List.reverseAux, List.length_cons, List.length_nil, reduceCtorEq, false_implies, true_implies, forall_const, not_true_eq_false, not_false_eq_true, ite_true, ite_false, Bool.false_eq_true, I_I, J_J, Nat.add_left_cancel_iff, Nat.reduceEqDiff, Nat.add_eq_left, Nat.left_eq_add, false_and, and_false, Nat.reduceSub, Nat.sub_self, Nat.le_refl, Nat.zero_le, ge_iff_le, Nat.reduceAdd, Nat.reduceLeDiff, Nat.zero_add, Nat.reduceLT, z_lt, z_le, z_eq, z_l0, z_g0, z_le0, z_ge0, z_e0, z_e1, z_vp, z_nc, z_rem, z_div, i_ltT, i_ltF, i_leT, i_leF, i_eqT, i_eqF, n_ltT, n_ltF, n_leT, n_leF, n_eqT, n_eqF, tn_9, tn_12, tn_14, tn_20, tn_28, tn_44, tn_52, tn_68, tn_84, tn_100, tn_116, tn_132, fu_e, up_eq, ob_0, ob_b, oi_add, oi_sub, oi_mul, oi_neg, Int.add_zero, Int.zero_add, or_true, true_or, or_false, false_or, and_self, z_i2l, z_l2i, lo_nat, lo_add, lo_sub, lo_mul, lo_0, e_rem, mr_X9_setup, mh_X9_setup, k1, d6, s51]
    have f2 := emp w1 f1
    refine hbad c p he _ ⟨hC.fx f2, hS.fx f2 (fun a a1 a2 q => by have := nq a q; omega), ib0 w1, ⟨?_, ?_⟩, hH.fx f2 (fun a a1 a2 q => by have := nq a q; omega), hX.fx f2 (by unfold CQ; omega) (fun a a1 a2 q => by have := nq a q; omega), hU.fx f2 (by unfold CQ; omega) (by unfold CQ; omega)⟩ (f2.mono (fun a q => by have := nq a q; unfold CL; omega))
    · rw [II_ne (by omega)]; exact e0
    · rw [II_ne (by omega)]; exact e1
  · have hG1 := sr_GR he
    have hC1 := hC.fx f1
    have k1 := hC1.1.1
    have d6 := hC1.1.2.2.2.2.2.2.2.1
    have s51 := hC1.2.2.2.2.1.1
    simp (disch := omega) only [wp_c, wp_n, jj_n, v_ct, Int.reduceToNat, Int.toNat_natCast, stE, wlE, lgt, lpu, lpw, v_c2, va_s, true_and, and_true, Option.toList, List.nil_append, List.cons_append, List.take, List.drop, List.reverse, List.reverseAux, List.length_cons, List.length_nil, reduceCtorEq, false_implies, true_implies, forall_const, not_true_eq_false, not_false_eq_true, ite_true, ite_false, Bool.false_eq_true, I_I, J_J, Nat.add_left_cancel_iff, Nat.reduceEqDiff, Nat.add_eq_left, Nat.left_eq_add, false_and, and_false, Nat.reduceSub, Nat.sub_self, Nat.le_refl, Nat.zero_le, ge_iff_le, Nat.reduceAdd, Nat.reduceLeDiff, Nat.zero_add, Nat.reduceLT, z_lt, z_le, z_eq, z_l0, z_g0, z_le0, z_ge0, z_e0, z_e1, z_vp, z_nc, z_rem, z_div, i_ltT, i_ltF, i_leT, i_leF, i_eqT, i_eqF, n_ltT, n_ltF, n_leT, n_leF, n_eqT, n_eqF, tn_9, tn_12, tn_14, tn_20, tn_28, tn_44, tn_52, tn_68, tn_84, tn_100, tn_116, tn_132, fu_e, up_eq, ob_0, ob_b, oi_add, oi_sub, oi_mul, oi_neg, Int.add_zero, Int.zero_add, or_true, true_or, or_false, false_or, and_self, z_i2l, z_l2i, lo_nat, lo_add, lo_sub, lo_mul, lo_0, e_rem, mr_X9_setup, mh_X9_setup, k1, d6, s51]
    have f2 := emp w1 f1
    have f12 : FX (fun a => a = 275) w1 (s_I w1 275 0 (Int32.ofInt 0)) := (FX.refl _ w1).I rfl
    have hib := ib0 w1
    have ee0 : w_I (s_I w1 275 0 (Int32.ofInt 0)) 277 0 = Int32.ofInt 0 := by rw [II_ne (by omega)]; exact e0
    have ee1 : w_I (s_I w1 275 0 (Int32.ofInt 0)) 277 1 = Int32.ofInt (-1) := by rw [II_ne (by omega)]; exact e1
    generalize s_I w1 275 0 (Int32.ofInt 0) = w2 at f2 f12 hib ee0 ee1 ⊢
    have hS2 := hS1.fx f12 (fun a a1 a2 q => by omega)
    have hC2 := hC.fx f2
    have k2 := hC2.1.1
    have a2 := hC2.1.2.1
    have b2' := hC2.1.2.2.1
    have s02 := hC2.2.1.1.1.1
    have s12 := hC2.2.1.2.1.1.1
    refine rt_X9_setup_26 ?_
    simp (disch := omega) only [wp_c, wp_n, jj_n, v_ct, Int.reduceToNat, Int.toNat_natCast, stE, wlE, lgt, lpu, lpw, v_c2, va_s, true_and, and_true, Option.toList, List.nil_append, List.cons_append, List.take, List.drop, List.reverse, List.reverseAux, List.length_cons, List.length_nil, reduceCtorEq, false_implies, true_implies, forall_const, not_true_eq_false, not_false_eq_true, ite_true, ite_false, Bool.false_eq_true, I_I, J_J, Nat.add_left_cancel_iff, Nat.reduceEqDiff, Nat.add_eq_left, Nat.left_eq_add, false_and, and_false, Nat.reduceSub, Nat.sub_self, Nat.le_refl, Nat.zero_le, ge_iff_le, Nat.reduceAdd, Nat.reduceLeDiff, Nat.zero_add, Nat.reduceLT, z_lt, z_le, z_eq, z_l0, z_g0, z_le0, z_ge0, z_e0, z_e1, z_vp, z_nc, z_rem, z_div, i_ltT, i_ltF, i_leT, i_leF, i_eqT, i_eqF, n_ltT, n_ltF, n_leT, n_leF, n_eqT, n_eqF, tn_9, tn_12, tn_14, tn_20, tn_28, tn_44, tn_52, tn_68, tn_84, tn_100, tn_116, tn_132, fu_e, up_eq, ob_0, ob_b, oi_add, oi_sub, oi_mul, oi_neg, Int.add_zero, Int.zero_add, or_true, true_or, or_false, false_or, and_self, z_i2l, z_l2i, lo_nat, lo_add, lo_sub, lo_mul, lo_0, e_rem, mr_X9_setup, mh_X9_setup, k2, a2, b2', s02, s12]
    refine c_copyFrom (by omega) hC2.2.1.1 hS2 hJ1 fun w3 g1 g2 => ?_
    have f3 : FX (fun a => 101 ≤ a ∧ a < 113) w2 w3 := g2.toX (fun a a1 a2 => ⟨a1, by omega⟩)
    have hC3 := hC2.fx f3
    have k3 := hC3.1.1
    have c23 := hC3.1.2.2.2.1
    have s53 := hC3.2.1.2.2.1
    have hH3 : HR w3 Y.1 Y.2 := (hH.fx f2 (fun a a1 a2 q => by have := nq a q; omega)).fx f3 (fun a a1 a2 q => by omega)
    simp (disch := omega) only [wp_c, wp_n, jj_n, v_ct, Int.reduceToNat, Int.toNat_natCast, stE, wlE, lgt, lpu, lpw, v_c2, va_s, true_and, and_true, Option.toList, List.nil_append, List.cons_append, List.take, List.drop, List.reverse, List.reverseAux, List.length_cons, List.length_nil, reduceCtorEq, false_implies, true_implies, forall_const, not_true_eq_false, not_false_eq_true, ite_true, ite_false, Bool.false_eq_true, I_I, J_J, Nat.add_left_cancel_iff, Nat.reduceEqDiff, Nat.add_eq_left, Nat.left_eq_add, false_and, and_false, Nat.reduceSub, Nat.sub_self, Nat.le_refl, Nat.zero_le, ge_iff_le, Nat.reduceAdd, Nat.reduceLeDiff, Nat.zero_add, Nat.reduceLT, z_lt, z_le, z_eq, z_l0, z_g0, z_le0, z_ge0, z_e0, z_e1, z_vp, z_nc, z_rem, z_div, i_ltT, i_ltF, i_leT, i_leF, i_eqT, i_eqF, n_ltT, n_ltF, n_leT, n_leF, n_eqT, n_eqF, tn_9, tn_12, tn_14, tn_20, tn_28, tn_44, tn_52, tn_68, tn_84, tn_100, tn_116, tn_132, fu_e, up_eq, ob_0, ob_b, oi_add, oi_sub, oi_mul, oi_neg, Int.add_zero, Int.zero_add, or_true, true_or, or_false, false_or, and_self, z_i2l, z_l2i, lo_nat, lo_add, lo_sub, lo_mul, lo_0, e_rem, mr_X9_setup, mh_X9_setup, k3, c23, s53]
    refine c_forget hC3 hH3 fun w4 q1 q2 => ?_
    have f4 : FX (fun a => a = 125) w3 w4 := q2.toX (fun a a1 a2 => by omega)
    have hC4 := hC3.fx f4
    have k4 := hC4.1.1
    simp (disch := omega) only [wp_c, wp_n, jj_n, v_ct, Int.reduceToNat, Int.toNat_natCast, stE, wlE, lgt, lpu, lpw, v_c2, va_s, true_and, and_true, Option.toList, List.nil_append, List.cons_append, List.take, List.drop, List.reverse, List.reverseAux, List.length_cons, List.length_nil, reduceCtorEq, false_implies, true_implies, forall_const, not_true_eq_false, not_false_eq_true, ite_true, ite_false, Bool.false_eq_true, I_I, J_J, Nat.add_left_cancel_iff, Nat.reduceEqDiff, Nat.add_eq_left, Nat.left_eq_add, false_and, and_false, Nat.reduceSub, Nat.sub_self, Nat.le_refl, Nat.zero_le, ge_iff_le, Nat.reduceAdd, Nat.reduceLeDiff, Nat.zero_add, Nat.reduceLT, z_lt, z_le, z_eq, z_l0, z_g0, z_le0, z_ge0, z_e0, z_e1, z_vp, z_nc, z_rem, z_div, i_ltT, i_ltF, i_leT, i_leF, i_eqT, i_eqF, n_ltT, n_ltF, n_leT, n_leF, n_eqT, n_eqF, tn_9, tn_12, tn_14, tn_20, tn_28, tn_44, tn_52, tn_68, tn_84, tn_100, tn_116, tn_132, fu_e, up_eq, ob_0, ob_b, oi_add, oi_sub, oi_mul, oi_neg, Int.add_zero, Int.zero_add, or_true, true_or, or_false, false_or, and_self, z_i2l, z_l2i, lo_nat, lo_add, lo_sub, lo_mul, lo_0, e_rem, mr_X9_setup, mh_X9_setup, k4]
    have := c_sl_46 (w0 := w4) (Q := Q) hC4 2 0 w4 rfl (FX.refl _ _) (fun i hi => absurd hi (by omega)) (fun w5 z f5 hz5 => ?_)
    · simpa using this
    · have hC5 := hC4.fx f5
      have k5 := hC5.1.1
      have c05 := hC5.1.2.1
      have hS5 : MS w5 101 A1 := (g1.fx f4 (fun a a1 a2 q => by omega)).fx f5 (fun a a1 a2 q => by omega)
      have s05 := hS5.1.1.1
      have b15 := hS5.2.1.1.2.1
      have fa : FX (fun a => CQ a ∨ (101 ≤ a ∧ a < 113) ∨ a = 125 ∨ a = 272) w w5 := (((f2.mono (fun a q => Or.inl q)).trans (f3.mono (fun a q => Or.inr (Or.inl q)))).trans (f4.mono (fun a q => Or.inr (Or.inr (Or.inl q))))).trans (f5.mono (fun a q => Or.inr (Or.inr (Or.inr q))))
      have na : ∀ a, (CQ a ∨ (101 ≤ a ∧ a < 113) ∨ a = 125 ∨ a = 272) → (101 ≤ a ∧ a < 126) ∨ a = 279 ∨ a = 277 ∨ a = 275 ∨ a = 272 := fun a q => by unfold CQ at q; omega
      have f25 : FX (fun a => (101 ≤ a ∧ a < 113) ∨ a = 125 ∨ a = 272) w2 w5 := ((f3.mono (fun a q => Or.inl q)).trans (f4.mono (fun a q => Or.inr (Or.inl q)))).trans (f5.mono (fun a q => Or.inr (Or.inr q)))
      refine rt_X9_setup_64 ?_
      simp (disch := omega) only [wp_c, wp_n, jj_n, v_ct, Int.reduceToNat, Int.toNat_natCast, stE, wlE, lgt, lpu, lpw, v_c2, va_s, true_and, and_true, Option.toList, List.nil_append, List.cons_append, List.take, List.drop, List.reverse, List.reverseAux, List.length_cons, List.length_nil, reduceCtorEq, false_implies, true_implies, forall_const, not_true_eq_false, not_false_eq_true, ite_true, ite_false, Bool.false_eq_true, I_I, J_J, Nat.add_left_cancel_iff, Nat.reduceEqDiff, Nat.add_eq_left, Nat.left_eq_add, false_and, and_false, Nat.reduceSub, Nat.sub_self, Nat.le_refl, Nat.zero_le, ge_iff_le, Nat.reduceAdd, Nat.reduceLeDiff, Nat.zero_add, Nat.reduceLT, z_lt, z_le, z_eq, z_l0, z_g0, z_le0, z_ge0, z_e0, z_e1, z_vp, z_nc, z_rem, z_div, i_ltT, i_ltF, i_leT, i_leF, i_eqT, i_eqF, n_ltT, n_ltF, n_leT, n_leF, n_eqT, n_eqF, tn_9, tn_12, tn_14, tn_20, tn_28, tn_44, tn_52, tn_68, tn_84, tn_100, tn_116, tn_132, fu_e, up_eq, ob_0, ob_b, oi_add, oi_sub, oi_mul, oi_neg, Int.add_zero, Int.zero_add, or_true, true_or, or_false, false_or, and_self, z_i2l, z_l2i, lo_nat, lo_add, lo_sub, lo_mul, lo_0, e_rem, mr_X9_setup, mh_X9_setup, k5, c05, s05, b15]
      refine hgood A1 he w5 ⟨hC5, hS5, hib.fx f25 (by omega) (by omega), ⟨by rw [(f25.2.2.2 277 (by omega)).1]; exact ee0, by rw [(f25.2.2.2 277 (by omega)).1]; exact ee1⟩, q1.fx f5 (fun a a1 a2 q => by omega), ⟨fun i hi => by rw [hz5 i hi]; rfl, fun i hi hx => absurd (show false = true from hx) (by decide)⟩, hU.fx fa (fun q => by have := na 100 q; omega) (fun q => by have := na 284 q; omega)⟩ (fa.mono (fun a q => by have := na a q; unfold CL; omega))
