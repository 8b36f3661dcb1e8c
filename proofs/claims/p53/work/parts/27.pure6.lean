/-! the class's setup -/
def PS (w : mW) (A : Row) : Prop := Mb w 113 ∧ MemA w 113 A ∧ LogA w 113 A ∧ w_J w 113 5 = Int64.ofInt 0 ∧ TR w 113 A
def SP (a : Nat) : Prop := (113 ≤ a ∧ a < 125) ∨ a = 279
theorem TR.row {w : mW} {b : Nat} {A B : Row} (h : TR w b A) (e : ∀ j, j < 9 → 4 < j → B j = A j) : TR w b B := by
  unfold TR; rw [e 5 (by omega) (by omega), e 6 (by omega) (by omega), e 7 (by omega) (by omega), e 8 (by omega) (by omega)]; exact h
theorem c_put {k : Nat} {v : Int} {w : mW} {A : Row} {Q : mW → mO → Prop} (hk : k < 6) (hv : 0 ≤ v ∧ v ≤ 16) (hS : PS w A) (hf : 4 ≤ k → v < 16 ∧ 0 ≤ A (68 + v.toNat) ∧ A (68 + v.toNat) ≤ 3 ∧ ¬ s_has A k v) (hq : ∀ w', PS w' (s_put A k v) → FX SP w w' → w_I w' 279 = w_I w 279 → Q w' (.inl none)) : CT n_X6_put [.int (Int32.ofInt k), .int (Int32.ofInt v), .ref 113] w Q := by
  obtain ⟨p1, p2, p3, p4, p5⟩ := hS
  have s0 := p1.1.1
  have s4 := p1.1.2.2.2.2.1
  have r4 := p1.2.2.2.2.1
  have e0 : tsw 1 63 0 3 #[31, 39, 47, 55] (Int32.ofInt 0) = 32 := by decide
  have e1 : tsw 1 63 0 3 #[31, 39, 47, 55] (Int32.ofInt 1) = 40 := by decide
  have e2 : tsw 1 63 0 3 #[31, 39, 47, 55] (Int32.ofInt 2) = 48 := by decide
  have e3 : tsw 1 63 0 3 #[31, 39, 47, 55] (Int32.ofInt 3) = 56 := by decide
  have e4 : tsw 1 63 0 3 #[31, 39, 47, 55] (Int32.ofInt 4) = 64 := by decide
  have e5 : tsw 1 63 0 3 #[31, 39, 47, 55] (Int32.ofInt 5) = 64 := by decide
  have fld : ∀ i : Nat, i < 4 → k = i → Q (s_I w 113 i (Int32.ofInt v)) (.inl none) := by
    intro i hi hki
    have fr : Fr [113] w (s_I w 113 i (Int32.ofInt v)) := (Fr.refl [113] w).I (by simp)
    refine hq _ ⟨p1.fr fr, ?_, ?_, p4, ?_⟩ ((FX.refl SP w).I (Or.inl ⟨by omega, by omega⟩)) (II_ne (by omega))
    · unfold s_put; rw [if_pos (by omega), hki]; exact p2.fld (by omega)
    · unfold s_put; rw [if_pos (by omega)]
      exact (p3.fr fr (by simp) (by simp)).row (by rw [up_eq, if_neg (by omega)]) (fun j hj => by rw [up_eq, if_neg (by omega)])
    · unfold s_put; rw [if_pos (by omega)]
      exact (p5.cp (w' := s_I w 113 i (Int32.ofInt v)) (fun i _ => by rw [II_ne (by omega)])).row (fun j hj _ => by rw [up_eq, if_neg (by omega)])
  have flt : ∀ c : Int, c = A (68 + v.toNat) + (if k = 4 then 1 else 2) → 4 ≤ k → Q (s_I w 117 v.toNat (Int32.ofInt c)) (.inl none) := by
    intro c hc h4
    have hv' := hf h4
    have fr : Fr [117] w (s_I w 117 v.toNat (Int32.ofInt c)) := (Fr.refl [117] w).I (by simp)
    have es : s_put A k v = up A (68 + v.toNat) c := by unfold s_put; rw [if_neg (by omega), hc]
    refine hq _ ⟨p1.fr fr, ?_, ?_, p4, ?_⟩ ((FX.refl SP w).I (Or.inl ⟨by omega, by omega⟩)) (II_ne (by omega))
    · rw [es]; exact p2.flt (by omega)
    · rw [es]
      exact (p3.fr fr (by simp) (by simp)).row (by rw [up_eq, if_neg (by omega)]) (fun j hj => by rw [up_eq, if_neg (by omega)])
    · rw [es]
      exact (p5.cp (w' := s_I w 117 v.toNat (Int32.ofInt c)) (fun i _ => by rw [II_ne (by omega)])).row (fun j hj _ => by rw [up_eq, if_neg (by omega)])
  refine ct_X6_put (rt_X6_put_0 ?_)
  rcases (show k = 0 ∨ k = 1 ∨ k = 2 ∨ k = 3 ∨ k = 4 ∨ k = 5 by omega) with rfl | rfl | rfl | rfl | rfl | rfl
  all_goals (simp only [Int.ofNat_zero, Int.ofNat_one, Int.cast_ofNat_Int]; simp (disch := omega) only [wp_c, wp_n, jj_n, v_ct, Int.reduceToNat, Int.toNat_natCast, stE, wlE, lgt, lpu, lpw, v_c2, va_s, true_and, and_true, Option.toList, List.nil_append, List.cons_append, List.take, List.drop, List.reverse, List.reverseAux, List.length_cons, List.length_nil, reduceCtorEq, false_implies, true_implies, forall_const, not_true_eq_false, not_false_eq_true, ite_true, ite_false, Bool.false_eq_true, I_I, J_J, Nat.add_left_cancel_iff, Nat.reduceEqDiff, Nat.add_eq_left, Nat.left_eq_add, false_and, and_false, Nat.reduceSub, Nat.sub_self, Nat.le_refl, Nat.zero_le, ge_iff_le, Nat.reduceAdd, Nat.reduceLeDiff, Nat.zero_add, Nat.reduceLT, z_lt, z_le, z_eq, z_l0, z_g0, z_le0, z_ge0, z_e0, z_e1, z_vp, z_nc, z_rem, z_div, i_ltT, i_ltF, i_leT, i_leF, i_eqT, i_eqF, n_ltT, n_ltF, n_leT, n_leF, n_eqT, n_eqF, tn_9, tn_12, tn_14, tn_20, tn_28, tn_44, tn_52, tn_68, tn_84, tn_100, tn_116, tn_132, fu_e, up_eq, ob_0, ob_b, oi_add, oi_sub, oi_mul, oi_neg, Int.add_zero, Int.zero_add, or_true, true_or, or_false, false_or, and_self, z_i2l, z_l2i, lo_nat, lo_add, lo_sub, lo_mul, lo_0, e_rem, mr_X6_put, mh_X6_put, e0, e1, e2, e3, e4, e5])
  · repeat' (first | (with_reducible refine And.intro ?_ ?_) | (with_reducible intro _) | ((first | refine rt_X6_put_32 ?_ | refine rt_X6_put_40 ?_ | refine rt_X6_put_48 ?_ | refine rt_X6_put_56 ?_ | refine rt_X6_put_64 ?_ | refine rt_X6_put_77 ?_); simp (disch := omega) only [wp_c, wp_n, jj_n, v_ct, Int.reduceToNat, Int.toNat_natCast, stE, wlE, lgt, lpu, lpw, v_c2, va_s, true_and, and_true, Option.toList, List.nil_append, List.cons_append, List.take, List.drop, List.reverse, List.reverseAux, List.length_cons, List.length_nil, reduceCtorEq, false_implies, true_implies, forall_const, not_true_eq_false, not_false_eq_true, ite_true, ite_false, Bool.false_eq_true, I_I, J_J, Nat.add_left_cancel_iff, Nat.reduceEqDiff, Nat.add_eq_left, Nat.left_eq_add, false_and, and_false, Nat.reduceSub, Nat.sub_self, Nat.le_refl, Nat.zero_le, ge_iff_le, Nat.reduceAdd, Nat.reduceLeDiff, Nat.zero_add, Nat.reduceLT, z_lt, z_le, z_eq, z_l0, z_g0, z_le0, z_ge0, z_e0, z_e1, z_vp, z_nc, z_rem, z_div, i_ltT, i_ltF, i_leT, i_leF, i_eqT, i_eqF, n_ltT, n_ltF, n_leT, n_leF, n_eqT, n_eqF, tn_9, tn_12, tn_14, tn_20, tn_28, tn_44, tn_52, tn_68, tn_84, tn_100, tn_116, tn_132, fu_e, up_eq, ob_0, ob_b, oi_add, oi_sub, oi_mul, oi_neg, Int.add_zero, Int.zero_add, or_true, true_or, or_false, false_or, and_self, z_i2l, z_l2i, lo_nat, lo_add, lo_sub, lo_mul, lo_0, e_rem, mr_X6_put, mh_X6_put, s0]))
    exact fld 0 (by omega) rfl
  · repeat' (first | (with_reducible refine And.intro ?_ ?_) | (with_reducible intro _) | ((first | refine rt_X6_put_32 ?_ | refine rt_X6_put_40 ?_ | refine rt_X6_put_48 ?_ | refine rt_X6_put_56 ?_ | refine rt_X6_put_64 ?_ | refine rt_X6_put_77 ?_); simp (disch := omega) only [wp_c, wp_n, jj_n, v_ct, Int.reduceToNat, Int.toNat_natCast, stE, wlE, lgt, lpu, lpw, v_c2, va_s, true_and, and_true, Option.toList, List.nil_append, List.cons_append, List.take, List.drop, List.reverse, List.reverseAux, List.length_cons, List.length_nil, reduceCtorEq, false_implies, true_implies, forall_const, not_true_eq_false, not_false_eq_true, ite_true, ite_false, Bool.false_eq_true, I_I, J_J, Nat.add_left_cancel_iff, Nat.reduceEqDiff, Nat.add_eq_left, Nat.left_eq_add, false_and, and_false, Nat.reduceSub, Nat.sub_self, Nat.le_refl, Nat.zero_le, ge_iff_le, Nat.reduceAdd, Nat.reduceLeDiff, Nat.zero_add, Nat.reduceLT, z_lt, z_le, z_eq, z_l0, z_g0, z_le0, z_ge0, z_e0, z_e1, z_vp, z_nc, z_rem, z_div, i_ltT, i_ltF, i_leT, i_leF, i_eqT, i_eqF, n_ltT, n_ltF, n_leT, n_leF, n_eqT, n_eqF, tn_9, tn_12, tn_14, tn_20, tn_28, tn_44, tn_52, tn_68, tn_84, tn_100, tn_116, tn_132, fu_e, up_eq, ob_0, ob_b, oi_add, oi_sub, oi_mul, oi_neg, Int.add_zero, Int.zero_add, or_true, true_or, or_false, false_or, and_self, z_i2l, z_l2i, lo_nat, lo_add, lo_sub, lo_mul, lo_0, e_rem, mr_X6_put, mh_X6_put, s0]))
    exact fld 1 (by omega) rfl
  · repeat' (first | (with_reducible refine And.intro ?_ ?_) | (with_reducible intro _) | ((first | refine rt_X6_put_32 ?_ | refine rt_X6_put_40 ?_ | refine rt_X6_put_48 ?_ | refine rt_X6_put_56 ?_ | refine rt_X6_put_64 ?_ | refine rt_X6_put_77 ?_); simp (disch := omega) only [wp_c, wp_n, jj_n, v_ct, Int.reduceToNat, Int.toNat_natCast, stE, wlE, lgt, lpu, lpw, v_c2, va_s, true_and, and_true, Option.toList, List.nil_append, List.cons_append, List.take, List.drop, List.reverse, List.reverseAux, List.length_cons, List.length_nil, reduceCtorEq, false_implies, true_implies, forall_const, not_true_eq_false, not_false_eq_true, ite_true, ite_false, Bool.false_eq_true, I_I, J_J, Nat.add_left_cancel_iff, Nat.reduceEqDiff, Nat.add_eq_left, Nat.left_eq_add, false_and, and_false, Nat.reduceSub, Nat.sub_self, Nat.le_refl, Nat.zero_le, ge_iff_le, Nat.reduceAdd, Nat.reduceLeDiff, Nat.zero_add, Nat.reduceLT, z_lt, z_le, z_eq, z_l0, z_g0, z_le0, z_ge0, z_e0, z_e1, z_vp, z_nc, z_rem, z_div, i_ltT, i_ltF, i_leT, i_leF, i_eqT, i_eqF, n_ltT, n_ltF, n_leT, n_leF, n_eqT, n_eqF, tn_9, tn_12, tn_14, tn_20, tn_28, tn_44, tn_52, tn_68, tn_84, tn_100, tn_116, tn_132, fu_e, up_eq, ob_0, ob_b, oi_add, oi_sub, oi_mul, oi_neg, Int.add_zero, Int.zero_add, or_true, true_or, or_false, false_or, and_self, z_i2l, z_l2i, lo_nat, lo_add, lo_sub, lo_mul, lo_0, e_rem, mr_X6_put, mh_X6_put, s0]))
    exact fld 2 (by omega) rfl
  · repeat' (first | (with_reducible refine And.intro ?_ ?_) | (with_reducible intro _) | ((first | refine rt_X6_put_32 ?_ | refine rt_X6_put_40 ?_ | refine rt_X6_put_48 ?_ | refine rt_X6_put_56 ?_ | refine rt_X6_put_64 ?_ | refine rt_X6_put_77 ?_); simp (disch := omega) only [wp_c, wp_n, jj_n, v_ct, Int.reduceToNat, Int.toNat_natCast, stE, wlE, lgt, lpu, lpw, v_c2, va_s, true_and, and_true, Option.toList, List.nil_append, List.cons_append, List.take, List.drop, List.reverse, List.reverseAux, List.length_cons, List.length_nil, reduceCtorEq, false_implies, true_implies, forall_const, not_true_eq_false, not_false_eq_true, ite_true, ite_false, Bool.false_eq_true, I_I, J_J, Nat.add_left_cancel_iff, Nat.reduceEqDiff, Nat.add_eq_left, Nat.left_eq_add, false_and, and_false, Nat.reduceSub, Nat.sub_self, Nat.le_refl, Nat.zero_le, ge_iff_le, Nat.reduceAdd, Nat.reduceLeDiff, Nat.zero_add, Nat.reduceLT, z_lt, z_le, z_eq, z_l0, z_g0, z_le0, z_ge0, z_e0, z_e1, z_vp, z_nc, z_rem, z_div, i_ltT, i_ltF, i_leT, i_leF, i_eqT, i_eqF, n_ltT, n_ltF, n_leT, n_leF, n_eqT, n_eqF, tn_9, tn_12, tn_14, tn_20, tn_28, tn_44, tn_52, tn_68, tn_84, tn_100, tn_116, tn_132, fu_e, up_eq, ob_0, ob_b, oi_add, oi_sub, oi_mul, oi_neg, Int.add_zero, Int.zero_add, or_true, true_or, or_false, false_or, and_self, z_i2l, z_l2i, lo_nat, lo_add, lo_sub, lo_mul, lo_0, e_rem, mr_X6_put, mh_X6_put, s0]))
    exact fld 3 (by omega) rfl
  · obtain ⟨v1, v2, v3, v4⟩ := hf (by omega)
    have hfl := p2.r_flt (j := v.toNat) (by omega)
    have hor := (b_or v2 v3).1 (by unfold s_has at v4; omega)
    refine rt_X6_put_64 ?_
    simp (disch := omega) only [wp_c, wp_n, jj_n, v_ct, Int.reduceToNat, Int.toNat_natCast, stE, wlE, lgt, lpu, lpw, v_c2, va_s, true_and, and_true, Option.toList, List.nil_append, List.cons_append, List.take, List.drop, List.reverse, List.reverseAux, List.length_cons, List.length_nil, reduceCtorEq, false_implies, true_implies, forall_const, not_true_eq_false, not_false_eq_true, ite_true, ite_false, Bool.false_eq_true, I_I, J_J, Nat.add_left_cancel_iff, Nat.reduceEqDiff, Nat.add_eq_left, Nat.left_eq_add, false_and, and_false, Nat.reduceSub, Nat.sub_self, Nat.le_refl, Nat.zero_le, ge_iff_le, Nat.reduceAdd, Nat.reduceLeDiff, Nat.zero_add, Nat.reduceLT, z_lt, z_le, z_eq, z_l0, z_g0, z_le0, z_ge0, z_e0, z_e1, z_vp, z_nc, z_rem, z_div, i_ltT, i_ltF, i_leT, i_leF, i_eqT, i_eqF, n_ltT, n_ltF, n_leT, n_leF, n_eqT, n_eqF, tn_9, tn_12, tn_14, tn_20, tn_28, tn_44, tn_52, tn_68, tn_84, tn_100, tn_116, tn_132, fu_e, up_eq, ob_0, ob_b, oi_add, oi_sub, oi_mul, oi_neg, Int.add_zero, Int.zero_add, or_true, true_or, or_false, false_or, and_self, z_i2l, z_l2i, lo_nat, lo_add, lo_sub, lo_mul, lo_0, e_rem, mr_X6_put, mh_X6_put, s0, s4, r4, hfl]
    refine c_faultOf (k := 4) (by omega) ?_
    simp (disch := omega) only [wp_c, wp_n, jj_n, v_ct, Int.reduceToNat, Int.toNat_natCast, stE, wlE, lgt, lpu, lpw, v_c2, va_s, true_and, and_true, Option.toList, List.nil_append, List.cons_append, List.take, List.drop, List.reverse, List.reverseAux, List.length_cons, List.length_nil, reduceCtorEq, false_implies, true_implies, forall_const, not_true_eq_false, not_false_eq_true, ite_true, ite_false, Bool.false_eq_true, I_I, J_J, Nat.add_left_cancel_iff, Nat.reduceEqDiff, Nat.add_eq_left, Nat.left_eq_add, false_and, and_false, Nat.reduceSub, Nat.sub_self, Nat.le_refl, Nat.zero_le, ge_iff_le, Nat.reduceAdd, Nat.reduceLeDiff, Nat.zero_add, Nat.reduceLT, z_lt, z_le, z_eq, z_l0, z_g0, z_le0, z_ge0, z_e0, z_e1, z_vp, z_nc, z_rem, z_div, i_ltT, i_ltF, i_leT, i_leF, i_eqT, i_eqF, n_ltT, n_ltF, n_leT, n_leF, n_eqT, n_eqF, tn_9, tn_12, tn_14, tn_20, tn_28, tn_44, tn_52, tn_68, tn_84, tn_100, tn_116, tn_132, fu_e, up_eq, ob_0, ob_b, oi_add, oi_sub, oi_mul, oi_neg, Int.add_zero, Int.zero_add, or_true, true_or, or_false, false_or, and_self, z_i2l, z_l2i, lo_nat, lo_add, lo_sub, lo_mul, lo_0, e_rem, mr_X6_put, mh_X6_put, s4, hor]
    refine rt_X6_put_77 ?_
    simp (disch := omega) only [wp_c, wp_n, jj_n, v_ct, Int.reduceToNat, Int.toNat_natCast, stE, wlE, lgt, lpu, lpw, v_c2, va_s, true_and, and_true, Option.toList, List.nil_append, List.cons_append, List.take, List.drop, List.reverse, List.reverseAux, List.length_cons, List.length_nil, reduceCtorEq, false_implies, true_implies, forall_const, not_true_eq_false, not_false_eq_true, ite_true, ite_false, Bool.false_eq_true, I_I, J_J, Nat.add_left_cancel_iff, Nat.reduceEqDiff, Nat.add_eq_left, Nat.left_eq_add, false_and, and_false, Nat.reduceSub, Nat.sub_self, Nat.le_refl, Nat.zero_le, ge_iff_le, Nat.reduceAdd, Nat.reduceLeDiff, Nat.zero_add, Nat.reduceLT, z_lt, z_le, z_eq, z_l0, z_g0, z_le0, z_ge0, z_e0, z_e1, z_vp, z_nc, z_rem, z_div, i_ltT, i_ltF, i_leT, i_leF, i_eqT, i_eqF, n_ltT, n_ltF, n_leT, n_leF, n_eqT, n_eqF, tn_9, tn_12, tn_14, tn_20, tn_28, tn_44, tn_52, tn_68, tn_84, tn_100, tn_116, tn_132, fu_e, up_eq, ob_0, ob_b, oi_add, oi_sub, oi_mul, oi_neg, Int.add_zero, Int.zero_add, or_true, true_or, or_false, false_or, and_self, z_i2l, z_l2i, lo_nat, lo_add, lo_sub, lo_mul, lo_0, e_rem, mr_X6_put, mh_X6_put, s0]
    exact flt _ rfl (by omega)
  · obtain ⟨v1, v2, v3, v4⟩ := hf (by omega)
    have hfl := p2.r_flt (j := v.toNat) (by omega)
    have hor := (b_or v2 v3).2 (by unfold s_has at v4; omega)
    refine rt_X6_put_64 ?_
    simp (disch := omega) only [wp_c, wp_n, jj_n, v_ct, Int.reduceToNat, Int.toNat_natCast, stE, wlE, lgt, lpu, lpw, v_c2, va_s, true_and, and_true, Option.toList, List.nil_append, List.cons_append, List.take, List.drop, List.reverse, List.reverseAux, List.length_cons, List.length_nil, reduceCtorEq, false_implies, true_implies, forall_const, not_true_eq_false, not_false_eq_true, ite_true, ite_false, Bool.false_eq_true, I_I, J_J, Nat.add_left_cancel_iff, Nat.reduceEqDiff, Nat.add_eq_left, Nat.left_eq_add, false_and, and_false, Nat.reduceSub, Nat.sub_self, Nat.le_refl, Nat.zero_le, ge_iff_le, Nat.reduceAdd, Nat.reduceLeDiff, Nat.zero_add, Nat.reduceLT, z_lt, z_le, z_eq, z_l0, z_g0, z_le0, z_ge0, z_e0, z_e1, z_vp, z_nc, z_rem, z_div, i_ltT, i_ltF, i_leT, i_leF, i_eqT, i_eqF, n_ltT, n_ltF, n_leT, n_leF, n_eqT, n_eqF, tn_9, tn_12, tn_14, tn_20, tn_28, tn_44, tn_52, tn_68, tn_84, tn_100, tn_116, tn_132, fu_e, up_eq, ob_0, ob_b, oi_add, oi_sub, oi_mul, oi_neg, Int.add_zero, Int.zero_add, or_true, true_or, or_false, false_or, and_self, z_i2l, z_l2i, lo_nat, lo_add, lo_sub, lo_mul, lo_0, e_rem, mr_X6_put, mh_X6_put, s0, s4, r4, hfl]
    refine c_faultOf (k := 5) (by omega) ?_
    simp (disch := omega) only [wp_c, wp_n, jj_n, v_ct, Int.reduceToNat, Int.toNat_natCast, stE, wlE, lgt, lpu, lpw, v_c2, va_s, true_and, and_true, Option.toList, List.nil_append, List.cons_append, List.take, List.drop, List.reverse, List.reverseAux, List.length_cons, List.length_nil, reduceCtorEq, false_implies, true_implies, forall_const, not_true_eq_false, not_false_eq_true, ite_true, ite_false, Bool.false_eq_true, I_I, J_J, Nat.add_left_cancel_iff, Nat.reduceEqDiff, Nat.add_eq_left, Nat.left_eq_add, false_and, and_false, Nat.reduceSub, Nat.sub_self, Nat.le_refl, Nat.zero_le, ge_iff_le, Nat.reduceAdd, Nat.reduceLeDiff, Nat.zero_add, Nat.reduceLT, z_lt, z_le, z_eq, z_l0, z_g0, z_le0, z_ge0, z_e0, z_e1, z_vp, z_nc, z_rem, z_div, i_ltT, i_ltF, i_leT, i_leF, i_eqT, i_eqF, n_ltT, n_ltF, n_leT, n_leF, n_eqT, n_eqF, tn_9, tn_12, tn_14, tn_20, tn_28, tn_44, tn_52, tn_68, tn_84, tn_100, tn_116, tn_132, fu_e, up_eq, ob_0, ob_b, oi_add, oi_sub, oi_mul, oi_neg, Int.add_zero, Int.zero_add, or_true, true_or, or_false, false_or, and_self, z_i2l, z_l2i, lo_nat, lo_add, lo_sub, lo_mul, lo_0, e_rem, mr_X6_put, mh_X6_put, s4, hor]
    refine rt_X6_put_77 ?_
    simp (disch := omega) only [wp_c, wp_n, jj_n, v_ct, Int.reduceToNat, Int.toNat_natCast, stE, wlE, lgt, lpu, lpw, v_c2, va_s, true_and, and_true, Option.toList, List.nil_append, List.cons_append, List.take, List.drop, List.reverse, List.reverseAux, List.length_cons, List.length_nil, reduceCtorEq, false_implies, true_implies, forall_const, not_true_eq_false, not_false_eq_true, ite_true, ite_false, Bool.false_eq_true, I_I, J_J, Nat.add_left_cancel_iff, Nat.reduceEqDiff, Nat.add_eq_left, Nat.left_eq_add, false_and, and_false, Nat.reduceSub, Nat.sub_self, Nat.le_refl, Nat.zero_le, ge_iff_le, Nat.reduceAdd, Nat.reduceLeDiff, Nat.zero_add, Nat.reduceLT, z_lt, z_le, z_eq, z_l0, z_g0, z_le0, z_ge0, z_e0, z_e1, z_vp, z_nc, z_rem, z_div, i_ltT, i_ltF, i_leT, i_leF, i_eqT, i_eqF, n_ltT, n_ltF, n_leT, n_leF, n_eqT, n_eqF, tn_9, tn_12, tn_14, tn_20, tn_28, tn_44, tn_52, tn_68, tn_84, tn_100, tn_116, tn_132, fu_e, up_eq, ob_0, ob_b, oi_add, oi_sub, oi_mul, oi_neg, Int.add_zero, Int.zero_add, or_true, true_or, or_false, false_or, and_self, z_i2l, z_l2i, lo_nat, lo_add, lo_sub, lo_mul, lo_0, e_rem, mr_X6_put, mh_X6_put, s0]
    exact flt _ rfl (by omega)
theorem PS.ts {w : mW} {A : Row} {F : Nat → Int32} (h : PS w A) : PS (Jvm.Pilot.CCrankCalculatorLaw_law_r5314_5e3ffd.ts w F) A := by
  obtain ⟨p1, p2, p3, p4, p5⟩ := h
  refine ⟨p1, ?_, p3.eq (ts_o (by omega)) (ts_o (by omega)), p4, p5.cp (fun i _ => by rw [ts_o (by omega)])⟩
  exact p2.cp (fun i _ => by rw [ts_o (by omega)]) (fun i _ => by rw [ts_o (by omega)]) (fun i _ => by rw [ts_o (by omega)]) (fun i _ => by rw [ts_o (by omega)]) (fun i _ => by rw [ts_o (by omega)]) (fun i _ => by rw [ts_o (by omega)]) (fun i _ => by rw [ts_o (by omega)]) (fun i _ => by rw [ts_o (by omega)]) (fun i _ => ⟨by rw [ts_o (by omega)], by rw [ts_o (by omega)]⟩)
theorem PS.fx {w w' : mW} {A : Row} {P : Nat → Prop} (h : PS w A) (f : FX P w w') (hp : ∀ a, 113 ≤ a → a < 125 → ¬ P a) : PS w' A := by
  obtain ⟨p1, p2, p3, p4, p5⟩ := h
  have e : ∀ a, 113 ≤ a → a < 125 → w_I w' a = w_I w a := fun a h1 h2 => (f.2.2.2 a (hp a h1 h2)).1
  refine ⟨p1.fx f, ?_, p3.eq (e _ (by omega) (by omega)) (e _ (by omega) (by omega)), by rw [(f.2.2.2 113 (hp 113 (by omega) (by omega))).2]; exact p4, p5.cp (fun i _ => by rw [e _ (by omega) (by omega)])⟩
  exact p2.cp (fun i _ => by rw [e _ (by omega) (by omega)]) (fun i _ => by rw [e _ (by omega) (by omega)]) (fun i _ => by rw [e _ (by omega) (by omega)]) (fun i _ => by rw [e _ (by omega) (by omega)]) (fun i _ => by rw [e _ (by omega) (by omega)]) (fun i _ => by rw [e _ (by omega) (by omega)]) (fun i _ => by rw [e _ (by omega) (by omega)]) (fun i _ => by rw [e _ (by omega) (by omega)]) (fun i _ => ⟨by rw [e _ (by omega) (by omega)], by rw [e _ (by omega) (by omega)]⟩)
/-- a world, once more by its tokens -/
theorem ts_back {w w' : mW} {F : Nat → Int32} {P : Nat → Prop} (f : FX P (ts w F) w') (h : ¬ P 277) : w' = ts w' F := by
  have e : w_I w' 277 = F := by rw [(f.2.2.2 277 h).1, ts_F]
  rw [← e, ts_self]
theorem TC.ts {w : mW} {td : Nat → Bool} {F : Nat → Int32} (h : TC w td) : TC (Jvm.Pilot.CCrankCalculatorLaw_law_r5314_5e3ffd.ts w F) td := fun i hi => by rw [ts_o (by omega)]; exact h i hi
theorem ts_fx {w w' : mW} {F : Nat → Int32} {P : Nat → Prop} (f : FX P (ts w F) w') (h : ¬ P 277) : ∀ a, ¬ P a → ¬ a = 277 → w_I w' a = w_I w a ∧ w_J w' a = w_J w a :=
  fun a ha h2 => ⟨(f.2.2.2 a ha).1.trans (ts_o h2), (f.2.2.2 a ha).2⟩
theorem c_readStmt {f : Nat → Int} {n : Nat} {t : Tk} {td : Nat → Bool} {w : mW} {A : Row} {F : Nat → Int32} {Q : mW → mO → Prop} (hT : TB w) (hB : IB w f n) (hS8 : SB w) (hd : RC f n F t) (hS : PS w A) (hC : TC w td) (hJ : TJ A)
    (hbad : ∀ c p, s_part f n A td t = .inl (c, p) → ∀ w' F', FX (fun a => SP a ∨ a = 277) w w' → BadU F' c p → Q (ts w' F') (.inl (some (.int (Int32.ofInt 0)))))
    (hgood : ∀ A' td' t', s_part f n A td t = .inr (A', td', t') → ∀ w' F', FX (fun a => SP a ∨ a = 277) w w' → RC f n F' t' → PS w' A' → TC w' td' → KU F F' → Q (ts w' F') (.inl (some (.int (Int32.ofInt 1))))) : CT n_X6_readStatement [.ref 278, .ref 113] (ts w F) Q := by
  have hz := TJ_sz hJ
  have hn := hB.1
  have s7 := hT.2.1
  have s8 := hS8.1
  have r80 := hS8.2.1
  have r81 := hS8.2.2.1
  have s9 := hS8.2.2.2
  have s113 := hS.1.1.1
  refine ct_X6_readStatement (rt_X6_readStatement_0 ?_)
  simp (disch := omega) only [wp_c, wp_n, jj_n, v_ct, Int.reduceToNat, Int.toNat_natCast, stE, wlE, lgt, lpu, lpw, v_c2, va_s, true_and, and_true, Option.toList, List.nil_append, List.cons_append, List.take, List.drop, List.reverse, List.reverseAux, List.length_cons, List.length_nil, reduceCtorEq, false_implies, true_implies, forall_const, not_true_eq_false, not_false_eq_true, ite_true, ite_false, Bool.false_eq_true, I_I, J_J, Nat.add_left_cancel_iff, Nat.reduceEqDiff, Nat.add_eq_left, Nat.left_eq_add, false_and, and_false, Nat.reduceSub, Nat.sub_self, Nat.le_refl, Nat.zero_le, ge_iff_le, Nat.reduceAdd, Nat.reduceLeDiff, Nat.zero_add, Nat.reduceLT, z_lt, z_le, z_eq, z_l0, z_g0, z_le0, z_ge0, z_e0, z_e1, z_vp, z_nc, z_rem, z_div, i_ltT, i_ltF, i_leT, i_leF, i_eqT, i_eqF, n_ltT, n_ltF, n_leT, n_leF, n_eqT, n_eqF, tn_9, tn_12, tn_14, tn_20, tn_28, tn_44, tn_52, tn_68, tn_84, tn_100, tn_116, tn_132, fu_e, up_eq, ob_0, ob_b, oi_add, oi_sub, oi_mul, oi_neg, Int.add_zero, Int.zero_add, or_true, true_or, or_false, false_or, and_self, z_i2l, z_l2i, lo_nat, lo_add, lo_sub, lo_mul, lo_0, e_rem, mr_X6_readStatement, mh_X6_readStatement, ts_sh, ts_R, s7, s8, r80]
  refine c_kindS hT hS8 hB hd ?_
  have hk6 := sk_le f t
  by_cases c1 : s_kind f t = 6
  · rw [if_pos c1]
    simp (disch := omega) only [wp_c, wp_n, jj_n, v_ct, Int.reduceToNat, Int.toNat_natCast, stE, wlE, lgt, lpu, lpw, v_c2, va_s, true_and, and_true, Option.toList, List.nil_append, List.cons_append, List.take, List.drop, List.reverse, List.reverseAux, List.length_cons, List.length_nil, reduceCtorEq, false_implies, true_implies, forall_const, not_true_eq_false, not_false_eq_true, ite_true, ite_false, Bool.false_eq_true, I_I, J_J, Nat.add_left_cancel_iff, Nat.reduceEqDiff, Nat.add_eq_left, Nat.left_eq_add, false_and, and_false, Nat.reduceSub, Nat.sub_self, Nat.le_refl, Nat.zero_le, ge_iff_le, Nat.reduceAdd, Nat.reduceLeDiff, Nat.zero_add, Nat.reduceLT, z_lt, z_le, z_eq, z_l0, z_g0, z_le0, z_ge0, z_e0, z_e1, z_vp, z_nc, z_rem, z_div, i_ltT, i_ltF, i_leT, i_leF, i_eqT, i_eqF, n_ltT, n_ltF, n_leT, n_leF, n_eqT, n_eqF, tn_9, tn_12, tn_14, tn_20, tn_28, tn_44, tn_52, tn_68, tn_84, tn_100, tn_116, tn_132, fu_e, up_eq, ob_0, ob_b, oi_add, oi_sub, oi_mul, oi_neg, Int.add_zero, Int.zero_add, or_true, true_or, or_false, false_or, and_self, z_i2l, z_l2i, lo_nat, lo_add, lo_sub, lo_mul, lo_0, e_rem, mr_X6_readStatement, mh_X6_readStatement, ts_sh, ts_R, s7, s8, r80]
    refine c_fail (c := 1) hT hd fun F' k1 => ?_
    simp (disch := omega) only [wp_c, wp_n, jj_n, v_ct, Int.reduceToNat, Int.toNat_natCast, stE, wlE, lgt, lpu, lpw, v_c2, va_s, true_and, and_true, Option.toList, List.nil_append, List.cons_append, List.take, List.drop, List.reverse, List.reverseAux, List.length_cons, List.length_nil, reduceCtorEq, false_implies, true_implies, forall_const, not_true_eq_false, not_false_eq_true, ite_true, ite_false, Bool.false_eq_true, I_I, J_J, Nat.add_left_cancel_iff, Nat.reduceEqDiff, Nat.add_eq_left, Nat.left_eq_add, false_and, and_false, Nat.reduceSub, Nat.sub_self, Nat.le_refl, Nat.zero_le, ge_iff_le, Nat.reduceAdd, Nat.reduceLeDiff, Nat.zero_add, Nat.reduceLT, z_lt, z_le, z_eq, z_l0, z_g0, z_le0, z_ge0, z_e0, z_e1, z_vp, z_nc, z_rem, z_div, i_ltT, i_ltF, i_leT, i_leF, i_eqT, i_eqF, n_ltT, n_ltF, n_leT, n_leF, n_eqT, n_eqF, tn_9, tn_12, tn_14, tn_20, tn_28, tn_44, tn_52, tn_68, tn_84, tn_100, tn_116, tn_132, fu_e, up_eq, ob_0, ob_b, oi_add, oi_sub, oi_mul, oi_neg, Int.add_zero, Int.zero_add, or_true, true_or, or_false, false_or, and_self, z_i2l, z_l2i, lo_nat, lo_add, lo_sub, lo_mul, lo_0, e_rem, mr_X6_readStatement, mh_X6_readStatement, ts_sh]
    exact hbad _ _ (sp_1 c1) w F' (FX.refl _ _) k1
  rw [if_neg c1]
  have hk : s_kind f t < 6 := by omega
  simp (disch := omega) only [wp_c, wp_n, jj_n, v_ct, Int.reduceToNat, Int.toNat_natCast, stE, wlE, lgt, lpu, lpw, v_c2, va_s, true_and, and_true, Option.toList, List.nil_append, List.cons_append, List.take, List.drop, List.reverse, List.reverseAux, List.length_cons, List.length_nil, reduceCtorEq, false_implies, true_implies, forall_const, not_true_eq_false, not_false_eq_true, ite_true, ite_false, Bool.false_eq_true, I_I, J_J, Nat.add_left_cancel_iff, Nat.reduceEqDiff, Nat.add_eq_left, Nat.left_eq_add, false_and, and_false, Nat.reduceSub, Nat.sub_self, Nat.le_refl, Nat.zero_le, ge_iff_le, Nat.reduceAdd, Nat.reduceLeDiff, Nat.zero_add, Nat.reduceLT, z_lt, z_le, z_eq, z_l0, z_g0, z_le0, z_ge0, z_e0, z_e1, z_vp, z_nc, z_rem, z_div, i_ltT, i_ltF, i_leT, i_leF, i_eqT, i_eqF, n_ltT, n_ltF, n_leT, n_leF, n_eqT, n_eqF, tn_9, tn_12, tn_14, tn_20, tn_28, tn_44, tn_52, tn_68, tn_84, tn_100, tn_116, tn_132, fu_e, up_eq, ob_0, ob_b, oi_add, oi_sub, oi_mul, oi_neg, Int.add_zero, Int.zero_add, or_true, true_or, or_false, false_or, and_self, z_i2l, z_l2i, lo_nat, lo_add, lo_sub, lo_mul, lo_0, e_rem, mr_X6_readStatement, mh_X6_readStatement, ts_sh, ts_R, s7, s8, r80]
  refine rt_X6_readStatement_19 ?_
  simp (disch := omega) only [wp_c, wp_n, jj_n, v_ct, Int.reduceToNat, Int.toNat_natCast, stE, wlE, lgt, lpu, lpw, v_c2, va_s, true_and, and_true, Option.toList, List.nil_append, List.cons_append, List.take, List.drop, List.reverse, List.reverseAux, List.length_cons, List.length_nil, reduceCtorEq, false_implies, true_implies, forall_const, not_true_eq_false, not_false_eq_true, ite_true, ite_false, Bool.false_eq_true, I_I, J_J, Nat.add_left_cancel_iff, Nat.reduceEqDiff, Nat.add_eq_left, Nat.left_eq_add, false_and, and_false, Nat.reduceSub, Nat.sub_self, Nat.le_refl, Nat.zero_le, ge_iff_le, Nat.reduceAdd, Nat.reduceLeDiff, Nat.zero_add, Nat.reduceLT, z_lt, z_le, z_eq, z_l0, z_g0, z_le0, z_ge0, z_e0, z_e1, z_vp, z_nc, z_rem, z_div, i_ltT, i_ltF, i_leT, i_leF, i_eqT, i_eqF, n_ltT, n_ltF, n_leT, n_leF, n_eqT, n_eqF, tn_9, tn_12, tn_14, tn_20, tn_28, tn_44, tn_52, tn_68, tn_84, tn_100, tn_116, tn_132, fu_e, up_eq, ob_0, ob_b, oi_add, oi_sub, oi_mul, oi_neg, Int.add_zero, Int.zero_add, or_true, true_or, or_false, false_or, and_self, z_i2l, z_l2i, lo_nat, lo_add, lo_sub, lo_mul, lo_0, e_rem, mr_X6_readStatement, mh_X6_readStatement, ts_sh, ts_R, s7, s8, r80]
  refine c_late hk hS8 hC.ts (fun c2 => ?_) (fun c2 => ?_)
  · simp (disch := omega) only [wp_c, wp_n, jj_n, v_ct, Int.reduceToNat, Int.toNat_natCast, stE, wlE, lgt, lpu, lpw, v_c2, va_s, true_and, and_true, Option.toList, List.nil_append, List.cons_append, List.take, List.drop, List.reverse, List.reverseAux, List.length_cons, List.length_nil, reduceCtorEq, false_implies, true_implies, forall_const, not_true_eq_false, not_false_eq_true, ite_true, ite_false, Bool.false_eq_true, I_I, J_J, Nat.add_left_cancel_iff, Nat.reduceEqDiff, Nat.add_eq_left, Nat.left_eq_add, false_and, and_false, Nat.reduceSub, Nat.sub_self, Nat.le_refl, Nat.zero_le, ge_iff_le, Nat.reduceAdd, Nat.reduceLeDiff, Nat.zero_add, Nat.reduceLT, z_lt, z_le, z_eq, z_l0, z_g0, z_le0, z_ge0, z_e0, z_e1, z_vp, z_nc, z_rem, z_div, i_ltT, i_ltF, i_leT, i_leF, i_eqT, i_eqF, n_ltT, n_ltF, n_leT, n_leF, n_eqT, n_eqF, tn_9, tn_12, tn_14, tn_20, tn_28, tn_44, tn_52, tn_68, tn_84, tn_100, tn_116, tn_132, fu_e, up_eq, ob_0, ob_b, oi_add, oi_sub, oi_mul, oi_neg, Int.add_zero, Int.zero_add, or_true, true_or, or_false, false_or, and_self, z_i2l, z_l2i, lo_nat, lo_add, lo_sub, lo_mul, lo_0, e_rem, mr_X6_readStatement, mh_X6_readStatement, ts_sh, ts_R, s7, s8, r80]
    refine c_fail (c := 3) hT hd fun F' k1 => ?_
    simp (disch := omega) only [wp_c, wp_n, jj_n, v_ct, Int.reduceToNat, Int.toNat_natCast, stE, wlE, lgt, lpu, lpw, v_c2, va_s, true_and, and_true, Option.toList, List.nil_append, List.cons_append, List.take, List.drop, List.reverse, List.reverseAux, List.length_cons, List.length_nil, reduceCtorEq, false_implies, true_implies, forall_const, not_true_eq_false, not_false_eq_true, ite_true, ite_false, Bool.false_eq_true, I_I, J_J, Nat.add_left_cancel_iff, Nat.reduceEqDiff, Nat.add_eq_left, Nat.left_eq_add, false_and, and_false, Nat.reduceSub, Nat.sub_self, Nat.le_refl, Nat.zero_le, ge_iff_le, Nat.reduceAdd, Nat.reduceLeDiff, Nat.zero_add, Nat.reduceLT, z_lt, z_le, z_eq, z_l0, z_g0, z_le0, z_ge0, z_e0, z_e1, z_vp, z_nc, z_rem, z_div, i_ltT, i_ltF, i_leT, i_leF, i_eqT, i_eqF, n_ltT, n_ltF, n_leT, n_leF, n_eqT, n_eqF, tn_9, tn_12, tn_14, tn_20, tn_28, tn_44, tn_52, tn_68, tn_84, tn_100, tn_116, tn_132, fu_e, up_eq, ob_0, ob_b, oi_add, oi_sub, oi_mul, oi_neg, Int.add_zero, Int.zero_add, or_true, true_or, or_false, false_or, and_self, z_i2l, z_l2i, lo_nat, lo_add, lo_sub, lo_mul, lo_0, e_rem, mr_X6_readStatement, mh_X6_readStatement, ts_sh]
    exact hbad _ _ (sp_2 c1 c2) w F' (FX.refl _ _) k1
  simp (disch := omega) only [wp_c, wp_n, jj_n, v_ct, Int.reduceToNat, Int.toNat_natCast, stE, wlE, lgt, lpu, lpw, v_c2, va_s, true_and, and_true, Option.toList, List.nil_append, List.cons_append, List.take, List.drop, List.reverse, List.reverseAux, List.length_cons, List.length_nil, reduceCtorEq, false_implies, true_implies, forall_const, not_true_eq_false, not_false_eq_true, ite_true, ite_false, Bool.false_eq_true, I_I, J_J, Nat.add_left_cancel_iff, Nat.reduceEqDiff, Nat.add_eq_left, Nat.left_eq_add, false_and, and_false, Nat.reduceSub, Nat.sub_self, Nat.le_refl, Nat.zero_le, ge_iff_le, Nat.reduceAdd, Nat.reduceLeDiff, Nat.zero_add, Nat.reduceLT, z_lt, z_le, z_eq, z_l0, z_g0, z_le0, z_ge0, z_e0, z_e1, z_vp, z_nc, z_rem, z_div, i_ltT, i_ltF, i_leT, i_leF, i_eqT, i_eqF, n_ltT, n_ltF, n_leT, n_leF, n_eqT, n_eqF, tn_9, tn_12, tn_14, tn_20, tn_28, tn_44, tn_52, tn_68, tn_84, tn_100, tn_116, tn_132, fu_e, up_eq, ob_0, ob_b, oi_add, oi_sub, oi_mul, oi_neg, Int.add_zero, Int.zero_add, or_true, true_or, or_false, false_or, and_self, z_i2l, z_l2i, lo_nat, lo_add, lo_sub, lo_mul, lo_0, e_rem, mr_X6_readStatement, mh_X6_readStatement, ts_sh, ts_R, s7, s8, r80]
  refine rt_X6_readStatement_36 ?_
  simp (disch := omega) only [wp_c, wp_n, jj_n, v_ct, Int.reduceToNat, Int.toNat_natCast, stE, wlE, lgt, lpu, lpw, v_c2, va_s, true_and, and_true, Option.toList, List.nil_append, List.cons_append, List.take, List.drop, List.reverse, List.reverseAux, List.length_cons, List.length_nil, reduceCtorEq, false_implies, true_implies, forall_const, not_true_eq_false, not_false_eq_true, ite_true, ite_false, Bool.false_eq_true, I_I, J_J, Nat.add_left_cancel_iff, Nat.reduceEqDiff, Nat.add_eq_left, Nat.left_eq_add, false_and, and_false, Nat.reduceSub, Nat.sub_self, Nat.le_refl, Nat.zero_le, ge_iff_le, Nat.reduceAdd, Nat.reduceLeDiff, Nat.zero_add, Nat.reduceLT, z_lt, z_le, z_eq, z_l0, z_g0, z_le0, z_ge0, z_e0, z_e1, z_vp, z_nc, z_rem, z_div, i_ltT, i_ltF, i_leT, i_leF, i_eqT, i_eqF, n_ltT, n_ltF, n_leT, n_leF, n_eqT, n_eqF, tn_9, tn_12, tn_14, tn_20, tn_28, tn_44, tn_52, tn_68, tn_84, tn_100, tn_116, tn_132, fu_e, up_eq, ob_0, ob_b, oi_add, oi_sub, oi_mul, oi_neg, Int.add_zero, Int.zero_add, or_true, true_or, or_false, false_or, and_self, z_i2l, z_l2i, lo_nat, lo_add, lo_sub, lo_mul, lo_0, e_rem, mr_X6_readStatement, mh_X6_readStatement, ts_sh, ts_R, s7, s8, r80]
  refine c_nxt hT hB hd fun F1 d1 u1 => ?_
  simp (disch := omega) only [wp_c, wp_n, jj_n, v_ct, Int.reduceToNat, Int.toNat_natCast, stE, wlE, lgt, lpu, lpw, v_c2, va_s, true_and, and_true, Option.toList, List.nil_append, List.cons_append, List.take, List.drop, List.reverse, List.reverseAux, List.length_cons, List.length_nil, reduceCtorEq, false_implies, true_implies, forall_const, not_true_eq_false, not_false_eq_true, ite_true, ite_false, Bool.false_eq_true, I_I, J_J, Nat.add_left_cancel_iff, Nat.reduceEqDiff, Nat.add_eq_left, Nat.left_eq_add, false_and, and_false, Nat.reduceSub, Nat.sub_self, Nat.le_refl, Nat.zero_le, ge_iff_le, Nat.reduceAdd, Nat.reduceLeDiff, Nat.zero_add, Nat.reduceLT, z_lt, z_le, z_eq, z_l0, z_g0, z_le0, z_ge0, z_e0, z_e1, z_vp, z_nc, z_rem, z_div, i_ltT, i_ltF, i_leT, i_leF, i_eqT, i_eqF, n_ltT, n_ltF, n_leT, n_leF, n_eqT, n_eqF, tn_9, tn_12, tn_14, tn_20, tn_28, tn_44, tn_52, tn_68, tn_84, tn_100, tn_116, tn_132, fu_e, up_eq, ob_0, ob_b, oi_add, oi_sub, oi_mul, oi_neg, Int.add_zero, Int.zero_add, or_true, true_or, or_false, false_or, and_self, z_i2l, z_l2i, lo_nat, lo_add, lo_sub, lo_mul, lo_0, e_rem, mr_X6_readStatement, mh_X6_readStatement, ts_sh, ts_R, s7, s8, r80]
  refine c_leastOf (A := A) hk hS.ts.1 hS.ts.2.1 ?_
  simp (disch := omega) only [wp_c, wp_n, jj_n, v_ct, Int.reduceToNat, Int.toNat_natCast, stE, wlE, lgt, lpu, lpw, v_c2, va_s, true_and, and_true, Option.toList, List.nil_append, List.cons_append, List.take, List.drop, List.reverse, List.reverseAux, List.length_cons, List.length_nil, reduceCtorEq, false_implies, true_implies, forall_const, not_true_eq_false, not_false_eq_true, ite_true, ite_false, Bool.false_eq_true, I_I, J_J, Nat.add_left_cancel_iff, Nat.reduceEqDiff, Nat.add_eq_left, Nat.left_eq_add, false_and, and_false, Nat.reduceSub, Nat.sub_self, Nat.le_refl, Nat.zero_le, ge_iff_le, Nat.reduceAdd, Nat.reduceLeDiff, Nat.zero_add, Nat.reduceLT, z_lt, z_le, z_eq, z_l0, z_g0, z_le0, z_ge0, z_e0, z_e1, z_vp, z_nc, z_rem, z_div, i_ltT, i_ltF, i_leT, i_leF, i_eqT, i_eqF, n_ltT, n_ltF, n_leT, n_leF, n_eqT, n_eqF, tn_9, tn_12, tn_14, tn_20, tn_28, tn_44, tn_52, tn_68, tn_84, tn_100, tn_116, tn_132, fu_e, up_eq, ob_0, ob_b, oi_add, oi_sub, oi_mul, oi_neg, Int.add_zero, Int.zero_add, or_true, true_or, or_false, false_or, and_self, z_i2l, z_l2i, lo_nat, lo_add, lo_sub, lo_mul, lo_0, e_rem, mr_X6_readStatement, mh_X6_readStatement, ts_sh, ts_R, s7, s8, r80]
  refine c_mostOf (A := A) hk hS.ts.1 hS.ts.2.1 (by omega) ?_
  simp (disch := omega) only [wp_c, wp_n, jj_n, v_ct, Int.reduceToNat, Int.toNat_natCast, stE, wlE, lgt, lpu, lpw, v_c2, va_s, true_and, and_true, Option.toList, List.nil_append, List.cons_append, List.take, List.drop, List.reverse, List.reverseAux, List.length_cons, List.length_nil, reduceCtorEq, false_implies, true_implies, forall_const, not_true_eq_false, not_false_eq_true, ite_true, ite_false, Bool.false_eq_true, I_I, J_J, Nat.add_left_cancel_iff, Nat.reduceEqDiff, Nat.add_eq_left, Nat.left_eq_add, false_and, and_false, Nat.reduceSub, Nat.sub_self, Nat.le_refl, Nat.zero_le, ge_iff_le, Nat.reduceAdd, Nat.reduceLeDiff, Nat.zero_add, Nat.reduceLT, z_lt, z_le, z_eq, z_l0, z_g0, z_le0, z_ge0, z_e0, z_e1, z_vp, z_nc, z_rem, z_div, i_ltT, i_ltF, i_leT, i_leF, i_eqT, i_eqF, n_ltT, n_ltF, n_leT, n_leF, n_eqT, n_eqF, tn_9, tn_12, tn_14, tn_20, tn_28, tn_44, tn_52, tn_68, tn_84, tn_100, tn_116, tn_132, fu_e, up_eq, ob_0, ob_b, oi_add, oi_sub, oi_mul, oi_neg, Int.add_zero, Int.zero_add, or_true, true_or, or_false, false_or, and_self, z_i2l, z_l2i, lo_nat, lo_add, lo_sub, lo_mul, lo_0, e_rem, mr_X6_readStatement, mh_X6_readStatement, ts_sh, ts_R, s7, s8, r80]
  have blo : 0 ≤ s_lo A (s_kind f t) ∧ s_lo A (s_kind f t) ≤ 8 := by unfold s_lo; split <;> (try split) <;> (try split) <;> omega
  have bhi : 0 ≤ s_hi A (s_kind f t) ∧ s_hi A (s_kind f t) ≤ 16 := by unfold s_hi; split <;> (try split) <;> (try split) <;> (try split) <;> omega
  refine c_checkNumber hT d1 (by omega) (by omega) (fun c3 F' k1 => ?_) (fun c3 c4 F' k1 => ?_) (fun c3 c4 => ?_)
  · simp (disch := omega) only [wp_c, wp_n, jj_n, v_ct, Int.reduceToNat, Int.toNat_natCast, stE, wlE, lgt, lpu, lpw, v_c2, va_s, true_and, and_true, Option.toList, List.nil_append, List.cons_append, List.take, List.drop, List.reverse, List.reverseAux, List.length_cons, List.length_nil, reduceCtorEq, false_implies, true_implies, forall_const, not_true_eq_false, not_false_eq_true, ite_true, ite_false, Bool.false_eq_true, I_I, J_J, Nat.add_left_cancel_iff, Nat.reduceEqDiff, Nat.add_eq_left, Nat.left_eq_add, false_and, and_false, Nat.reduceSub, Nat.sub_self, Nat.le_refl, Nat.zero_le, ge_iff_le, Nat.reduceAdd, Nat.reduceLeDiff, Nat.zero_add, Nat.reduceLT, z_lt, z_le, z_eq, z_l0, z_g0, z_le0, z_ge0, z_e0, z_e1, z_vp, z_nc, z_rem, z_div, i_ltT, i_ltF, i_leT, i_leF, i_eqT, i_eqF, n_ltT, n_ltF, n_leT, n_leF, n_eqT, n_eqF, tn_9, tn_12, tn_14, tn_20, tn_28, tn_44, tn_52, tn_68, tn_84, tn_100, tn_116, tn_132, fu_e, up_eq, ob_0, ob_b, oi_add, oi_sub, oi_mul, oi_neg, Int.add_zero, Int.zero_add, or_true, true_or, or_false, false_or, and_self, z_i2l, z_l2i, lo_nat, lo_add, lo_sub, lo_mul, lo_0, e_rem, mr_X6_readStatement, mh_X6_readStatement, ts_sh]
    exact hbad _ _ (sp_3 c1 c2 c3) w F' (FX.refl _ _) k1
  · simp (disch := omega) only [wp_c, wp_n, jj_n, v_ct, Int.reduceToNat, Int.toNat_natCast, stE, wlE, lgt, lpu, lpw, v_c2, va_s, true_and, and_true, Option.toList, List.nil_append, List.cons_append, List.take, List.drop, List.reverse, List.reverseAux, List.length_cons, List.length_nil, reduceCtorEq, false_implies, true_implies, forall_const, not_true_eq_false, not_false_eq_true, ite_true, ite_false, Bool.false_eq_true, I_I, J_J, Nat.add_left_cancel_iff, Nat.reduceEqDiff, Nat.add_eq_left, Nat.left_eq_add, false_and, and_false, Nat.reduceSub, Nat.sub_self, Nat.le_refl, Nat.zero_le, ge_iff_le, Nat.reduceAdd, Nat.reduceLeDiff, Nat.zero_add, Nat.reduceLT, z_lt, z_le, z_eq, z_l0, z_g0, z_le0, z_ge0, z_e0, z_e1, z_vp, z_nc, z_rem, z_div, i_ltT, i_ltF, i_leT, i_leF, i_eqT, i_eqF, n_ltT, n_ltF, n_leT, n_leF, n_eqT, n_eqF, tn_9, tn_12, tn_14, tn_20, tn_28, tn_44, tn_52, tn_68, tn_84, tn_100, tn_116, tn_132, fu_e, up_eq, ob_0, ob_b, oi_add, oi_sub, oi_mul, oi_neg, Int.add_zero, Int.zero_add, or_true, true_or, or_false, false_or, and_self, z_i2l, z_l2i, lo_nat, lo_add, lo_sub, lo_mul, lo_0, e_rem, mr_X6_readStatement, mh_X6_readStatement, ts_sh]
    exact hbad _ _ (sp_4 c1 c2 c3 c4) w F' (FX.refl _ _) k1
  simp (disch := omega) only [wp_c, wp_n, jj_n, v_ct, Int.reduceToNat, Int.toNat_natCast, stE, wlE, lgt, lpu, lpw, v_c2, va_s, true_and, and_true, Option.toList, List.nil_append, List.cons_append, List.take, List.drop, List.reverse, List.reverseAux, List.length_cons, List.length_nil, reduceCtorEq, false_implies, true_implies, forall_const, not_true_eq_false, not_false_eq_true, ite_true, ite_false, Bool.false_eq_true, I_I, J_J, Nat.add_left_cancel_iff, Nat.reduceEqDiff, Nat.add_eq_left, Nat.left_eq_add, false_and, and_false, Nat.reduceSub, Nat.sub_self, Nat.le_refl, Nat.zero_le, ge_iff_le, Nat.reduceAdd, Nat.reduceLeDiff, Nat.zero_add, Nat.reduceLT, z_lt, z_le, z_eq, z_l0, z_g0, z_le0, z_ge0, z_e0, z_e1, z_vp, z_nc, z_rem, z_div, i_ltT, i_ltF, i_leT, i_leF, i_eqT, i_eqF, n_ltT, n_ltF, n_leT, n_leF, n_eqT, n_eqF, tn_9, tn_12, tn_14, tn_20, tn_28, tn_44, tn_52, tn_68, tn_84, tn_100, tn_116, tn_132, fu_e, up_eq, ob_0, ob_b, oi_add, oi_sub, oi_mul, oi_neg, Int.add_zero, Int.zero_add, or_true, true_or, or_false, false_or, and_self, z_i2l, z_l2i, lo_nat, lo_add, lo_sub, lo_mul, lo_0, e_rem, mr_X6_readStatement, mh_X6_readStatement, ts_sh]
  have hv : 0 ≤ tval f (tok f n t.2.2) ∧ tval f (tok f n t.2.2) ≤ 16 := by omega
  have hf : 4 ≤ s_kind f t → tval f (tok f n t.2.2) < 16 ∧ 0 ≤ A (68 + (tval f (tok f n t.2.2)).toNat) ∧ A (68 + (tval f (tok f n t.2.2)).toNat) ≤ 3 := by
    intro h4
    have e : s_hi A (s_kind f t) = A 1 - 1 := by unfold s_hi; rw [if_neg (by omega), if_neg (by omega), if_neg (by omega), if_neg (by omega)]
    have := TJ_flt hJ (tval f (tok f n t.2.2)).toNat (by omega)
    exact ⟨by omega, this.1, this.2⟩
  have h99 : ¬ s_has A (s_kind f t) (tval f (tok f n t.2.2)) → RT n_X6_readStatement 99 [.ref 278, .ref 113, .int (Int32.ofInt (s_kind f t))] [] (ts w F1) (0, 0, false) Q := by
    intro c5
    refine rt_X6_readStatement_99 ?_
    simp (disch := omega) only [wp_c, wp_n, jj_n, v_ct, Int.reduceToNat, Int.toNat_natCast, stE, wlE, lgt, lpu, lpw, v_c2, va_s, true_and, and_true, Option.toList, List.nil_append, List.cons_append, List.take, List.drop, List.reverse, List.reverseAux, List.length_cons, List.length_nil, reduceCtorEq, false_implies, true_implies, forall_const, not_true_eq_false, not_false_eq_true, ite_true, ite_false, Bool.false_eq_true, I_I, J_J, Nat.add_left_cancel_iff, Nat.reduceEqDiff, Nat.add_eq_left, Nat.left_eq_add, false_and, and_false, Nat.reduceSub, Nat.sub_self, Nat.le_refl, Nat.zero_le, ge_iff_le, Nat.reduceAdd, Nat.reduceLeDiff, Nat.zero_add, Nat.reduceLT, z_lt, z_le, z_eq, z_l0, z_g0, z_le0, z_ge0, z_e0, z_e1, z_vp, z_nc, z_rem, z_div, i_ltT, i_ltF, i_leT, i_leF, i_eqT, i_eqF, n_ltT, n_ltF, n_leT, n_leF, n_eqT, n_eqF, tn_9, tn_12, tn_14, tn_20, tn_28, tn_44, tn_52, tn_68, tn_84, tn_100, tn_116, tn_132, fu_e, up_eq, ob_0, ob_b, oi_add, oi_sub, oi_mul, oi_neg, Int.add_zero, Int.zero_add, or_true, true_or, or_false, false_or, and_self, z_i2l, z_l2i, lo_nat, lo_add, lo_sub, lo_mul, lo_0, e_rem, mr_X6_readStatement, mh_X6_readStatement, ts_sh, ts_R, s7, s8, s9, r80, r81, Int.toNat_natCast]
    have e1 : vp_nar .boolean (Int32.ofInt 1) = Int32.ofInt 1 := nar_b ⟨by omega, by omega⟩
    rw [e1, ts_s (by omega)]
    generalize hw1 : s_I w 279 (s_kind f t) (Int32.ofInt 1) = w1
    have f1 : FX (fun a => SP a ∨ a = 277) w w1 := by rw [← hw1]; exact (FX.refl _ w).I (Or.inl (Or.inr rfl))
    have hTc : TC w1 (s_td td (s_kind f t)) := by
      intro i hi
      rw [← hw1]
      simp only [wp_c, wp_n, jj_n, v_ct, Int.reduceToNat, Int.toNat_natCast, stE, wlE, lgt, lpu, lpw, v_c2, va_s, true_and, and_true, Option.toList, List.nil_append, List.cons_append, List.take, List.drop, List.reverse, List.reverseAux, List.length_cons, List.length_nil, reduceCtorEq, false_implies, true_implies, forall_const, not_true_eq_false, not_false_eq_true, ite_true, ite_false, Bool.false_eq_true, I_I, J_J, Nat.add_left_cancel_iff, Nat.reduceEqDiff, Nat.add_eq_left, Nat.left_eq_add, false_and, and_false, Nat.reduceSub, Nat.sub_self, Nat.le_refl, Nat.zero_le, ge_iff_le, Nat.reduceAdd, Nat.reduceLeDiff, Nat.zero_add, Nat.reduceLT]
      unfold s_td
      by_cases h : i = s_kind f t
      · rw [if_pos h, if_pos h, if_pos rfl]
      · rw [if_neg h, if_neg h]; exact hC i hi
    have hT1 := hT.fx f1
    have hB1 := hB.fx f1 (by unfold SP; omega) (by unfold SP; omega)
    have hS1 : PS w1 A := by rw [← hw1]; exact hS.fx (P := fun a => a = 279) ((FX.refl _ w).I rfl) (fun a h1 h2 h3 => by have h4 : a = 279 := h3; omega)
    have s7' := hT1.2.1
    have hS81 := hS8.fx f1
    have s8' := hS81.1
    have r80' := hS81.2.1
    refine c_numb hT1 d1 c3 ?_
    simp (disch := omega) only [wp_c, wp_n, jj_n, v_ct, Int.reduceToNat, Int.toNat_natCast, stE, wlE, lgt, lpu, lpw, v_c2, va_s, true_and, and_true, Option.toList, List.nil_append, List.cons_append, List.take, List.drop, List.reverse, List.reverseAux, List.length_cons, List.length_nil, reduceCtorEq, false_implies, true_implies, forall_const, not_true_eq_false, not_false_eq_true, ite_true, ite_false, Bool.false_eq_true, I_I, J_J, Nat.add_left_cancel_iff, Nat.reduceEqDiff, Nat.add_eq_left, Nat.left_eq_add, false_and, and_false, Nat.reduceSub, Nat.sub_self, Nat.le_refl, Nat.zero_le, ge_iff_le, Nat.reduceAdd, Nat.reduceLeDiff, Nat.zero_add, Nat.reduceLT, z_lt, z_le, z_eq, z_l0, z_g0, z_le0, z_ge0, z_e0, z_e1, z_vp, z_nc, z_rem, z_div, i_ltT, i_ltF, i_leT, i_leF, i_eqT, i_eqF, n_ltT, n_ltF, n_leT, n_leF, n_eqT, n_eqF, tn_9, tn_12, tn_14, tn_20, tn_28, tn_44, tn_52, tn_68, tn_84, tn_100, tn_116, tn_132, fu_e, up_eq, ob_0, ob_b, oi_add, oi_sub, oi_mul, oi_neg, Int.add_zero, Int.zero_add, or_true, true_or, or_false, false_or, and_self, z_i2l, z_l2i, lo_nat, lo_add, lo_sub, lo_mul, lo_0, e_rem, mr_X6_readStatement, mh_X6_readStatement, ts_sh, ts_R, s7', s8', r80']
    refine c_put hk hv hS1.ts (fun h4 => ⟨(hf h4).1, (hf h4).2.1, (hf h4).2.2, c5⟩) (fun w2 g1 g2 g3 => ?_)
    have eb := ts_back g2 (by unfold SP; omega)
    have g4 : FX (fun a => SP a ∨ a = 277) w1 w2 := ⟨g2.1, g2.2.1, g2.2.2.1, fun a ha => ts_fx g2 (by unfold SP; omega) a (fun q => ha (Or.inl q)) (fun q => ha (Or.inr q))⟩
    have hT2 := hT1.fx g4
    have hB2 := hB1.fx g4 (by unfold SP; omega) (by unfold SP; omega)
    have s7'' := hT2.2.1
    have hS82 := hS81.fx g4
    have s8'' := hS82.1
    have r80'' := hS82.2.1
    have hTc2 : TC w2 (s_td td (s_kind f t)) := fun i hi => by rw [g3]; exact hTc.ts i hi
    rw [eb]
    simp (disch := omega) only [wp_c, wp_n, jj_n, v_ct, Int.reduceToNat, Int.toNat_natCast, stE, wlE, lgt, lpu, lpw, v_c2, va_s, true_and, and_true, Option.toList, List.nil_append, List.cons_append, List.take, List.drop, List.reverse, List.reverseAux, List.length_cons, List.length_nil, reduceCtorEq, false_implies, true_implies, forall_const, not_true_eq_false, not_false_eq_true, ite_true, ite_false, Bool.false_eq_true, I_I, J_J, Nat.add_left_cancel_iff, Nat.reduceEqDiff, Nat.add_eq_left, Nat.left_eq_add, false_and, and_false, Nat.reduceSub, Nat.sub_self, Nat.le_refl, Nat.zero_le, ge_iff_le, Nat.reduceAdd, Nat.reduceLeDiff, Nat.zero_add, Nat.reduceLT, z_lt, z_le, z_eq, z_l0, z_g0, z_le0, z_ge0, z_e0, z_e1, z_vp, z_nc, z_rem, z_div, i_ltT, i_ltF, i_leT, i_leF, i_eqT, i_eqF, n_ltT, n_ltF, n_leT, n_leF, n_eqT, n_eqF, tn_9, tn_12, tn_14, tn_20, tn_28, tn_44, tn_52, tn_68, tn_84, tn_100, tn_116, tn_132, fu_e, up_eq, ob_0, ob_b, oi_add, oi_sub, oi_mul, oi_neg, Int.add_zero, Int.zero_add, or_true, true_or, or_false, false_or, and_self, z_i2l, z_l2i, lo_nat, lo_add, lo_sub, lo_mul, lo_0, e_rem, mr_X6_readStatement, mh_X6_readStatement, ts_sh, ts_R, s7'', s8'', r80'']
    refine c_nxt hT2 hB2 d1 fun F2 d2 u2 => ?_
    simp (disch := omega) only [wp_c, wp_n, jj_n, v_ct, Int.reduceToNat, Int.toNat_natCast, stE, wlE, lgt, lpu, lpw, v_c2, va_s, true_and, and_true, Option.toList, List.nil_append, List.cons_append, List.take, List.drop, List.reverse, List.reverseAux, List.length_cons, List.length_nil, reduceCtorEq, false_implies, true_implies, forall_const, not_true_eq_false, not_false_eq_true, ite_true, ite_false, Bool.false_eq_true, I_I, J_J, Nat.add_left_cancel_iff, Nat.reduceEqDiff, Nat.add_eq_left, Nat.left_eq_add, false_and, and_false, Nat.reduceSub, Nat.sub_self, Nat.le_refl, Nat.zero_le, ge_iff_le, Nat.reduceAdd, Nat.reduceLeDiff, Nat.zero_add, Nat.reduceLT, z_lt, z_le, z_eq, z_l0, z_g0, z_le0, z_ge0, z_e0, z_e1, z_vp, z_nc, z_rem, z_div, i_ltT, i_ltF, i_leT, i_leF, i_eqT, i_eqF, n_ltT, n_ltF, n_leT, n_leF, n_eqT, n_eqF, tn_9, tn_12, tn_14, tn_20, tn_28, tn_44, tn_52, tn_68, tn_84, tn_100, tn_116, tn_132, fu_e, up_eq, ob_0, ob_b, oi_add, oi_sub, oi_mul, oi_neg, Int.add_zero, Int.zero_add, or_true, true_or, or_false, false_or, and_self, z_i2l, z_l2i, lo_nat, lo_add, lo_sub, lo_mul, lo_0, e_rem, mr_X6_readStatement, mh_X6_readStatement, ts_sh, ts_R, s7'', s8'', r80'']
    refine c_readEnd hT2 hB2 d2 (fun c6 F' k1 => ?_) (fun c6 F' k1 u3 => ?_)
    · simp (disch := omega) only [wp_c, wp_n, jj_n, v_ct, Int.reduceToNat, Int.toNat_natCast, stE, wlE, lgt, lpu, lpw, v_c2, va_s, true_and, and_true, Option.toList, List.nil_append, List.cons_append, List.take, List.drop, List.reverse, List.reverseAux, List.length_cons, List.length_nil, reduceCtorEq, false_implies, true_implies, forall_const, not_true_eq_false, not_false_eq_true, ite_true, ite_false, Bool.false_eq_true, I_I, J_J, Nat.add_left_cancel_iff, Nat.reduceEqDiff, Nat.add_eq_left, Nat.left_eq_add, false_and, and_false, Nat.reduceSub, Nat.sub_self, Nat.le_refl, Nat.zero_le, ge_iff_le, Nat.reduceAdd, Nat.reduceLeDiff, Nat.zero_add, Nat.reduceLT, z_lt, z_le, z_eq, z_l0, z_g0, z_le0, z_ge0, z_e0, z_e1, z_vp, z_nc, z_rem, z_div, i_ltT, i_ltF, i_leT, i_leF, i_eqT, i_eqF, n_ltT, n_ltF, n_leT, n_leF, n_eqT, n_eqF, tn_9, tn_12, tn_14, tn_20, tn_28, tn_44, tn_52, tn_68, tn_84, tn_100, tn_116, tn_132, fu_e, up_eq, ob_0, ob_b, oi_add, oi_sub, oi_mul, oi_neg, Int.add_zero, Int.zero_add, or_true, true_or, or_false, false_or, and_self, z_i2l, z_l2i, lo_nat, lo_add, lo_sub, lo_mul, lo_0, e_rem, mr_X6_readStatement, mh_X6_readStatement, ts_sh]
      exact hbad _ _ (sp_6 c1 c2 c3 c4 c5 c6) w2 F' (f1.trans g4) k1
    · simp (disch := omega) only [wp_c, wp_n, jj_n, v_ct, Int.reduceToNat, Int.toNat_natCast, stE, wlE, lgt, lpu, lpw, v_c2, va_s, true_and, and_true, Option.toList, List.nil_append, List.cons_append, List.take, List.drop, List.reverse, List.reverseAux, List.length_cons, List.length_nil, reduceCtorEq, false_implies, true_implies, forall_const, not_true_eq_false, not_false_eq_true, ite_true, ite_false, Bool.false_eq_true, I_I, J_J, Nat.add_left_cancel_iff, Nat.reduceEqDiff, Nat.add_eq_left, Nat.left_eq_add, false_and, and_false, Nat.reduceSub, Nat.sub_self, Nat.le_refl, Nat.zero_le, ge_iff_le, Nat.reduceAdd, Nat.reduceLeDiff, Nat.zero_add, Nat.reduceLT, z_lt, z_le, z_eq, z_l0, z_g0, z_le0, z_ge0, z_e0, z_e1, z_vp, z_nc, z_rem, z_div, i_ltT, i_ltF, i_leT, i_leF, i_eqT, i_eqF, n_ltT, n_ltF, n_leT, n_leF, n_eqT, n_eqF, tn_9, tn_12, tn_14, tn_20, tn_28, tn_44, tn_52, tn_68, tn_84, tn_100, tn_116, tn_132, fu_e, up_eq, ob_0, ob_b, oi_add, oi_sub, oi_mul, oi_neg, Int.add_zero, Int.zero_add, or_true, true_or, or_false, false_or, and_self, z_i2l, z_l2i, lo_nat, lo_add, lo_sub, lo_mul, lo_0, e_rem, mr_X6_readStatement, mh_X6_readStatement, ts_sh]
      exact hgood _ _ _ (sp_7 c1 c2 c3 c4 c5 c6) w2 F' (f1.trans g4) k1 g1 hTc2 ((u1.trans u2).trans u3)
  refine rt_X6_readStatement_65 ?_
  simp (disch := omega) only [wp_c, wp_n, jj_n, v_ct, Int.reduceToNat, Int.toNat_natCast, stE, wlE, lgt, lpu, lpw, v_c2, va_s, true_and, and_true, Option.toList, List.nil_append, List.cons_append, List.take, List.drop, List.reverse, List.reverseAux, List.length_cons, List.length_nil, reduceCtorEq, false_implies, true_implies, forall_const, not_true_eq_false, not_false_eq_true, ite_true, ite_false, Bool.false_eq_true, I_I, J_J, Nat.add_left_cancel_iff, Nat.reduceEqDiff, Nat.add_eq_left, Nat.left_eq_add, false_and, and_false, Nat.reduceSub, Nat.sub_self, Nat.le_refl, Nat.zero_le, ge_iff_le, Nat.reduceAdd, Nat.reduceLeDiff, Nat.zero_add, Nat.reduceLT, z_lt, z_le, z_eq, z_l0, z_g0, z_le0, z_ge0, z_e0, z_e1, z_vp, z_nc, z_rem, z_div, i_ltT, i_ltF, i_leT, i_leF, i_eqT, i_eqF, n_ltT, n_ltF, n_leT, n_leF, n_eqT, n_eqF, tn_9, tn_12, tn_14, tn_20, tn_28, tn_44, tn_52, tn_68, tn_84, tn_100, tn_116, tn_132, fu_e, up_eq, ob_0, ob_b, oi_add, oi_sub, oi_mul, oi_neg, Int.add_zero, Int.zero_add, or_true, true_or, or_false, false_or, and_self, z_i2l, z_l2i, lo_nat, lo_add, lo_sub, lo_mul, lo_0, e_rem, mr_X6_readStatement, mh_X6_readStatement, ts_sh, ts_R, s7, s8, r80]
  refine c_isFault hk ?_
  simp (disch := omega) only [wp_c, wp_n, jj_n, v_ct, Int.reduceToNat, Int.toNat_natCast, stE, wlE, lgt, lpu, lpw, v_c2, va_s, true_and, and_true, Option.toList, List.nil_append, List.cons_append, List.take, List.drop, List.reverse, List.reverseAux, List.length_cons, List.length_nil, reduceCtorEq, false_implies, true_implies, forall_const, not_true_eq_false, not_false_eq_true, ite_true, ite_false, Bool.false_eq_true, I_I, J_J, Nat.add_left_cancel_iff, Nat.reduceEqDiff, Nat.add_eq_left, Nat.left_eq_add, false_and, and_false, Nat.reduceSub, Nat.sub_self, Nat.le_refl, Nat.zero_le, ge_iff_le, Nat.reduceAdd, Nat.reduceLeDiff, Nat.zero_add, Nat.reduceLT, z_lt, z_le, z_eq, z_l0, z_g0, z_le0, z_ge0, z_e0, z_e1, z_vp, z_nc, z_rem, z_div, i_ltT, i_ltF, i_leT, i_leF, i_eqT, i_eqF, n_ltT, n_ltF, n_leT, n_leF, n_eqT, n_eqF, tn_9, tn_12, tn_14, tn_20, tn_28, tn_44, tn_52, tn_68, tn_84, tn_100, tn_116, tn_132, fu_e, up_eq, ob_0, ob_b, oi_add, oi_sub, oi_mul, oi_neg, Int.add_zero, Int.zero_add, or_true, true_or, or_false, false_or, and_self, z_i2l, z_l2i, lo_nat, lo_add, lo_sub, lo_mul, lo_0, e_rem, mr_X6_readStatement, mh_X6_readStatement, ts_sh, ts_R, s7, s8, r80, s113]
  refine ⟨fun h => h99 (fun q => by have := q.1; omega), fun h => ?_⟩
  have h4 : 4 ≤ s_kind f t := by omega
  obtain ⟨v1, v2, v3⟩ := hf h4
  refine c_numb hT d1 c3 ?_
  simp (disch := omega) only [wp_c, wp_n, jj_n, v_ct, Int.reduceToNat, Int.toNat_natCast, stE, wlE, lgt, lpu, lpw, v_c2, va_s, true_and, and_true, Option.toList, List.nil_append, List.cons_append, List.take, List.drop, List.reverse, List.reverseAux, List.length_cons, List.length_nil, reduceCtorEq, false_implies, true_implies, forall_const, not_true_eq_false, not_false_eq_true, ite_true, ite_false, Bool.false_eq_true, I_I, J_J, Nat.add_left_cancel_iff, Nat.reduceEqDiff, Nat.add_eq_left, Nat.left_eq_add, false_and, and_false, Nat.reduceSub, Nat.sub_self, Nat.le_refl, Nat.zero_le, ge_iff_le, Nat.reduceAdd, Nat.reduceLeDiff, Nat.zero_add, Nat.reduceLT, z_lt, z_le, z_eq, z_l0, z_g0, z_le0, z_ge0, z_e0, z_e1, z_vp, z_nc, z_rem, z_div, i_ltT, i_ltF, i_leT, i_leF, i_eqT, i_eqF, n_ltT, n_ltF, n_leT, n_leF, n_eqT, n_eqF, tn_9, tn_12, tn_14, tn_20, tn_28, tn_44, tn_52, tn_68, tn_84, tn_100, tn_116, tn_132, fu_e, up_eq, ob_0, ob_b, oi_add, oi_sub, oi_mul, oi_neg, Int.add_zero, Int.zero_add, or_true, true_or, or_false, false_or, and_self, z_i2l, z_l2i, lo_nat, lo_add, lo_sub, lo_mul, lo_0, e_rem, mr_X6_readStatement, mh_X6_readStatement, ts_sh, ts_R, s7, s8, r80, s113]
  refine c_faultOf hk ?_
  simp (disch := omega) only [wp_c, wp_n, jj_n, v_ct, Int.reduceToNat, Int.toNat_natCast, stE, wlE, lgt, lpu, lpw, v_c2, va_s, true_and, and_true, Option.toList, List.nil_append, List.cons_append, List.take, List.drop, List.reverse, List.reverseAux, List.length_cons, List.length_nil, reduceCtorEq, false_implies, true_implies, forall_const, not_true_eq_false, not_false_eq_true, ite_true, ite_false, Bool.false_eq_true, I_I, J_J, Nat.add_left_cancel_iff, Nat.reduceEqDiff, Nat.add_eq_left, Nat.left_eq_add, false_and, and_false, Nat.reduceSub, Nat.sub_self, Nat.le_refl, Nat.zero_le, ge_iff_le, Nat.reduceAdd, Nat.reduceLeDiff, Nat.zero_add, Nat.reduceLT, z_lt, z_le, z_eq, z_l0, z_g0, z_le0, z_ge0, z_e0, z_e1, z_vp, z_nc, z_rem, z_div, i_ltT, i_ltF, i_leT, i_leF, i_eqT, i_eqF, n_ltT, n_ltF, n_leT, n_leF, n_eqT, n_eqF, tn_9, tn_12, tn_14, tn_20, tn_28, tn_44, tn_52, tn_68, tn_84, tn_100, tn_116, tn_132, fu_e, up_eq, ob_0, ob_b, oi_add, oi_sub, oi_mul, oi_neg, Int.add_zero, Int.zero_add, or_true, true_or, or_false, false_or, and_self, z_i2l, z_l2i, lo_nat, lo_add, lo_sub, lo_mul, lo_0, e_rem, mr_X6_readStatement, mh_X6_readStatement, ts_sh, ts_R, s7, s8, r80, s113]
  obtain ⟨j, hj⟩ : ∃ j : Nat, tval f (tok f n t.2.2) = j := ⟨(tval f (tok f n t.2.2)).toNat, by omega⟩
  have hfl := hS.ts (F := F1) |>.2.1.r_flt (j := j) (by omega)
  rw [hj] at v2 v3 h99 ⊢
  rw [Int.toNat_natCast] at v2 v3
  refine c_hasFault hS.ts.1 (j := j) (by omega) ?_
  rw [show (113 : Nat) + 4 = 117 from rfl] at hfl ⊢
  rw [hfl]
  have dec : s_has A (s_kind f t) (j : Int) ∨ ¬ s_has A (s_kind f t) (j : Int) := Classical.em _
  have key : (s_has A (s_kind f t) (j : Int) → (if Int32.ofInt (A (68 + j)) &&& Int32.ofInt (if s_kind f t = 4 then 1 else 2) = 0 then (0 : Int32) else 1) = 1) ∧ (¬ s_has A (s_kind f t) (j : Int) → (if Int32.ofInt (A (68 + j)) &&& Int32.ofInt (if s_kind f t = 4 then 1 else 2) = 0 then (0 : Int32) else 1) = 0) := by
    unfold s_has
    rw [Int.toNat_natCast]
    by_cases h44 : s_kind f t = 4
    · rw [if_pos h44, b_and1 v2 v3]
      refine ⟨fun q => if_neg (fun z => ?_), fun q => if_pos ((oi_e0 ⟨by omega, by omega⟩).mpr (by omega))⟩
      have := (oi_e0 ⟨by omega, by omega⟩).mp z
      omega
    · rw [if_neg h44, b_and2 v2 v3]
      by_cases h22 : A (68 + j) < 2
      · rw [if_pos h22]
        exact ⟨fun q => by omega, fun _ => if_pos (by decide)⟩
      · rw [if_neg h22]
        exact ⟨fun _ => if_neg (by decide), fun q => by omega⟩
  rcases dec with c5 | c5
  · rw [key.1 c5]
    simp (disch := omega) only [wp_c, wp_n, jj_n, v_ct, Int.reduceToNat, Int.toNat_natCast, stE, wlE, lgt, lpu, lpw, v_c2, va_s, true_and, and_true, Option.toList, List.nil_append, List.cons_append, List.take, List.drop, List.reverse, List.reverseAux, List.length_cons, List.length_nil, reduceCtorEq, false_implies, true_implies, forall_const, not_true_eq_false, not_false_eq_true, ite_true, ite_false, Bool.false_eq_true, I_I, J_J, Nat.add_left_cancel_iff, Nat.reduceEqDiff, Nat.add_eq_left, Nat.left_eq_add, false_and, and_false, Nat.reduceSub, Nat.sub_self, Nat.le_refl, Nat.zero_le, ge_iff_le, Nat.reduceAdd, Nat.reduceLeDiff, Nat.zero_add, Nat.reduceLT, z_lt, z_le, z_eq, z_l0, z_g0, z_le0, z_ge0, z_e0, z_e1, z_vp, z_nc, z_rem, z_div, i_ltT, i_ltF, i_leT, i_leF, i_eqT, i_eqF, n_ltT, n_ltF, n_leT, n_leF, n_eqT, n_eqF, tn_9, tn_12, tn_14, tn_20, tn_28, tn_44, tn_52, tn_68, tn_84, tn_100, tn_116, tn_132, fu_e, up_eq, ob_0, ob_b, oi_add, oi_sub, oi_mul, oi_neg, Int.add_zero, Int.zero_add, or_true, true_or, or_false, false_or, and_self, z_i2l, z_l2i, lo_nat, lo_add, lo_sub, lo_mul, lo_0, e_rem, mr_X6_readStatement, mh_X6_readStatement, ts_sh, ts_R, s7, s8, r80]
    simp only [show ¬ ((1 : Int32) = 0) by decide, false_implies, not_false_eq_true, true_implies, true_and]
    refine c_fail (c := 3) hT d1 fun F' k1 => ?_
    simp (disch := omega) only [wp_c, wp_n, jj_n, v_ct, Int.reduceToNat, Int.toNat_natCast, stE, wlE, lgt, lpu, lpw, v_c2, va_s, true_and, and_true, Option.toList, List.nil_append, List.cons_append, List.take, List.drop, List.reverse, List.reverseAux, List.length_cons, List.length_nil, reduceCtorEq, false_implies, true_implies, forall_const, not_true_eq_false, not_false_eq_true, ite_true, ite_false, Bool.false_eq_true, I_I, J_J, Nat.add_left_cancel_iff, Nat.reduceEqDiff, Nat.add_eq_left, Nat.left_eq_add, false_and, and_false, Nat.reduceSub, Nat.sub_self, Nat.le_refl, Nat.zero_le, ge_iff_le, Nat.reduceAdd, Nat.reduceLeDiff, Nat.zero_add, Nat.reduceLT, z_lt, z_le, z_eq, z_l0, z_g0, z_le0, z_ge0, z_e0, z_e1, z_vp, z_nc, z_rem, z_div, i_ltT, i_ltF, i_leT, i_leF, i_eqT, i_eqF, n_ltT, n_ltF, n_leT, n_leF, n_eqT, n_eqF, tn_9, tn_12, tn_14, tn_20, tn_28, tn_44, tn_52, tn_68, tn_84, tn_100, tn_116, tn_132, fu_e, up_eq, ob_0, ob_b, oi_add, oi_sub, oi_mul, oi_neg, Int.add_zero, Int.zero_add, or_true, true_or, or_false, false_or, and_self, z_i2l, z_l2i, lo_nat, lo_add, lo_sub, lo_mul, lo_0, e_rem, mr_X6_readStatement, mh_X6_readStatement, ts_sh]
    exact hbad _ _ (sp_5 c1 c2 c3 c4 (by rw [hj]; exact c5)) w F' (FX.refl _ _) k1
  · rw [key.2 c5]
    simp (disch := omega) only [wp_c, wp_n, jj_n, v_ct, Int.reduceToNat, Int.toNat_natCast, stE, wlE, lgt, lpu, lpw, v_c2, va_s, true_and, and_true, Option.toList, List.nil_append, List.cons_append, List.take, List.drop, List.reverse, List.reverseAux, List.length_cons, List.length_nil, reduceCtorEq, false_implies, true_implies, forall_const, not_true_eq_false, not_false_eq_true, ite_true, ite_false, Bool.false_eq_true, I_I, J_J, Nat.add_left_cancel_iff, Nat.reduceEqDiff, Nat.add_eq_left, Nat.left_eq_add, false_and, and_false, Nat.reduceSub, Nat.sub_self, Nat.le_refl, Nat.zero_le, ge_iff_le, Nat.reduceAdd, Nat.reduceLeDiff, Nat.zero_add, Nat.reduceLT, z_lt, z_le, z_eq, z_l0, z_g0, z_le0, z_ge0, z_e0, z_e1, z_vp, z_nc, z_rem, z_div, i_ltT, i_ltF, i_leT, i_leF, i_eqT, i_eqF, n_ltT, n_ltF, n_leT, n_leF, n_eqT, n_eqF, tn_9, tn_12, tn_14, tn_20, tn_28, tn_44, tn_52, tn_68, tn_84, tn_100, tn_116, tn_132, fu_e, up_eq, ob_0, ob_b, oi_add, oi_sub, oi_mul, oi_neg, Int.add_zero, Int.zero_add, or_true, true_or, or_false, false_or, and_self, z_i2l, z_l2i, lo_nat, lo_add, lo_sub, lo_mul, lo_0, e_rem, mr_X6_readStatement, mh_X6_readStatement, ts_sh, ts_R, s7, s8, r80]
    exact h99 c5
/-! the class's setup: all statements -/
theorem FX.w {P P' : Nat → Prop} {w w' w'' : mW} (h : FX P w w') (h' : FX P' w' w'') (h1 : ∀ a, P a → P' a) : FX P' w w'' := (h.mono h1).trans h'
def SQ (a : Nat) : Prop := SP a ∨ a = 277
theorem c_bgn {f : Nat → Int} {n : Nat} {w : mW} {F : Nat → Int32} {Q : mW → mO → Prop} (hT : TB w) (hB : IB w f n) (hq : ∀ F', RC f n F' (tok f n 0) → F' 0 = Int32.ofInt 0 → F' 1 = Int32.ofInt (-1) → Q (ts w F') (.inl none)) : CT n_X7_begin [.ref 277] (ts w F) Q := by
  have s7 := hT.2.1
  refine ct_X7_begin (rt_X7_begin_0 ?_)
  simp (disch := omega) only [wp_c, wp_n, jj_n, v_ct, Int.reduceToNat, Int.toNat_natCast, stE, wlE, lgt, lpu, lpw, v_c2, va_s, true_and, and_true, Option.toList, List.nil_append, List.cons_append, List.take, List.drop, List.reverse, List.reverseAux, List.length_cons, List.length_nil, reduceCtorEq, false_implies, true_implies, forall_const, not_true_eq_false, not_false_eq_true, ite_true, ite_false, Bool.false_eq_true, I_I, J_J, Nat.add_left_cancel_iff, Nat.reduceEqDiff, Nat.add_eq_left, Nat.left_eq_add, false_and, and_false, Nat.reduceSub, Nat.sub_self, Nat.le_refl, Nat.zero_le, ge_iff_le, Nat.reduceAdd, Nat.reduceLeDiff, Nat.zero_add, Nat.reduceLT, z_lt, z_le, z_eq, z_l0, z_g0, z_le0, z_ge0, z_e0, z_e1, z_vp, z_nc, z_rem, z_div, i_ltT, i_ltF, i_leT, i_leF, i_eqT, i_eqF, n_ltT, n_ltF, n_leT, n_leF, n_eqT, n_eqF, tn_9, tn_12, tn_14, tn_20, tn_28, tn_44, tn_52, tn_68, tn_84, tn_100, tn_116, tn_132, fu_e, up_eq, ob_0, ob_b, oi_add, oi_sub, oi_mul, oi_neg, Int.add_zero, Int.zero_add, or_true, true_or, or_false, false_or, and_self, z_i2l, z_l2i, lo_nat, lo_add, lo_sub, lo_mul, lo_0, e_rem, mr_X7_begin, mh_X7_begin, ts_sh, ts_R, ts_F, ts_w, s7]
  refine c_advance hT hB (i := 0) (Nat.zero_le _) (by rw [fu_e, if_pos rfl]; rfl) fun F' k1 k2 => ?_
  simp (disch := omega) only [wp_c, wp_n, jj_n, v_ct, Int.reduceToNat, Int.toNat_natCast, stE, wlE, lgt, lpu, lpw, v_c2, va_s, true_and, and_true, Option.toList, List.nil_append, List.cons_append, List.take, List.drop, List.reverse, List.reverseAux, List.length_cons, List.length_nil, reduceCtorEq, false_implies, true_implies, forall_const, not_true_eq_false, not_false_eq_true, ite_true, ite_false, Bool.false_eq_true, I_I, J_J, Nat.add_left_cancel_iff, Nat.reduceEqDiff, Nat.add_eq_left, Nat.left_eq_add, false_and, and_false, Nat.reduceSub, Nat.sub_self, Nat.le_refl, Nat.zero_le, ge_iff_le, Nat.reduceAdd, Nat.reduceLeDiff, Nat.zero_add, Nat.reduceLT, z_lt, z_le, z_eq, z_l0, z_g0, z_le0, z_ge0, z_e0, z_e1, z_vp, z_nc, z_rem, z_div, i_ltT, i_ltF, i_leT, i_leF, i_eqT, i_eqF, n_ltT, n_ltF, n_leT, n_leF, n_eqT, n_eqF, tn_9, tn_12, tn_14, tn_20, tn_28, tn_44, tn_52, tn_68, tn_84, tn_100, tn_116, tn_132, fu_e, up_eq, ob_0, ob_b, oi_add, oi_sub, oi_mul, oi_neg, Int.add_zero, Int.zero_add, or_true, true_or, or_false, false_or, and_self, z_i2l, z_l2i, lo_nat, lo_add, lo_sub, lo_mul, lo_0, e_rem, mr_X7_begin, mh_X7_begin, ts_sh]
  refine hq F' ⟨k1, 0, Nat.zero_le _, rfl⟩ ?_ ?_
  · rw [k2 0 (by omega) (by omega) (by omega) (by omega)]; simp only [fu_e, Nat.reduceEqDiff, ite_false, ite_true]
  · rw [k2 1 (by omega) (by omega) (by omega) (by omega)]; simp only [fu_e, Nat.reduceEqDiff, ite_false, ite_true]
theorem c_ri_34 {f : Nat → Int} {n : Nat} {w0 : mW} {F0 : Nat → Int32} {Q : mW → mO → Prop} (hT0 : TB w0) (hB0 : IB w0 f n) (hS80 : SB w0) : ∀ (k i : Nat) (A : Row) (td : Nat → Bool) (t : Tk) (w : mW) (F : Nat → Int32), k + i = 900 → FX SQ w0 w → KU F0 F → RC f n F t → PS w A → TC w td → TJ A → A 4 = 0 →
    (∀ c p, s_run f n k A td t = .inl (c, p) → ∀ w' F', FX SQ w0 w' → BadU F' c p → Q (ts w' F') (.inl (some (.int (Int32.ofInt 0))))) →
    (∀ A', s_run f n k A td t = .inr A' → ∀ w' F', FX SQ w0 w' → KU F0 F' → PS w' A' → Q (ts w' F') (.inl (some (.int (Int32.ofInt 1))))) →
    RT n_X6_readInto 34 [.ref 278, .ref 113, .int (Int32.ofInt i)] [] (ts w F) (0, 0, false) Q := by
  intro k
  induction k with
  | zero =>
    intro i A td t w F hi hw hF hd hS hC hJ h4 hbad hgood
    refine rt_X6_readInto_34 ?_
    simp (disch := omega) only [wp_c, wp_n, jj_n, v_ct, Int.reduceToNat, Int.toNat_natCast, stE, wlE, lgt, lpu, lpw, v_c2, va_s, true_and, and_true, Option.toList, List.nil_append, List.cons_append, List.take, List.drop, List.reverse, List.reverseAux, List.length_cons, List.length_nil, reduceCtorEq, false_implies, true_implies, forall_const, not_true_eq_false, not_false_eq_true, ite_true, ite_false, Bool.false_eq_true, I_I, J_J, Nat.add_left_cancel_iff, Nat.reduceEqDiff, Nat.add_eq_left, Nat.left_eq_add, false_and, and_false, Nat.reduceSub, Nat.sub_self, Nat.le_refl, Nat.zero_le, ge_iff_le, Nat.reduceAdd, Nat.reduceLeDiff, Nat.zero_add, Nat.reduceLT, z_lt, z_le, z_eq, z_l0, z_g0, z_le0, z_ge0, z_e0, z_e1, z_vp, z_nc, z_rem, z_div, i_ltT, i_ltF, i_leT, i_leF, i_eqT, i_eqF, n_ltT, n_ltF, n_leT, n_leF, n_eqT, n_eqF, tn_9, tn_12, tn_14, tn_20, tn_28, tn_44, tn_52, tn_68, tn_84, tn_100, tn_116, tn_132, fu_e, up_eq, ob_0, ob_b, oi_add, oi_sub, oi_mul, oi_neg, Int.add_zero, Int.zero_add, or_true, true_or, or_false, false_or, and_self, z_i2l, z_l2i, lo_nat, lo_add, lo_sub, lo_mul, lo_0, e_rem, mr_X6_readInto, mh_X6_readInto, ts_sh]
    refine rt_X6_readInto_67 ?_
    simp (disch := omega) only [wp_c, wp_n, jj_n, v_ct, Int.reduceToNat, Int.toNat_natCast, stE, wlE, lgt, lpu, lpw, v_c2, va_s, true_and, and_true, Option.toList, List.nil_append, List.cons_append, List.take, List.drop, List.reverse, List.reverseAux, List.length_cons, List.length_nil, reduceCtorEq, false_implies, true_implies, forall_const, not_true_eq_false, not_false_eq_true, ite_true, ite_false, Bool.false_eq_true, I_I, J_J, Nat.add_left_cancel_iff, Nat.reduceEqDiff, Nat.add_eq_left, Nat.left_eq_add, false_and, and_false, Nat.reduceSub, Nat.sub_self, Nat.le_refl, Nat.zero_le, ge_iff_le, Nat.reduceAdd, Nat.reduceLeDiff, Nat.zero_add, Nat.reduceLT, z_lt, z_le, z_eq, z_l0, z_g0, z_le0, z_ge0, z_e0, z_e1, z_vp, z_nc, z_rem, z_div, i_ltT, i_ltF, i_leT, i_leF, i_eqT, i_eqF, n_ltT, n_ltF, n_leT, n_leF, n_eqT, n_eqF, tn_9, tn_12, tn_14, tn_20, tn_28, tn_44, tn_52, tn_68, tn_84, tn_100, tn_116, tn_132, fu_e, up_eq, ob_0, ob_b, oi_add, oi_sub, oi_mul, oi_neg, Int.add_zero, Int.zero_add, or_true, true_or, or_false, false_or, and_self, z_i2l, z_l2i, lo_nat, lo_add, lo_sub, lo_mul, lo_0, e_rem, mr_X6_readInto, mh_X6_readInto, ts_sh]
    exact hgood A rfl w F hw hF hS
  | succ k ih =>
    intro i A td t w F hi hw hF hd hS hC hJ h4 hbad hgood
    have hT := hT0.fx hw
    have hB := hB0.fx hw (by unfold SQ SP; omega) (by unfold SQ SP; omega)
    have hS8 := hS80.fx hw
    have s7 := hT.2.1
    have s8 := hS8.1
    have r80 := hS8.2.1
    rw [s_run] at hbad hgood
    refine rt_X6_readInto_34 ?_
    simp (disch := omega) only [wp_c, wp_n, jj_n, v_ct, Int.reduceToNat, Int.toNat_natCast, stE, wlE, lgt, lpu, lpw, v_c2, va_s, true_and, and_true, Option.toList, List.nil_append, List.cons_append, List.take, List.drop, List.reverse, List.reverseAux, List.length_cons, List.length_nil, reduceCtorEq, false_implies, true_implies, forall_const, not_true_eq_false, not_false_eq_true, ite_true, ite_false, Bool.false_eq_true, I_I, J_J, Nat.add_left_cancel_iff, Nat.reduceEqDiff, Nat.add_eq_left, Nat.left_eq_add, false_and, and_false, Nat.reduceSub, Nat.sub_self, Nat.le_refl, Nat.zero_le, ge_iff_le, Nat.reduceAdd, Nat.reduceLeDiff, Nat.zero_add, Nat.reduceLT, z_lt, z_le, z_eq, z_l0, z_g0, z_le0, z_ge0, z_e0, z_e1, z_vp, z_nc, z_rem, z_div, i_ltT, i_ltF, i_leT, i_leF, i_eqT, i_eqF, n_ltT, n_ltF, n_leT, n_leF, n_eqT, n_eqF, tn_9, tn_12, tn_14, tn_20, tn_28, tn_44, tn_52, tn_68, tn_84, tn_100, tn_116, tn_132, fu_e, up_eq, ob_0, ob_b, oi_add, oi_sub, oi_mul, oi_neg, Int.add_zero, Int.zero_add, or_true, true_or, or_false, false_or, and_self, z_i2l, z_l2i, lo_nat, lo_add, lo_sub, lo_mul, lo_0, e_rem, mr_X6_readInto, mh_X6_readInto, ts_sh, ts_R, s7, s8, r80]
    refine c_isAtEnd hT hd ?_
    simp (disch := omega) only [wp_c, wp_n, jj_n, v_ct, Int.reduceToNat, Int.toNat_natCast, stE, wlE, lgt, lpu, lpw, v_c2, va_s, true_and, and_true, Option.toList, List.nil_append, List.cons_append, List.take, List.drop, List.reverse, List.reverseAux, List.length_cons, List.length_nil, reduceCtorEq, false_implies, true_implies, forall_const, not_true_eq_false, not_false_eq_true, ite_true, ite_false, Bool.false_eq_true, I_I, J_J, Nat.add_left_cancel_iff, Nat.reduceEqDiff, Nat.add_eq_left, Nat.left_eq_add, false_and, and_false, Nat.reduceSub, Nat.sub_self, Nat.le_refl, Nat.zero_le, ge_iff_le, Nat.reduceAdd, Nat.reduceLeDiff, Nat.zero_add, Nat.reduceLT, z_lt, z_le, z_eq, z_l0, z_g0, z_le0, z_ge0, z_e0, z_e1, z_vp, z_nc, z_rem, z_div, i_ltT, i_ltF, i_leT, i_leF, i_eqT, i_eqF, n_ltT, n_ltF, n_leT, n_leF, n_eqT, n_eqF, tn_9, tn_12, tn_14, tn_20, tn_28, tn_44, tn_52, tn_68, tn_84, tn_100, tn_116, tn_132, fu_e, up_eq, ob_0, ob_b, oi_add, oi_sub, oi_mul, oi_neg, Int.add_zero, Int.zero_add, or_true, true_or, or_false, false_or, and_self, z_i2l, z_l2i, lo_nat, lo_add, lo_sub, lo_mul, lo_0, e_rem, mr_X6_readInto, mh_X6_readInto, ts_sh, ts_R, s7, s8, r80]
    refine ⟨fun h => ?_, fun h => ?_⟩
    · rw [if_pos (by omega)] at hgood
      refine rt_X6_readInto_67 ?_
      simp (disch := omega) only [wp_c, wp_n, jj_n, v_ct, Int.reduceToNat, Int.toNat_natCast, stE, wlE, lgt, lpu, lpw, v_c2, va_s, true_and, and_true, Option.toList, List.nil_append, List.cons_append, List.take, List.drop, List.reverse, List.reverseAux, List.length_cons, List.length_nil, reduceCtorEq, false_implies, true_implies, forall_const, not_true_eq_false, not_false_eq_true, ite_true, ite_false, Bool.false_eq_true, I_I, J_J, Nat.add_left_cancel_iff, Nat.reduceEqDiff, Nat.add_eq_left, Nat.left_eq_add, false_and, and_false, Nat.reduceSub, Nat.sub_self, Nat.le_refl, Nat.zero_le, ge_iff_le, Nat.reduceAdd, Nat.reduceLeDiff, Nat.zero_add, Nat.reduceLT, z_lt, z_le, z_eq, z_l0, z_g0, z_le0, z_ge0, z_e0, z_e1, z_vp, z_nc, z_rem, z_div, i_ltT, i_ltF, i_leT, i_leF, i_eqT, i_eqF, n_ltT, n_ltF, n_leT, n_leF, n_eqT, n_eqF, tn_9, tn_12, tn_14, tn_20, tn_28, tn_44, tn_52, tn_68, tn_84, tn_100, tn_116, tn_132, fu_e, up_eq, ob_0, ob_b, oi_add, oi_sub, oi_mul, oi_neg, Int.add_zero, Int.zero_add, or_true, true_or, or_false, false_or, and_self, z_i2l, z_l2i, lo_nat, lo_add, lo_sub, lo_mul, lo_0, e_rem, mr_X6_readInto, mh_X6_readInto, ts_sh]
      exact hgood A rfl w F hw hF hS
    · rw [if_neg (by omega)] at hbad hgood
      refine c_readStmt hT hB hS8 hd hS hC hJ (fun c p he w' F' k1 k2 => ?_) (fun A' td' t' he w' F' k1 k2 k3 k4 k5 => ?_)
      · rw [he] at hbad
        simp (disch := omega) only [wp_c, wp_n, jj_n, v_ct, Int.reduceToNat, Int.toNat_natCast, stE, wlE, lgt, lpu, lpw, v_c2, va_s, true_and, and_true, Option.toList, List.nil_append, List.cons_append, List.take, List.drop, List.reverse, List.reverseAux, List.length_cons, List.length_nil, reduceCtorEq, false_implies, true_implies, forall_const, not_true_eq_false, not_false_eq_true, ite_true, ite_false, Bool.false_eq_true, I_I, J_J, Nat.add_left_cancel_iff, Nat.reduceEqDiff, Nat.add_eq_left, Nat.left_eq_add, false_and, and_false, Nat.reduceSub, Nat.sub_self, Nat.le_refl, Nat.zero_le, ge_iff_le, Nat.reduceAdd, Nat.reduceLeDiff, Nat.zero_add, Nat.reduceLT, z_lt, z_le, z_eq, z_l0, z_g0, z_le0, z_ge0, z_e0, z_e1, z_vp, z_nc, z_rem, z_div, i_ltT, i_ltF, i_leT, i_leF, i_eqT, i_eqF, n_ltT, n_ltF, n_leT, n_leF, n_eqT, n_eqF, tn_9, tn_12, tn_14, tn_20, tn_28, tn_44, tn_52, tn_68, tn_84, tn_100, tn_116, tn_132, fu_e, up_eq, ob_0, ob_b, oi_add, oi_sub, oi_mul, oi_neg, Int.add_zero, Int.zero_add, or_true, true_or, or_false, false_or, and_self, z_i2l, z_l2i, lo_nat, lo_add, lo_sub, lo_mul, lo_0, e_rem, mr_X6_readInto, mh_X6_readInto, ts_sh]
        exact hbad c p rfl w' F' (hw.trans k1) k2
      · rw [he] at hbad hgood
        obtain ⟨i0, hi0, ht0⟩ := hd.2
        obtain ⟨i', p1, p2, p3, p4, p5, p6⟩ := sp_inr he ht0 hi0 hJ h4
        simp (disch := omega) only [wp_c, wp_n, jj_n, v_ct, Int.reduceToNat, Int.toNat_natCast, stE, wlE, lgt, lpu, lpw, v_c2, va_s, true_and, and_true, Option.toList, List.nil_append, List.cons_append, List.take, List.drop, List.reverse, List.reverseAux, List.length_cons, List.length_nil, reduceCtorEq, false_implies, true_implies, forall_const, not_true_eq_false, not_false_eq_true, ite_true, ite_false, Bool.false_eq_true, I_I, J_J, Nat.add_left_cancel_iff, Nat.reduceEqDiff, Nat.add_eq_left, Nat.left_eq_add, false_and, and_false, Nat.reduceSub, Nat.sub_self, Nat.le_refl, Nat.zero_le, ge_iff_le, Nat.reduceAdd, Nat.reduceLeDiff, Nat.zero_add, Nat.reduceLT, z_lt, z_le, z_eq, z_l0, z_g0, z_le0, z_ge0, z_e0, z_e1, z_vp, z_nc, z_rem, z_div, i_ltT, i_ltF, i_leT, i_leF, i_eqT, i_eqF, n_ltT, n_ltF, n_leT, n_leF, n_eqT, n_eqF, tn_9, tn_12, tn_14, tn_20, tn_28, tn_44, tn_52, tn_68, tn_84, tn_100, tn_116, tn_132, fu_e, up_eq, ob_0, ob_b, oi_add, oi_sub, oi_mul, oi_neg, Int.add_zero, Int.zero_add, or_true, true_or, or_false, false_or, and_self, z_i2l, z_l2i, lo_nat, lo_add, lo_sub, lo_mul, lo_0, e_rem, mr_X6_readInto, mh_X6_readInto, ts_sh]
        refine rt_X6_readInto_61 ?_
        simp (disch := omega) only [wp_c, wp_n, jj_n, v_ct, Int.reduceToNat, Int.toNat_natCast, stE, wlE, lgt, lpu, lpw, v_c2, va_s, true_and, and_true, Option.toList, List.nil_append, List.cons_append, List.take, List.drop, List.reverse, List.reverseAux, List.length_cons, List.length_nil, reduceCtorEq, false_implies, true_implies, forall_const, not_true_eq_false, not_false_eq_true, ite_true, ite_false, Bool.false_eq_true, I_I, J_J, Nat.add_left_cancel_iff, Nat.reduceEqDiff, Nat.add_eq_left, Nat.left_eq_add, false_and, and_false, Nat.reduceSub, Nat.sub_self, Nat.le_refl, Nat.zero_le, ge_iff_le, Nat.reduceAdd, Nat.reduceLeDiff, Nat.zero_add, Nat.reduceLT, z_lt, z_le, z_eq, z_l0, z_g0, z_le0, z_ge0, z_e0, z_e1, z_vp, z_nc, z_rem, z_div, i_ltT, i_ltF, i_leT, i_leF, i_eqT, i_eqF, n_ltT, n_ltF, n_leT, n_leF, n_eqT, n_eqF, tn_9, tn_12, tn_14, tn_20, tn_28, tn_44, tn_52, tn_68, tn_84, tn_100, tn_116, tn_132, fu_e, up_eq, ob_0, ob_b, oi_add, oi_sub, oi_mul, oi_neg, Int.add_zero, Int.zero_add, or_true, true_or, or_false, false_or, and_self, z_i2l, z_l2i, lo_nat, lo_add, lo_sub, lo_mul, lo_0, e_rem, mr_X6_readInto, mh_X6_readInto, ts_sh]
        have := ih (i + 1) A' td' t' w' F' (by omega) (hw.trans k1) (hF.trans k5) k2 k3 k4 p3 p4 hbad hgood
        simpa using this
theorem MS.row {w : mW} {b : Nat} {A B : Row} (h : MS w b A) (hJ : TJ A) (h18 : A 18 ≤ 30) (e : ∀ j, j < 252 → B j = A j) : MS w b B := by
  obtain ⟨h1, h2, ⟨o, l0, l1, l2, l3, l4, l5⟩, h4, h5⟩ := h
  have hz := TJ_sz hJ
  refine ⟨h1, h2.row (fun j hj _ => e j (by omega)), ⟨o, l0, by rw [e 18 (by omega)]; exact l1, by rw [e 18 (by omega)]; exact l2, by rw [e 18 (by omega)]; exact l3, l4, fun i k hi hk => by rw [e 18 (by omega)] at hi; rw [e _ (by omega)]; exact l5 i k hi hk⟩, ?_, h5.row (fun j hj _ => e j (by omega))⟩
  rw [du_c (A := A) (B := B) (fun j hj => e j (by unfold kg at hj; omega)) (by omega)]; exact h4
theorem PS.ms {w : mW} {A : Row} (h : PS w A) (hz : ∀ j, j < 16 → A (116 + j) = 0) (h1 : 0 ≤ A 1 ∧ A 1 ≤ 16) : MS w 113 A := by
  obtain ⟨p1, p2, p3, p4, p5⟩ := h
  exact ⟨p1, p2, p3, by rw [du_z hz (by omega)]; exact p4, p5⟩
theorem n_TJ : TJ n_row := by
  refine ⟨⟨?_, ?_, fun j hj => ?_, fun j hj => ?_, fun j hj => ?_, fun j hj => ?_, fun j hj => ?_⟩, fun j hj => ?_⟩
  · simp [up_eq, n_row]
  · rw [up_eq, if_pos rfl]; exact Or.inl rfl
  all_goals (try rw [up_eq, if_neg (by omega)])
  all_goals rw [n_row0 _ (by omega)]
  all_goals omega
theorem TJ.e {A B : Row} (h : TJ A) (e : ∀ j, j < 252 → B j = A j) : TJ B := by
  have e' : ∀ j, j < 252 → up B 7 1 j = up A 7 1 j := fun j hj => by simp only [up_eq]; split; rfl; exact e j hj
  obtain ⟨⟨k0, k7, k1, k2, k3, k4, k5⟩, hd⟩ := h
  refine ⟨⟨?_, ?_, fun j hj => ?_, fun j hj => ?_, fun j hj => ?_, fun j hj => ?_, fun j hj => ?_⟩, fun j hj => ?_⟩
  · rw [e' 0 (by omega), e' 1 (by omega), e' 2 (by omega), e' 3 (by omega), e' 4 (by omega)]; exact k0
  · rw [e' 7 (by omega)]; exact k7
  · rw [e' _ (by omega)]; exact k1 j hj
  · rw [e' _ (by omega)]; exact k2 j hj
  · rw [e' _ (by omega)]; exact k3 j hj
  · rw [e' _ (by omega)]; exact k4 j hj
  · rw [e' _ (by omega)]; exact k5 j hj
  · rw [e _ (by omega)]; exact hd j hj
theorem c_ri_6 {w0 : mW} {F0 : Nat → Int32} {Q : mW → mO → Prop} (hS80 : SB w0) (hq : ∀ w' (z : Value), FX (fun a => a = 279) w0 w' → TC w' (fun _ => false) → RT n_X6_readInto 25 [.ref 278, .ref 113, z] [] (ts w' F0) (0, 0, false) Q) : ∀ (m k : Nat) (w : mW), k + m = 6 → FX (fun a => a = 279) w0 w → (∀ i, i < k → w_I w 279 i = Int32.ofInt 0) → RT n_X6_readInto 6 [.ref 278, .ref 113, .int (Int32.ofInt k)] [] (ts w F0) (0, 0, false) Q := by
  intro m
  induction m with
  | zero =>
    intro k w hk hw hz
    refine rt_X6_readInto_6 ?_
    simp (disch := omega) only [wp_c, wp_n, jj_n, v_ct, Int.reduceToNat, Int.toNat_natCast, stE, wlE, lgt, lpu, lpw, v_c2, va_s, true_and, and_true, Option.toList, List.nil_append, List.cons_append, List.take, List.drop, List.reverse, List.reverseAux, List.length_cons, List.length_nil, reduceCtorEq, false_implies, true_implies, forall_const, not_true_eq_false, not_false_eq_true, ite_true, ite_false, Bool.false_eq_true, I_I, J_J, Nat.add_left_cancel_iff, Nat.reduceEqDiff, Nat.add_eq_left, Nat.left_eq_add, false_and, and_false, Nat.reduceSub, Nat.sub_self, Nat.le_refl, Nat.zero_le, ge_iff_le, Nat.reduceAdd, Nat.reduceLeDiff, Nat.zero_add, Nat.reduceLT, z_lt, z_le, z_eq, z_l0, z_g0, z_le0, z_ge0, z_e0, z_e1, z_vp, z_nc, z_rem, z_div, i_ltT, i_ltF, i_leT, i_leF, i_eqT, i_eqF, n_ltT, n_ltF, n_leT, n_leF, n_eqT, n_eqF, tn_9, tn_12, tn_14, tn_20, tn_28, tn_44, tn_52, tn_68, tn_84, tn_100, tn_116, tn_132, fu_e, up_eq, ob_0, ob_b, oi_add, oi_sub, oi_mul, oi_neg, Int.add_zero, Int.zero_add, or_true, true_or, or_false, false_or, and_self, z_i2l, z_l2i, lo_nat, lo_add, lo_sub, lo_mul, lo_0, e_rem, mr_X6_readInto, mh_X6_readInto, ts_sh]
    exact hq w _ hw (fun i hi => hz i (by omega))
  | succ m ih =>
    intro k w hk hw hz
    have hS8 := hS80.fx hw
    obtain ⟨s8, r80, r81, s9⟩ := hS8
    refine rt_X6_readInto_6 ?_
    simp (disch := omega) only [wp_c, wp_n, jj_n, v_ct, Int.reduceToNat, Int.toNat_natCast, stE, wlE, lgt, lpu, lpw, v_c2, va_s, true_and, and_true, Option.toList, List.nil_append, List.cons_append, List.take, List.drop, List.reverse, List.reverseAux, List.length_cons, List.length_nil, reduceCtorEq, false_implies, true_implies, forall_const, not_true_eq_false, not_false_eq_true, ite_true, ite_false, Bool.false_eq_true, I_I, J_J, Nat.add_left_cancel_iff, Nat.reduceEqDiff, Nat.add_eq_left, Nat.left_eq_add, false_and, and_false, Nat.reduceSub, Nat.sub_self, Nat.le_refl, Nat.zero_le, ge_iff_le, Nat.reduceAdd, Nat.reduceLeDiff, Nat.zero_add, Nat.reduceLT, z_lt, z_le, z_eq, z_l0, z_g0, z_le0, z_ge0, z_e0, z_e1, z_vp, z_nc, z_rem, z_div, i_ltT, i_ltF, i_leT, i_leF, i_eqT, i_eqF, n_ltT, n_ltF, n_leT, n_leF, n_eqT, n_eqF, tn_9, tn_12, tn_14, tn_20, tn_28, tn_44, tn_52, tn_68, tn_84, tn_100, tn_116, tn_132, fu_e, up_eq, ob_0, ob_b, oi_add, oi_sub, oi_mul, oi_neg, Int.add_zero, Int.zero_add, or_true, true_or, or_false, false_or, and_self, z_i2l, z_l2i, lo_nat, lo_add, lo_sub, lo_mul, lo_0, e_rem, mr_X6_readInto, mh_X6_readInto, ts_sh, ts_R, s8, r81, s9, Int.toNat_natCast]
    have e1 : vp_nar .boolean (Int32.ofInt 0) = Int32.ofInt 0 := nar_b ⟨by omega, by omega⟩
    rw [e1, ts_s (by omega)]
    have := ih (k + 1) (s_I w 279 k (Int32.ofInt 0)) (by omega) (hw.I rfl) (fun i hi => by
      simp only [wp_c, wp_n, jj_n, v_ct, Int.reduceToNat, Int.toNat_natCast, stE, wlE, lgt, lpu, lpw, v_c2, va_s, true_and, and_true, Option.toList, List.nil_append, List.cons_append, List.take, List.drop, List.reverse, List.reverseAux, List.length_cons, List.length_nil, reduceCtorEq, false_implies, true_implies, forall_const, not_true_eq_false, not_false_eq_true, ite_true, ite_false, Bool.false_eq_true, I_I, J_J, Nat.add_left_cancel_iff, Nat.reduceEqDiff, Nat.add_eq_left, Nat.left_eq_add, false_and, and_false, Nat.reduceSub, Nat.sub_self, Nat.le_refl, Nat.zero_le, ge_iff_le, Nat.reduceAdd, Nat.reduceLeDiff, Nat.zero_add, Nat.reduceLT]
      by_cases h : i = k
      · rw [if_pos h]
      · rw [if_neg h]; exact hz i (by omega))
    simpa using this
theorem sr_row {f : Nat → Int} {n : Nat} : ∀ (k : Nat) (A : Row) (td : Nat → Bool) (t : Tk) (A' : Row), TOk f n t → TJ A → A 4 = 0 → s_run f n k A td t = .inr A' → TJ A' ∧ A' 4 = 0 ∧ ∀ j, 4 ≤ j → (j < 68 ∨ 84 ≤ j) → A' j = A j := by
  intro k
  induction k with
  | zero => intro A td t A' ht hJ h4 h; cases h; exact ⟨hJ, h4, fun _ _ _ => rfl⟩
  | succ k ih =>
    intro A td t A' ht hJ h4 h
    rw [s_run] at h
    split at h
    · cases h; exact ⟨hJ, h4, fun _ _ _ => rfl⟩
    · cases hp : s_part f n A td t with
      | inl e => rw [hp] at h; cases h
      | inr z =>
        rw [hp] at h
        obtain ⟨A1, td1, t1⟩ := z
        obtain ⟨i0, hi0, ht0⟩ := ht
        obtain ⟨i', p1, p2, p3, p4, p5, p6⟩ := sp_inr hp ht0 hi0 hJ h4
        obtain ⟨g1, g2, g3⟩ := ih A1 td1 t1 A' ⟨i', p1, p2⟩ p3 p4 h
        exact ⟨g1, g2, fun j h1 h2 => (g3 j h1 h2).trans (p6 j h1 h2)⟩
theorem n_rw_e (A : Row) : ∀ j, j < 252 → n_rw A j = n_row j := fun j hj => by unfold n_rw; rw [if_pos hj]
theorem c_readInto {f : Nat → Int} {n : Nat} {w : mW} {A : Row} {Q : mW → mO → Prop} (hT : TB w) (hB : IB w f n) (hS : SB w) (hM : Mb w 113)
    (hbad : ∀ c p, s_run f n 900 (n_rw A) (fun _ => false) (tok f n 0) = .inl (c, p) → ∀ w', FX SQ w w' → w_I w' 277 0 = Int32.ofInt c → w_I w' 277 1 = Int32.ofInt p → Q w' (.inl (some (.int (Int32.ofInt 0)))))
    (hgood : ∀ A1, s_run f n 900 (n_rw A) (fun _ => false) (tok f n 0) = .inr A1 → ∀ w', FX SQ w w' → w_I w' 277 0 = Int32.ofInt 0 → w_I w' 277 1 = Int32.ofInt (-1) → MS w' 113 A1 → TJ A1 → Q w' (.inl (some (.int (Int32.ofInt 1))))) : CT n_X6_readInto [.ref 278, .ref 113] w Q := by
  have s0 := hM.1.1
  refine ct_X6_readInto (rt_X6_readInto_0 ?_)
  simp (disch := omega) only [wp_c, wp_n, jj_n, v_ct, Int.reduceToNat, Int.toNat_natCast, stE, wlE, lgt, lpu, lpw, v_c2, va_s, true_and, and_true, Option.toList, List.nil_append, List.cons_append, List.take, List.drop, List.reverse, List.reverseAux, List.length_cons, List.length_nil, reduceCtorEq, false_implies, true_implies, forall_const, not_true_eq_false, not_false_eq_true, ite_true, ite_false, Bool.false_eq_true, I_I, J_J, Nat.add_left_cancel_iff, Nat.reduceEqDiff, Nat.add_eq_left, Nat.left_eq_add, false_and, and_false, Nat.reduceSub, Nat.sub_self, Nat.le_refl, Nat.zero_le, ge_iff_le, Nat.reduceAdd, Nat.reduceLeDiff, Nat.zero_add, Nat.reduceLT, z_lt, z_le, z_eq, z_l0, z_g0, z_le0, z_ge0, z_e0, z_e1, z_vp, z_nc, z_rem, z_div, i_ltT, i_ltF, i_leT, i_leF, i_eqT, i_eqF, n_ltT, n_ltF, n_leT, n_leF, n_eqT, n_eqF, tn_9, tn_12, tn_14, tn_20, tn_28, tn_44, tn_52, tn_68, tn_84, tn_100, tn_116, tn_132, fu_e, up_eq, ob_0, ob_b, oi_add, oi_sub, oi_mul, oi_neg, Int.add_zero, Int.zero_add, or_true, true_or, or_false, false_or, and_self, z_i2l, z_l2i, lo_nat, lo_add, lo_sub, lo_mul, lo_0, e_rem, mr_X6_readInto, mh_X6_readInto, s0]
  refine c_makeNew hM fun w1 g1 g2 => ?_
  simp (disch := omega) only [wp_c, wp_n, jj_n, v_ct, Int.reduceToNat, Int.toNat_natCast, stE, wlE, lgt, lpu, lpw, v_c2, va_s, true_and, and_true, Option.toList, List.nil_append, List.cons_append, List.take, List.drop, List.reverse, List.reverseAux, List.length_cons, List.length_nil, reduceCtorEq, false_implies, true_implies, forall_const, not_true_eq_false, not_false_eq_true, ite_true, ite_false, Bool.false_eq_true, I_I, J_J, Nat.add_left_cancel_iff, Nat.reduceEqDiff, Nat.add_eq_left, Nat.left_eq_add, false_and, and_false, Nat.reduceSub, Nat.sub_self, Nat.le_refl, Nat.zero_le, ge_iff_le, Nat.reduceAdd, Nat.reduceLeDiff, Nat.zero_add, Nat.reduceLT, z_lt, z_le, z_eq, z_l0, z_g0, z_le0, z_ge0, z_e0, z_e1, z_vp, z_nc, z_rem, z_div, i_ltT, i_ltF, i_leT, i_leF, i_eqT, i_eqF, n_ltT, n_ltF, n_leT, n_leF, n_eqT, n_eqF, tn_9, tn_12, tn_14, tn_20, tn_28, tn_44, tn_52, tn_68, tn_84, tn_100, tn_116, tn_132, fu_e, up_eq, ob_0, ob_b, oi_add, oi_sub, oi_mul, oi_neg, Int.add_zero, Int.zero_add, or_true, true_or, or_false, false_or, and_self, z_i2l, z_l2i, lo_nat, lo_add, lo_sub, lo_mul, lo_0, e_rem, mr_X6_readInto, mh_X6_readInto, ts_sh]
  have f1 : FX SQ w w1 := (g2.toB (b := 113) (n := 12) (by omega)).toX (fun a h1 h2 => Or.inl (Or.inl ⟨h1, by omega⟩))
  have hS1 := hS.fx f1
  have eb := (ts_self w1).symm
  generalize w_I w1 277 = F0 at eb
  rw [eb]
  have c60 := c_ri_6 (F0 := F0) (Q := Q) hS1 (fun w2 z k1 k2 => ?_) 6 0 w1 rfl (FX.refl _ _) (fun i hi => absurd hi (by omega))
  · simpa using c60
  · have f2 : FX SQ w w2 := f1.trans (k1.mono (fun a h => Or.inl (Or.inr h)))
    have hT2 := hT.fx f2
    have hB2 := hB.fx f2 (by unfold SQ SP; omega) (by unfold SQ SP; omega)
    have hS2 := hS.fx f2
    have s7 := hT2.2.1
    have s8 := hS2.1
    have r80 := hS2.2.1
    have hms : MS w2 113 (n_rw A) := (g1.fx k1 (fun a h1 h2 h3 => by have h4 : a = 279 := h3; omega)).row n_TJ (by decide) (n_rw_e A)
    have hJ : TJ (n_rw A) := n_TJ.e (n_rw_e A)
    have hdz : ∀ j, j < 16 → n_rw A (116 + j) = 0 := fun j hj => by rw [n_rw_e A _ (by omega), n_row0 _ (by omega)]
    have h1r := TJ_sz hJ
    have hPS : PS w2 (n_rw A) := ⟨hms.1, hms.2.1, hms.2.2.1, by rw [hms.2.2.2.1, du_z hdz (by omega)], hms.2.2.2.2⟩
    refine rt_X6_readInto_25 ?_
    simp (disch := omega) only [wp_c, wp_n, jj_n, v_ct, Int.reduceToNat, Int.toNat_natCast, stE, wlE, lgt, lpu, lpw, v_c2, va_s, true_and, and_true, Option.toList, List.nil_append, List.cons_append, List.take, List.drop, List.reverse, List.reverseAux, List.length_cons, List.length_nil, reduceCtorEq, false_implies, true_implies, forall_const, not_true_eq_false, not_false_eq_true, ite_true, ite_false, Bool.false_eq_true, I_I, J_J, Nat.add_left_cancel_iff, Nat.reduceEqDiff, Nat.add_eq_left, Nat.left_eq_add, false_and, and_false, Nat.reduceSub, Nat.sub_self, Nat.le_refl, Nat.zero_le, ge_iff_le, Nat.reduceAdd, Nat.reduceLeDiff, Nat.zero_add, Nat.reduceLT, z_lt, z_le, z_eq, z_l0, z_g0, z_le0, z_ge0, z_e0, z_e1, z_vp, z_nc, z_rem, z_div, i_ltT, i_ltF, i_leT, i_leF, i_eqT, i_eqF, n_ltT, n_ltF, n_leT, n_leF, n_eqT, n_eqF, tn_9, tn_12, tn_14, tn_20, tn_28, tn_44, tn_52, tn_68, tn_84, tn_100, tn_116, tn_132, fu_e, up_eq, ob_0, ob_b, oi_add, oi_sub, oi_mul, oi_neg, Int.add_zero, Int.zero_add, or_true, true_or, or_false, false_or, and_self, z_i2l, z_l2i, lo_nat, lo_add, lo_sub, lo_mul, lo_0, e_rem, mr_X6_readInto, mh_X6_readInto, ts_sh, ts_R, s7, s8, r80]
    refine c_bgn hT2 hB2 fun F1 d1 d2 d3 => ?_
    simp (disch := omega) only [wp_c, wp_n, jj_n, v_ct, Int.reduceToNat, Int.toNat_natCast, stE, wlE, lgt, lpu, lpw, v_c2, va_s, true_and, and_true, Option.toList, List.nil_append, List.cons_append, List.take, List.drop, List.reverse, List.reverseAux, List.length_cons, List.length_nil, reduceCtorEq, false_implies, true_implies, forall_const, not_true_eq_false, not_false_eq_true, ite_true, ite_false, Bool.false_eq_true, I_I, J_J, Nat.add_left_cancel_iff, Nat.reduceEqDiff, Nat.add_eq_left, Nat.left_eq_add, false_and, and_false, Nat.reduceSub, Nat.sub_self, Nat.le_refl, Nat.zero_le, ge_iff_le, Nat.reduceAdd, Nat.reduceLeDiff, Nat.zero_add, Nat.reduceLT, z_lt, z_le, z_eq, z_l0, z_g0, z_le0, z_ge0, z_e0, z_e1, z_vp, z_nc, z_rem, z_div, i_ltT, i_ltF, i_leT, i_leF, i_eqT, i_eqF, n_ltT, n_ltF, n_leT, n_leF, n_eqT, n_eqF, tn_9, tn_12, tn_14, tn_20, tn_28, tn_44, tn_52, tn_68, tn_84, tn_100, tn_116, tn_132, fu_e, up_eq, ob_0, ob_b, oi_add, oi_sub, oi_mul, oi_neg, Int.add_zero, Int.zero_add, or_true, true_or, or_false, false_or, and_self, z_i2l, z_l2i, lo_nat, lo_add, lo_sub, lo_mul, lo_0, e_rem, mr_X6_readInto, mh_X6_readInto, ts_sh, ts_R, s7, s8, r80]
    have h40 : n_rw A 4 = 0 := by rw [n_rw_e A _ (by omega), n_row0 _ (by omega)]
    have := c_ri_34 (F0 := F1) (Q := Q) hT2 hB2 hS2 900 0 (n_rw A) (fun _ => false) (tok f n 0) w2 F1 rfl (FX.refl _ _) (fun _ _ _ _ _ => rfl) d1 hPS k2 hJ h40 (fun c p he w' F' q1 q2 => ?_) (fun A1 he w' F' q1 q2 q3 => ?_)
    · simpa using this
    · have q1' : FX SQ w2 (ts w' F') := ⟨q1.1, q1.2.1, q1.2.2.1, fun a ha => ⟨(ts_o (fun q => ha (Or.inr q))).trans (q1.2.2.2 a ha).1, (q1.2.2.2 a ha).2⟩⟩
      exact hbad c p he _ (f2.trans q1') (by rw [ts_F]; exact q2.1) (by rw [ts_F]; exact q2.2)
    · have q1' : FX SQ w2 (ts w' F') := ⟨q1.1, q1.2.1, q1.2.2.1, fun a ha => ⟨(ts_o (fun q => ha (Or.inr q))).trans (q1.2.2.2 a ha).1, (q1.2.2.2 a ha).2⟩⟩
      obtain ⟨g1, g2, g3⟩ := sr_row 900 (n_rw A) _ _ A1 ⟨0, Nat.zero_le _, rfl⟩ hJ h40 he
      have h1r := TJ_sz g1
      exact hgood A1 he _ (f2.trans q1') (by rw [ts_F, q2 0 (by omega) (by omega) (by omega) (by omega)]; exact d2) (by rw [ts_F, q2 1 (by omega) (by omega) (by omega) (by omega)]; exact d3) (q3.ts.ms (fun j hj => by rw [g3 _ (by omega) (by omega)]; exact hdz j hj) (by omega)) g1
/-! the class's script: reading -/
def XB (w : mW) : Prop := w_sh w 280 = (0, 5) ∧ w_R w 280 0 = some 277 ∧ w_R w 280 2 = some 281 ∧ w_R w 280 3 = some 282 ∧ w_R w 280 4 = some 283 ∧ w_sh w 281 = (1, 40) ∧ w_sh w 282 = (1, 40) ∧ w_sh w 283 = (2, 40)
theorem XB.fx {w w' : mW} {P : Nat → Prop} (h : XB w) (f : FX P w w') : XB w' := by unfold XB; rw [f.1, f.2.1]; exact h
def XP (a : Nat) : Prop := 280 ≤ a ∧ a < 284
def CMc (w : mW) (L : List Cmd) : Prop := ∀ i, i < L.length → w_I w 281 i = Int32.ofInt (L.getD i (0, 0, false)).1 ∧ (¬ (L.getD i (0, 0, false)).1 = 5 → w_I w 282 i = Int32.ofInt (L.getD i (0, 0, false)).2.1) ∧ ((L.getD i (0, 0, false)).1 = 4 → w_I w 283 i = Int32.ofInt (if (L.getD i (0, 0, false)).2.2 = true then 1 else 0))
def x_hi (A : Row) (k : Nat) : Int := if k = 0 then 10 ^ (A 0).toNat - 1 else if k = 1 then 99 else if k = 2 then 16 else 999999
theorem xhi_b {A : Row} {k : Nat} (h : 0 ≤ A 0 ∧ A 0 ≤ 8) : 0 ≤ x_hi A k ∧ x_hi A k ≤ 99999999 := by
  have := pw_b (A 0).toNat (by omega)
  unfold x_hi
  split
  · omega
  · split
    · omega
    · split <;> omega
def x_lo (k : Nat) : Int := if k = 1 then 1 else 0
/-! the class's script: commands -/
theorem MemA.fx {w w' : mW} {b : Nat} {A : Row} {P : Nat → Prop} (h : MemA w b A) (f : FX P w w') (hp : ∀ a, b ≤ a → a < b + 12 → ¬ P a) : MemA w' b A := by
  have e : ∀ c, c < 12 → w_I w' (b + c) = w_I w (b + c) := fun c hc => (f.2.2.2 _ (hp _ (by omega) (by omega))).1
  have e0 : w_I w' b = w_I w b := e 0 (by omega)
  exact h.cp (fun i _ => by rw [e0]) (fun i _ => by rw [e 1 (by omega)]) (fun i _ => by rw [e 2 (by omega)]) (fun i _ => by rw [e 3 (by omega)]) (fun i _ => by rw [e 4 (by omega)]) (fun i _ => by rw [e 5 (by omega)]) (fun i _ => by rw [e 6 (by omega)]) (fun i _ => by rw [e 9 (by omega)]) (fun i _ => ⟨by rw [e 10 (by omega)], by rw [e 11 (by omega)]⟩)
def x_rest (f : Nat → Int) (n k : Nat) (e : (Nat × Nat) ⊕ (Int × Tk)) : (Nat × Nat) ⊕ (Cmd × Tk) := match e with
  | .inl e => .inl e
  | .inr (v, t1) => x_end f n k v (x_sh f n k t1)
theorem x_cmd_e (f : Nat → Int) (n : Nat) (A : Row) (sz : Nat) (t : Tk) : x_cmd f n A sz t = if x_kind f t = 6 then .inl (1, t.2.1) else if sz = 40 then .inl (4, t.2.1) else x_rest f n (x_kind f t) (x_num f n A (x_kind f t) (tok f n t.2.2)) := by
  unfold x_cmd x_rest
  cases x_num f n A (x_kind f t) (tok f n t.2.2) <;> rfl
/-! what a turn keeps of levers and moved wheels -/
def VB (A : Row) : Prop := ∀ j : Nat, j < 16 → A 1 ≤ j → A (28 + j) = 0 ∧ A (52 + j) = 0 ∧ A (84 + j) = 0
def M1 (A : Row) (p : Int) : Prop := (∀ j : Nat, j < 16 → (j : Int) < A 4 → A (52 + j) = 0) ∧ ∀ j : Nat, j < 16 → 0 ≤ A (84 + j) ∧ A (84 + j) ≤ 9 ∧ (A 4 + p ≤ j → A (84 + j) = 0)
def M2 (A : Row) (p : Int) : Prop := (∀ j : Nat, j < 16 → (j : Int) < p → A (52 + j) = 0) ∧ ∀ j : Nat, j < 16 → 0 ≤ A (84 + j) ∧ A (84 + j) ≤ 10 ∧ (p < j → A (84 + j) ≤ 9)
theorem VB.r {A B : Row} (h : VB A) (e1 : B 1 = A 1) (e : ∀ j, j < 16 → B (28 + j) = A (28 + j) ∧ B (52 + j) = A (52 + j) ∧ B (84 + j) = A (84 + j)) : VB B := by
  intro j hj h1
  rw [e1] at h1
  obtain ⟨a, b, c⟩ := e j hj
  rw [a, b, c]; exact h j hj h1
theorem M1.r {A B : Row} {p : Int} (h : M1 A p) (e4 : B 4 = A 4) (e : ∀ j, j < 16 → B (52 + j) = A (52 + j) ∧ B (84 + j) = A (84 + j)) : M1 B p := by
  refine ⟨fun j hj h1 => ?_, fun j hj => ?_⟩
  · rw [e4] at h1; rw [(e j hj).1]; exact h.1 j hj h1
  · rw [e4, (e j hj).2]; exact h.2 j hj
theorem M2.r {A B : Row} {p : Int} (h : M2 A p) (e : ∀ j, j < 16 → B (52 + j) = A (52 + j) ∧ B (84 + j) = A (84 + j)) : M2 B p := by
  refine ⟨fun j hj h1 => ?_, fun j hj => ?_⟩
  · rw [(e j hj).1]; exact h.1 j hj h1
  · rw [(e j hj).2]; exact h.2 j hj
theorem mv_84 (A : Row) (i j : Nat) (m : Int) : a_mv A i m (84 + j) = if j < 16 ∧ i < 16 then (if j = i then A (84 + j) + m else A (84 + j)) else a_mv A i m (84 + j) := by
  split
  · rename_i h
    simp only [a_mv, up_eq]
    rw [if_neg (by omega)]
    by_cases e : j = i
    · subst e
      rw [if_pos rfl, if_pos rfl, if_neg (by omega)]
      split
      · rw [up_eq, if_neg (by omega)]
      · rfl
    · rw [if_neg (by omega), if_neg e, if_neg (by omega)]
      split
      · rw [up_eq, if_neg (by omega)]
      · rfl
  · rfl
theorem mv_52 (A : Row) (i j : Nat) (m : Int) (hi : i < 16) (hj : j < 16) (h : ¬ j = i) : a_mv A i m (52 + j) = A (52 + j) := by
  simp only [a_mv, up_eq]
  rw [if_neg (by omega), if_neg (by omega), if_neg (by omega)]
  split
  · rw [up_eq, if_neg (by omega)]
  · rfl
theorem mv_28 (A : Row) (i j : Nat) (m : Int) (hi : i < 16) (hj : j < 16) (h : ¬ j = i) : a_mv A i m (28 + j) = A (28 + j) := by
  simp only [a_mv, up_eq]
  rw [if_neg (by omega), if_neg (by omega), if_neg (by omega)]
  split
  · rw [up_eq, if_neg (by omega)]
  · rfl
theorem u17 {A : Row} {v : Int} {j : Nat} (h : ¬ j = 17) : up A 17 v j = A j := by rw [up_eq, if_neg h]
theorem VB.mv {A : Row} {i : Nat} {m : Int} (h : VB A) (hi : i < 16) (h1 : (i : Int) < A 1) : VB (a_mv A i m) := by
  intro j hj hj1
  rw [mv_k _ _ _ _ hi (by unfold kp; omega)] at hj1
  have ne : ¬ j = i := by omega
  rw [mv_28 _ _ _ _ hi hj ne, mv_52 _ _ _ _ hi hj ne, mv_84, if_pos ⟨hj, hi⟩, if_neg ne]
  exact h j hj hj1
theorem pins_G : ∀ (n : Nat) (A : Row) (p : Nat), (p : Int) + n = A 0 → TI A → VB A → M1 A p → VB (a_pins n A p).1 ∧ ((a_pins n A p).2 = none → M1 (a_pins n A p).1 (A 0)) ∧ (∀ k, (a_pins n A p).2 = some k → M1 (a_pins n A p).1 k ∧ p ≤ k ∧ (k : Int) < A 0) := by
  intro n
  induction n with
  | zero =>
    intro A p hn hI hV hM
    rw [a_pins]
    exact ⟨hV, fun _ => by rw [show A 0 = (p : Int) by omega]; exact hM, fun k h => absurd h (by simp)⟩
  | succ n ih =>
    intro A p hn hI hV hM
    have h0 := hI.1
    rw [a_pins]
    split
    · obtain ⟨g1, g2, g3⟩ := ih A (p + 1) (by omega) hI hV ⟨hM.1, fun j hj => ⟨(hM.2 j hj).1, (hM.2 j hj).2.1, fun q => (hM.2 j hj).2.2 (by omega)⟩⟩
      exact ⟨g1, g2, fun k h => ⟨(g3 k h).1, by have := (g3 k h).2.1; omega, (g3 k h).2.2⟩⟩
    · split
      · refine ⟨hV.r (u17 (A := A) (v := A 17 + 1) (j := 1) (by omega)) (fun j hj => ⟨u17 (by omega), u17 (by omega), u17 (by omega)⟩), fun h => absurd h (by simp), fun k h => ?_⟩
        have hk : p = k := by simpa using h
        subst hk
        exact ⟨hM.r (u17 (A := A) (v := A 17 + 1) (j := 4) (by omega)) (fun j hj => ⟨u17 (by omega), u17 (by omega)⟩), by omega, by omega⟩
      · have hp := hI.2.2.1 p (by omega)
        have hi : (A 4).toNat + p < 16 := by omega
        have k0 := mv_k A ((A 4).toNat + p) 0 (A (20 + p)) hi (by unfold kp; omega)
        have k4 := mv_k A ((A 4).toNat + p) 4 (A (20 + p)) hi (by unfold kp; omega)
        have hM' : M1 (a_mv A ((A 4).toNat + p) (A (20 + p))) ((p + 1 : Nat) : Int) := by
          refine ⟨fun j hj h1 => ?_, fun j hj => ?_⟩
          · rw [k4] at h1
            rw [mv_52 _ _ _ _ hi hj (by omega)]; exact hM.1 j hj h1
          · rw [k4, mv_84, if_pos ⟨hj, hi⟩]
            have := hM.2 j hj
            split
            · rename_i e
              have z := this.2.2 (by omega)
              rw [z]
              exact ⟨by omega, by omega, fun q => by omega⟩
            · exact ⟨this.1, this.2.1, fun q => this.2.2 (by omega)⟩
        obtain ⟨g1, g2, g3⟩ := ih (a_mv A ((A 4).toNat + p) (A (20 + p))) (p + 1) (by rw [k0]; omega) (hI.mv hi (by omega)) (hV.mv hi (by omega)) hM'
        rw [k0] at g2 g3
        exact ⟨g1, g2, fun k h => ⟨(g3 k h).1, by have := (g3 k h).2.1; omega, (g3 k h).2.2⟩⟩
theorem lev_G : ∀ (n : Nat) (A : Row) (wh : Nat) (c l : Int32), (wh : Int) + n = A 1 → TI A → VB A → M2 A wh → VB (a_lev n A wh c l).1 ∧ ((a_lev n A wh c l).2.1 = none → M2 (a_lev n A wh c l).1 (A 1)) ∧ (∀ k, (a_lev n A wh c l).2.1 = some k → M2 (a_lev n A wh c l).1 k ∧ wh ≤ k ∧ (k : Int) < A 1 - 1) := by
  intro n
  induction n with
  | zero =>
    intro A wh c l hn hI hV hM
    rw [a_lev]
    exact ⟨hV, fun _ => by rw [show A 1 = (wh : Int) by omega]; exact hM, fun k h => absurd h (by simp)⟩
  | succ n ih =>
    intro A wh c l hn hI hV hM
    have h0 := hI.1
    have tl : ∀ (B : Row) (k : Nat), k < 3 → ∀ j, j < 16 → up (a_tal B k) (52 + wh) 0 (28 + j) = B (28 + j) ∧ up (a_tal B k) (52 + wh) 0 (52 + j) = (if j = wh then 0 else B (52 + j)) ∧ up (a_tal B k) (52 + wh) 0 (84 + j) = B (84 + j) := by
      intro B k hk j hj
      simp only [a_tal, up_eq]
      refine ⟨?_, ?_, ?_⟩
      · rw [if_neg (by omega), if_neg (by omega), if_neg (by omega)]
      · by_cases e : j = wh
        · rw [if_pos (by omega), if_pos e]
        · rw [if_neg (by omega), if_neg (by omega), if_neg (by omega), if_neg e]
      · rw [if_neg (by omega), if_neg (by omega), if_neg (by omega)]
    have tk : ∀ (B : Row) (k : Nat), k < 3 → ∀ j, j < 9 → up (a_tal B k) (52 + wh) 0 j = B j := fun B k hk j hj => by rw [up_eq, if_neg (by omega)]; exact tal_k _ _ _ hk (by unfold kp; omega)
    have tI : ∀ (B : Row) (k : Nat), k < 3 → TI B → TI (up (a_tal B k) (52 + wh) 0) := by
      intro B k hk hB
      refine TI.lev ?_ (by omega) (by omega)
      unfold a_tal
      exact (hB.up (by omega)).up (by omega)
    -- on with a row whose levers below are 0
    have nx : ∀ (B : Row) (k : Nat) (c' l' : Int32), k < 3 → TI B → VB B → B 1 = A 1 → (∀ j : Nat, j < 16 → (j : Int) < wh → B (52 + j) = 0) → (∀ j : Nat, j < 16 → 0 ≤ B (84 + j) ∧ B (84 + j) ≤ 10 ∧ ((wh : Int) + 1 < j → B (84 + j) ≤ 9)) → VB (a_lev n (up (a_tal B k) (52 + wh) 0) (wh + 1) c' l').1 ∧ ((a_lev n (up (a_tal B k) (52 + wh) 0) (wh + 1) c' l').2.1 = none → M2 (a_lev n (up (a_tal B k) (52 + wh) 0) (wh + 1) c' l').1 (A 1)) ∧ (∀ k', (a_lev n (up (a_tal B k) (52 + wh) 0) (wh + 1) c' l').2.1 = some k' → M2 (a_lev n (up (a_tal B k) (52 + wh) 0) (wh + 1) c' l').1 k' ∧ wh ≤ k' ∧ (k' : Int) < A 1 - 1) := by
      intro B k c' l' hk hB hVB e1 hlo hmo
      have e := tl B k hk
      have hV' : VB (up (a_tal B k) (52 + wh) 0) := by
        intro j hj h1
        rw [tk B k hk 1 (by omega)] at h1
        obtain ⟨a, b, c⟩ := e j hj
        rw [a, b, c]
        obtain ⟨a', b', c'⟩ := hVB j hj h1
        exact ⟨a', by split; rfl; exact b', c'⟩
      have hM' : M2 (up (a_tal B k) (52 + wh) 0) ((wh + 1 : Nat) : Int) := by
        refine ⟨fun j hj h1 => ?_, fun j hj => ?_⟩
        · rw [(e j hj).2.1]
          split
          · rfl
          · exact hlo j hj (by omega)
        · rw [(e j hj).2.2]
          exact ⟨(hmo j hj).1, (hmo j hj).2.1, fun q => (hmo j hj).2.2 (by omega)⟩
      obtain ⟨g1, g2, g3⟩ := ih _ (wh + 1) c' l' (by rw [tk B k hk 1 (by omega), e1]; omega) (tI B k hk hB) hV' hM'
      rw [tk B k hk 1 (by omega), e1] at g2 g3
      exact ⟨g1, g2, fun k' h => ⟨(g3 k' h).1, by have := (g3 k' h).2.1; omega, (g3 k' h).2.2⟩⟩
    rw [a_lev]
    split
    · rename_i hz
      obtain ⟨g1, g2, g3⟩ := ih A (wh + 1) (Int32.ofInt 0) l (by omega) hI hV ⟨fun j hj h1 => by
        by_cases e : j = wh
        · rw [e]; exact hz
        · exact hM.1 j hj (by omega), fun j hj => ⟨(hM.2 j hj).1, (hM.2 j hj).2.1, fun q => (hM.2 j hj).2.2 (by omega)⟩⟩
      exact ⟨g1, g2, fun k h => ⟨(g3 k h).1, by have := (g3 k h).2.1; omega, (g3 k h).2.2⟩⟩
    · split
      · exact nx A 0 _ _ (by omega) hI hV rfl hM.1 (fun j hj => ⟨(hM.2 j hj).1, (hM.2 j hj).2.1, fun q => (hM.2 j hj).2.2 (by omega)⟩)
      · split
        · exact nx A 2 _ _ (by omega) hI hV rfl hM.1 (fun j hj => ⟨(hM.2 j hj).1, (hM.2 j hj).2.1, fun q => (hM.2 j hj).2.2 (by omega)⟩)
        · split
          · refine ⟨hV.r (u17 (A := A) (v := A 17 + 1) (j := 1) (by omega)) (fun j hj => ⟨u17 (by omega), u17 (by omega), u17 (by omega)⟩), fun h => absurd h (by simp), fun k h => ?_⟩
            have hk : wh = k := by simpa using h
            subst hk
            exact ⟨hM.r (fun j hj => ⟨u17 (by omega), u17 (by omega)⟩), by omega, by omega⟩
          · have hi : wh + 1 < 16 := by omega
            refine nx (a_mv A (wh + 1) 1) 1 _ _ (by omega) (hI.mv hi (by omega)) (hV.mv hi (by omega)) (mv_k _ _ _ _ hi (by unfold kp; omega)) (fun j hj h1 => ?_) (fun j hj => ?_)
            · rw [mv_52 _ _ _ _ hi hj (by omega)]; exact hM.1 j hj h1
            · rw [mv_84, if_pos ⟨hj, hi⟩]
              have := hM.2 j hj
              split
              · have := this.2.2 (by omega)
                exact ⟨by omega, by omega, fun q => by omega⟩
              · exact ⟨this.1, this.2.1, fun q => this.2.2 (by omega)⟩
/-! good rows stay good: a turn -/
theorem owe_o : ∀ (n : Nat) (A : Row) (wh : Nat) (o : Int) (j : Nat), (j < 116 + wh ∨ 116 + wh + n ≤ j) → a_owe n A wh o j = A j := by
  intro n
  induction n with
  | zero => intro A wh o j _; rfl
  | succ n ih =>
    intro A wh o j h
    rw [a_owe]
    rw [ih _ _ _ _ (by omega), up_eq, if_neg (by omega)]
theorem endC_o {A : Row} (h18 : 0 ≤ A 18) (hz : 0 ≤ A 4 ∧ A 2 ≤ 8) {j : Nat} (hj : (20 ≤ j ∧ j < 44) ∨ (44 ≤ j ∧ j < 52 ∧ A 2 ≤ ((j - 44 : Nat) : Int)) ∨ (52 ≤ j ∧ j < 132)) : a_endC A j = A j := by
  have hB : ∀ i, (i < 44 ∨ 44 + (A 4).toNat + (A 2 - A 4).toNat ≤ i ∨ (A 2 - A 4).toNat = 0) → a_cnt (A 2 - A 4).toNat A (A 4).toNat (if 0 < A 8 then -A 7 else A 7) i = A i := fun i hi => cnt_s _ _ _ _ _ hi
  have h18' := hB 18 (by omega)
  have hj' := hB j (by omega)
  simp only [a_endC]
  generalize a_cnt (A 2 - A 4).toNat A (A 4).toNat (if 0 < A 8 then -A 7 else A 7) = B at h18' hj'
  split
  · rw [log_s _ _ _ _ _ (by rw [up_eq, if_neg (by omega), up_eq, if_neg (by omega), h18']; exact h18) _ (by omega), up_eq, if_neg (by omega), up_eq, if_neg (by omega), hj']
  · rw [log_s _ _ _ _ _ (by rw [up_eq, if_neg (by omega), h18']; exact h18) _ (by omega), up_eq, if_neg (by omega), hj']
def GQ1 (A : Row) (r : Row × Option (Nat × Nat) × Int32) : Prop := VB r.1 ∧ (r.2.1 = none → LV0 r.1) ∧ (∀ p k, r.2.1 = some (p, k) → (p = 0 ∧ M1 r.1 k ∧ (k : Int) < A 0) ∨ (p = 1 ∧ M2 r.1 k ∧ (k : Int) < A 1 - 1)) ∧ ∀ j : Nat, j < 8 → A 2 ≤ j → r.1 (44 + j) = A (44 + j)
theorem lv_G {A B : Row} {wh : Nat} {c l : Int32} (hB : TI B) (hV : VB B) (hM : M2 B wh) (e0 : B 0 = A 0) (e1 : B 1 = A 1) (e2 : B 2 = A 2) (hw : (wh : Int) ≤ A 1) (h18 : 0 ≤ B 18) (he : ∀ j : Nat, j < 8 → B (44 + j) = A (44 + j)) (r : Row × Option (Nat × Nat) × Int32)
    (hr : r = match a_lev ((A 1).toNat - wh) B wh c l with | (B', none, l') => (a_endC B', none, l') | (B', some k, l') => (B', some (1, k), l')) : GQ1 A r := by
  have h0 := hB.1
  have h1 := lev_k ((A 1).toNat - wh) B wh c l
  have h1' : ∀ j, kp j → (a_lev ((A 1).toNat - wh) B wh c l).1 j = B j := fun j hj => h1 j (by omega) (by omega) hj
  clear h1
  obtain ⟨g1, g2, g3⟩ := lev_G ((A 1).toNat - wh) B wh c l (by omega) hB hV hM
  have hTI := lev_TI ((A 1).toNat - wh) B wh c l (by omega) hB
  generalize a_lev ((A 1).toNat - wh) B wh c l = z at hr h1' g1 g2 g3 hTI
  obtain ⟨B', ok, l'⟩ := z
  simp only at h1' g1 g2 g3
  have k18 := h1' 18 (by unfold kp; omega)
  have k4 := h1' 4 (by unfold kp; omega)
  have k1 := h1' 1 (by unfold kp; omega)
  have k2 := h1' 2 (by unfold kp; omega)
  cases ok with
  | none =>
    subst hr
    have eo : ∀ j, ((20 ≤ j ∧ j < 44) ∨ (44 ≤ j ∧ j < 52 ∧ B' 2 ≤ ((j - 44 : Nat) : Int)) ∨ (52 ≤ j ∧ j < 132)) → a_endC B' j = B' j := fun j hj => endC_o (by omega) ⟨by omega, by omega⟩ hj
    have m2 := g2 rfl
    have hTI' : TI B' := hTI
    have e1c : a_endC B' 1 = B' 1 := endC_k hTI' (by omega) (by unfold kg; omega)
    refine ⟨g1.r e1c (fun j hj => ⟨eo _ (by omega), eo _ (by omega), eo _ (by omega)⟩), fun _ j hj => ?_, fun p k h => absurd h (by simp), fun j hj h2 => ?_⟩
    · show a_endC B' (52 + j) = 0
      rw [eo _ (by omega)]
      by_cases hj1 : (j : Int) < B 1
      · exact m2.1 j hj hj1
      · exact (g1 j hj (by omega)).2.1
    · show a_endC B' (44 + j) = A (44 + j)
      rw [eo _ (Or.inr (Or.inl ⟨by omega, by omega, by rw [show 44 + j - 44 = j by omega]; omega⟩)), h1' _ (by unfold kp; omega), he j hj]
  | some k =>
    subst hr
    refine ⟨g1, fun h => absurd h (by simp), fun p k' h => ?_, fun j hj h2 => ?_⟩
    · have h : (1, k) = (p, k') := by simpa using h
      cases h
      obtain ⟨q1, q2, q3⟩ := g3 k rfl
      exact Or.inr ⟨rfl, q1, by omega⟩
    · show B' (44 + j) = A (44 + j)
      rw [h1' _ (by unfold kp; omega), he j hj]
theorem go_G {A : Row} {part pl : Nat} {c l : Int32} (hI : TI A) (hV : VB A) (h18 : 0 ≤ A 18) (hp : (part = 0 ∧ (pl : Int) ≤ A 0 ∧ M1 A pl) ∨ (part = 1 ∧ (pl : Int) ≤ A 1 ∧ M2 A pl)) : GQ1 A (a_go A part pl c l) := by
  have h0 := hI.1
  rcases hp with ⟨rfl, hpl, hM⟩ | ⟨rfl, hpl, hM⟩
  · have g := pins_G ((A 0).toNat - pl) A pl (by omega) hI hV hM
    have kI : ∀ j, kp j → (a_pins ((A 0).toNat - pl) A pl).1 j = A j ∧ TI (a_pins ((A 0).toNat - pl) A pl).1 := fun j hj => pins_k _ A pl j (by omega) hI hj
    unfold a_go
    rw [if_pos rfl]
    generalize a_pins ((A 0).toNat - pl) A pl = z at g kI
    obtain ⟨B, ok⟩ := z
    simp only at g kI ⊢
    obtain ⟨g1, g2, g3⟩ := g
    have k : ∀ j, kp j → B j = A j := fun j hj => (kI j hj).1
    have hB : TI B := (kI 0 (by unfold kp; omega)).2
    cases ok with
    | none =>
      have m := g2 rfl
      have k4 := k 4 (by unfold kp; omega)
      have hM2 : M2 B (A 4).toNat := ⟨fun j hj h1 => m.1 j hj (by omega), fun j hj => ⟨(m.2 j hj).1, by have := (m.2 j hj).2.1; omega, fun _ => (m.2 j hj).2.1⟩⟩
      exact lv_G hB g1 hM2 (k 0 (by unfold kp; omega)) (k 1 (by unfold kp; omega)) (k 2 (by unfold kp; omega)) (by omega) (by rw [k 18 (by unfold kp; omega)]; exact h18) (fun j hj => k _ (by unfold kp; omega)) _ rfl
    | some q =>
      obtain ⟨q1, q2, q3⟩ := g3 q rfl
      refine ⟨g1, fun h => absurd h (by simp), fun p k' h => ?_, fun j hj h2 => k _ (by unfold kp; omega)⟩
      have h : (0, q) = (p, k') := by simpa using h
      cases h
      exact Or.inl ⟨rfl, q1, q3⟩
  · unfold a_go
    rw [if_neg (by omega)]
    exact lv_G hI hV hM rfl rfl rfl hpl h18 (fun _ _ => rfl) _ rfl
theorem fin_GR {A : Row} {part pl : Nat} {c l : Int32} (hI : TI A) (hV : VB A) (h18 : 0 ≤ A 18 ∧ A 18 ≤ 30) (hp : (part = 0 ∧ (pl : Int) ≤ A 0 ∧ M1 A pl) ∨ (part = 1 ∧ (pl : Int) ≤ A 1 ∧ M2 A pl)) (hd : ∀ j, j < 16 → 0 ≤ A (116 + j) ∧ A (116 + j) ≤ 9) (h8 : A 8 = 0 ∨ A 8 = 1) (h9 : A 9 = 0)
    (z1 : ∀ j : Nat, j < 8 → A 0 ≤ j → A (20 + j) = 0) (z2 : ∀ j : Nat, j < 16 → A 1 ≤ j → A (116 + j) = 0) (z3 : ∀ j : Nat, j < 8 → A 2 ≤ j → A (44 + j) = 0) : GR (a_fin (a_go A part pl c l)) := by
  have h0 := hI.1
  have hp' : (part = 0 ∧ (pl : Int) ≤ A 0) ∨ (part = 1 ∧ (pl : Int) ≤ A 1) := by rcases hp with h | h; exact Or.inl ⟨h.1, h.2.1⟩; exact Or.inr ⟨h.1, h.2.1⟩
  obtain ⟨f1, f2, f3, f4⟩ := fin_k (c := c) (l := l) hI hp' h18.1 hd
  have g18 := go_18 (c := c) (l := l) hI hp' h18
  have g9 := go_9 (c := c) (l := l) hI hp' h18.1
  obtain ⟨k1, k2, -⟩ := go_k (c := c) (l := l) hI hp' h18.1
  obtain ⟨q1, q2, q3, q4⟩ := go_G (c := c) (l := l) hI hV h18.1 hp
  generalize a_go A part pl c l = r at f1 f2 f3 f4 g18 g9 k1 k2 q1 q2 q3 q4 ⊢
  have F : ∀ j, j < 116 → j ≠ 5 → j ≠ 6 → a_fin r j = r.1 j := by
    intro j hj h5 h6
    obtain ⟨B, ok, l'⟩ := r
    cases ok with
    | none => simp only [a_fin]; rw [up_eq, if_neg h5, owe_s _ _ _ _ _ hj]
    | some x => obtain ⟨p, k⟩ := x; simp only [a_fin]; rw [up_eq, if_neg h6, up_eq, if_neg h5]
  have F2 : ∀ j : Nat, j < 16 → A 1 ≤ j → a_fin r (116 + j) = A (116 + j) := by
    intro j hj h1
    rw [← k1 (116 + j) (by unfold kg; omega)]
    have r1 := k1 1 (by unfold kg; omega)
    have r4 := k1 4 (by unfold kg; omega)
    obtain ⟨B, ok, l'⟩ := r
    simp only at r1 r4
    cases ok with
    | none => simp only [a_fin]; rw [up_eq, if_neg (by omega), owe_o _ _ _ _ _ (by omega)]
    | some x => obtain ⟨p, k⟩ := x; simp only [a_fin]; rw [up_eq, if_neg (by omega), up_eq, if_neg (by omega)]
  have e0 := f1 0 (by unfold kg; omega) (by omega) (by omega) (by omega)
  have e1 := f1 1 (by unfold kg; omega) (by omega) (by omega) (by omega)
  have e2 := f1 2 (by unfold kg; omega) (by omega) (by omega) (by omega)
  have e4 := f1 4 (by unfold kg; omega) (by omega) (by omega) (by omega)
  have e7 := f1 7 (by unfold kg; omega) (by omega) (by omega) (by omega)
  have e8 := f1 8 (by unfold kg; omega) (by omega) (by omega) (by omega)
  have r1 := k1 1 (by unfold kg; omega)
  have r4 := k1 4 (by unfold kg; omega)
  refine ⟨⟨⟨f2.of, f3⟩, by rw [e8]; exact h8, g18⟩, ⟨fun j hj h => ?_, fun j hj h => ?_, fun j hj h => ?_⟩, ?_, ?_⟩
  · rw [e0] at h
    rw [f1 _ (by unfold kg; omega) (by omega) (by omega) (by omega)]; exact z1 j hj h
  · rw [e1] at h
    rw [F _ (by omega) (by omega) (by omega), F _ (by omega) (by omega) (by omega), F _ (by omega) (by omega) (by omega), F2 j hj h]
    obtain ⟨a, b, c'⟩ := q1 j hj (by omega)
    exact ⟨a, b, c', z2 j hj h⟩
  · rw [e2] at h
    rw [F _ (by omega) (by omega) (by omega), q4 j hj h]; exact z3 j hj h
  · rcases g9 with g | g
    · left; omega
    · right; omega
  · cases ho : r.2.1 with
    | none =>
      rw [ho] at f4
      left
      exact ⟨f4, fun j hj => by rw [F _ (by omega) (by omega) (by omega)]; exact q2 ho j hj⟩
    | some x =>
      obtain ⟨p, k⟩ := x
      rw [ho] at f4
      simp only at f4
      have e6 : a_fin r 6 = k := by
        obtain ⟨B, ok, l'⟩ := r
        simp only at ho
        subst ho
        simp only [a_fin]; rw [up_eq, if_pos rfl]
      have g9' : a_fin r 9 = 0 := by
        rcases g9 with g | g
        · omega
        · rw [ho] at g; exact absurd g.2 (by simp)
      right
      rcases q3 p k ho with ⟨hp0, m, hk⟩ | ⟨hp1, m, hk⟩
      · subst hp0
        refine ⟨⟨Or.inl ⟨f4, by omega, by omega⟩, by rw [e7]; exact hI.2.1, by rw [e8]; exact h8⟩, g9', fun _ => ?_, fun q => by omega⟩
        rw [e6]
        exact m.r (by rw [e4, r4]) (fun j hj => ⟨F _ (by omega) (by omega) (by omega), F _ (by omega) (by omega) (by omega)⟩)
      · subst hp1
        refine ⟨⟨Or.inr ⟨f4, by omega, by omega⟩, by rw [e7]; exact hI.2.1, by rw [e8]; exact h8⟩, g9', fun q => by omega, fun _ => ?_⟩
        rw [e6]
        exact m.r (fun j hj => ⟨F _ (by omega) (by omega) (by omega), F _ (by omega) (by omega) (by omega)⟩)
theorem GR.sz {A : Row} (h : GR A) : 2 ≤ A 0 ∧ A 0 ≤ 8 ∧ A 0 ≤ A 1 ∧ A 1 ≤ 16 ∧ 2 ≤ A 2 ∧ A 2 ≤ 8 ∧ 0 ≤ A 3 ∧ A 3 ≤ 16 ∧ 0 ≤ A 4 ∧ A 4 + A 0 ≤ A 1 := TJ_sz h.1.1
theorem one_GR {A : Row} {way : Int} (h : GR A) (hw : way = 1 ∨ way = -1) : GR (a_fin (a_one A way)) := by
  obtain ⟨⟨hJ, h8, h18⟩, ⟨z1, z2, z3⟩, -, -⟩ := h
  have hz := TJ_sz hJ
  have hI := beg_TI (way := way) hJ.1 hw
  have b52 : ∀ j, j < 16 → a_beg A way (52 + j) = 0 ∧ a_beg A way (84 + j) = 0 := by
    intro j hj
    simp only [a_beg, up_eq, zr]
    refine ⟨?_, ?_⟩
    · rw [if_neg (by omega), if_pos (by omega)]
    · rw [if_neg (by omega), if_pos (by omega)]
  have b9 : a_beg A way 9 = 0 := by simp [a_beg, up_eq, zr]
  have k : ∀ j, (j ≠ 7 ∧ (j < 9 ∨ 12 ≤ j) ∧ (j < 52 ∨ 68 ≤ j) ∧ (j < 84 ∨ 100 ≤ j)) → a_beg A way j = A j := fun j hj => beg_k A way j hj
  refine fin_GR hI ?_ (by rw [k 18 (by omega)]; exact h18) (Or.inl ⟨rfl, by rw [k 0 (by omega)]; omega, ?_⟩) (fun j hj => by rw [k _ (by omega)]; exact hJ.2 j hj) (by rw [k 8 (by omega)]; exact h8) b9 (fun j hj h => ?_) (fun j hj h => ?_) (fun j hj h => ?_)
  · intro j hj h
    rw [k 1 (by omega)] at h
    rw [k _ (by omega), (b52 j hj).1, (b52 j hj).2]
    exact ⟨(z2 j hj h).1, rfl, rfl⟩
  · exact ⟨fun j hj _ => (b52 j hj).1, fun j hj => by rw [(b52 j hj).2]; exact ⟨by omega, by omega, fun _ => rfl⟩⟩
  · rw [k 0 (by omega)] at h; rw [k _ (by omega)]; exact z1 j hj h
  · rw [k 1 (by omega)] at h; rw [k _ (by omega)]; exact (z2 j hj h).2.2.2
  · rw [k 2 (by omega)] at h; rw [k _ (by omega)]; exact z3 j hj h
/-! good rows stay good: changes -/
theorem GR.e {A B : Row} (h : GR A) (e : ∀ j, j < 252 → B j = A j) : GR B := by
  obtain ⟨⟨hJ, h8, h18⟩, ⟨z1, z2, z3⟩, h9, hr⟩ := h
  refine ⟨⟨hJ.e e, by rw [e 8 (by omega)]; exact h8, by rw [e 18 (by omega)]; exact h18⟩, ⟨fun j hj q => ?_, fun j hj q => ?_, fun j hj q => ?_⟩, by rw [e 9 (by omega)]; exact h9, ?_⟩
  · rw [e 0 (by omega)] at q; rw [e _ (by omega)]; exact z1 j hj q
  · rw [e 1 (by omega)] at q; rw [e _ (by omega), e _ (by omega), e _ (by omega), e _ (by omega)]; exact z2 j hj q
  · rw [e 2 (by omega)] at q; rw [e _ (by omega)]; exact z3 j hj q
  · rcases hr with ⟨a, b⟩ | ⟨a, b, c⟩
    · exact Or.inl ⟨by rw [e 5 (by omega)]; exact a, fun j hj => by rw [e _ (by omega)]; exact b j hj⟩
    · refine Or.inr ⟨?_, by rw [e 9 (by omega)]; exact b, ?_⟩
      · unfold JI at a ⊢
        rw [e 5 (by omega), e 6 (by omega), e 7 (by omega), e 8 (by omega), e 0 (by omega), e 1 (by omega)]; exact a
      · obtain ⟨c1, c2⟩ := c
        refine ⟨fun q => ?_, fun q => ?_⟩
        · rw [e 5 (by omega)] at q
          obtain ⟨d1, d2⟩ := c1 q
          refine ⟨fun j hj w => ?_, fun j hj => ?_⟩
          · rw [e 4 (by omega)] at w; rw [e _ (by omega)]; exact d1 j hj w
          · rw [e _ (by omega), e 4 (by omega), e 6 (by omega)]; exact d2 j hj
        · rw [e 5 (by omega)] at q
          obtain ⟨d1, d2⟩ := c2 q
          refine ⟨fun j hj w => ?_, fun j hj => ?_⟩
          · rw [e 6 (by omega)] at w; rw [e _ (by omega)]; exact d1 j hj w
          · rw [e _ (by omega), e 6 (by omega)]; exact d2 j hj
theorem GR.free {A : Row} (h : GR A) (h5 : ¬ 0 < A 5) : A 5 = 0 ∧ LV0 A := by
  have := h.j5
  rcases h.2.2.2 with q | ⟨q, -, -⟩
  · exact q
  · rcases q.1 with q | q <;> omega
/-- a row of which the turn's part is that of a good one -/
theorem GR.mk0 {A B : Row} (h : GR A) (h5 : ¬ 0 < A 5) (hI : RI B) (e5 : B 5 = A 5) (e9 : B 9 = A 9) (e52 : ∀ j, j < 16 → B (52 + j) = A (52 + j))
    (z1 : ∀ j : Nat, j < 8 → B 0 ≤ j → B (20 + j) = 0) (z2 : ∀ j : Nat, j < 16 → B 1 ≤ j → B (28 + j) = 0 ∧ B (84 + j) = 0 ∧ B (116 + j) = 0) (z3 : ∀ j : Nat, j < 8 → B 2 ≤ j → B (44 + j) = 0) : GR B := by
  obtain ⟨f1, f2⟩ := h.free h5
  refine ⟨hI, ⟨z1, fun j hj q => ⟨(z2 j hj q).1, by rw [e52 j hj]; exact f2 j hj, (z2 j hj q).2⟩, z3⟩, by rw [e9]; exact h.2.2.1, Or.inl ⟨by rw [e5, f1], fun j hj => by rw [e52 j hj]; exact f2 j hj⟩⟩
theorem GR.pos {A : Row} {c : Int} (h : GR A) (h5 : ¬ 0 < A 5) (h0 : 0 ≤ c) (h1 : c + A 0 ≤ A 1) : GR (up A 4 c) := by
  have e : ∀ j, ¬ j = 4 → up A 4 c j = A j := fun j hj => by rw [up_eq, if_neg hj]
  obtain ⟨hI, ⟨z1, z2, z3⟩, -, -⟩ := id h
  refine h.mk0 h5 (hI.pos h0 h1) (e 5 (by omega)) (e 9 (by omega)) (fun j _ => e _ (by omega)) (fun j hj q => ?_) (fun j hj q => ?_) (fun j hj q => ?_)
  · rw [e 0 (by omega)] at q; rw [e _ (by omega)]; exact z1 j hj q
  · rw [e 1 (by omega)] at q; rw [e _ (by omega), e _ (by omega), e _ (by omega)]; exact ⟨(z2 j hj q).1, (z2 j hj q).2.2⟩
  · rw [e 2 (by omega)] at q; rw [e _ (by omega)]; exact z3 j hj q
theorem GR.u8 {A : Row} {v : Int} (h : GR A) (h5 : ¬ 0 < A 5) (hv : v = 0 ∨ v = 1) : GR (up A 8 v) := by
  have e : ∀ j, ¬ j = 8 → up A 8 v j = A j := fun j hj => by rw [up_eq, if_neg hj]
  obtain ⟨hI, ⟨z1, z2, z3⟩, -, -⟩ := id h
  refine h.mk0 h5 (hI.up8 hv) (e 5 (by omega)) (e 9 (by omega)) (fun j _ => e _ (by omega)) (fun j hj q => ?_) (fun j hj q => ?_) (fun j hj q => ?_)
  · rw [e 0 (by omega)] at q; rw [e _ (by omega)]; exact z1 j hj q
  · rw [e 1 (by omega)] at q; rw [e _ (by omega), e _ (by omega), e _ (by omega)]; exact ⟨(z2 j hj q).1, (z2 j hj q).2.2⟩
  · rw [e 2 (by omega)] at q; rw [e _ (by omega)]; exact z3 j hj q
theorem RI.pins {A B : Row} (h : RI A) (e : ∀ j, (j < 20 ∨ 28 ≤ j) → B j = A j) (hp : ∀ j, j < 8 → 0 ≤ B (20 + j) ∧ B (20 + j) ≤ 9) : RI B := by
  obtain ⟨hJ, h8, h18⟩ := h
  have hJ0 := hJ
  obtain ⟨⟨k0, k7, k1, k2, k3, k4, k5⟩, hd⟩ := hJ
  have e' : ∀ j, (j < 20 ∨ 28 ≤ j) → up B 7 1 j = up A 7 1 j := fun j hj => by simp only [up_eq]; split; rfl; exact e j hj
  refine ⟨⟨⟨?_, ?_, fun j hj => ?_, fun j hj => ?_, fun j hj => ?_, fun j hj => ?_, fun j hj => ?_⟩, fun j hj => ?_⟩, by rw [e 8 (by omega)]; exact h8, by rw [e 18 (by omega)]; exact h18⟩
  · rw [e' 0 (by omega), e' 1 (by omega), e' 2 (by omega), e' 3 (by omega), e' 4 (by omega)]; exact k0
  · rw [e' 7 (by omega)]; exact k7
  · rw [up_eq, if_neg (by omega)]; exact hp j hj
  · rw [e' _ (by omega)]; exact k2 j hj
  · rw [e' _ (by omega)]; exact k3 j hj
  · rw [e' _ (by omega)]; exact k4 j hj
  · rw [e' _ (by omega)]; exact k5 j hj
  · rw [e _ (by omega)]; exact hd j hj
theorem GR.pins {A B : Row} (h : GR A) (h5 : ¬ 0 < A 5) (e : ∀ j, (j < 20 ∨ 28 ≤ j) → B j = A j) (hp : ∀ j, j < 8 → 0 ≤ B (20 + j) ∧ B (20 + j) ≤ 9) (hz : ∀ j : Nat, j < 8 → A 0 ≤ j → B (20 + j) = 0) : GR B := by
  obtain ⟨hI, ⟨z1, z2, z3⟩, -, -⟩ := id h
  refine h.mk0 h5 (hI.pins e hp) (e 5 (by omega)) (e 9 (by omega)) (fun j _ => e _ (by omega)) (fun j hj q => ?_) (fun j hj q => ?_) (fun j hj q => ?_)
  · rw [e 0 (by omega)] at q; exact hz j hj q
  · rw [e 1 (by omega)] at q; rw [e _ (by omega), e _ (by omega), e _ (by omega)]; exact ⟨(z2 j hj q).1, (z2 j hj q).2.2⟩
  · rw [e 2 (by omega)] at q; rw [e _ (by omega)]; exact z3 j hj q
theorem pp_o : ∀ (n j : Nat) (v : Int) (A : Row) (i : Nat), (i < 20 + j ∨ 20 + j + n ≤ i) → a_pp n A j v i = A i := by
  intro n
  induction n with
  | zero => intro j v A i _; rfl
  | succ n ih => intro j v A i h; rw [a_pp, ih _ _ _ _ (by omega), up_eq, if_neg (by omega)]
theorem GR.pp {A : Row} {v : Int} (h : GR A) (h5 : ¬ 0 < A 5) (hv : 0 ≤ v) : GR (a_pp (A 0).toNat A 0 v) := by
  have hz := h.sz
  obtain ⟨g1, g2⟩ := pp_TJ (A 0).toNat 0 v A (by omega) hv h.1.1
  exact h.pins h5 g2 (TJ_pin g1) (fun j hj q => by rw [pp_o _ _ _ _ _ (by omega)]; exact h.2.1.1 j hj q)
theorem GR.pin1 {A : Row} {v : Int} {j : Nat} (h : GR A) (h5 : ¬ 0 < A 5) (hv : 0 ≤ v ∧ v ≤ 9) (hj : (j : Int) < A 0) : GR (up A (20 + j) v) := by
  have hz := h.sz
  refine h.pins h5 (fun i hi => by rw [up_eq, if_neg (by omega)]) (fun i hi => ?_) (fun i hi q => by rw [up_eq, if_neg (by omega)]; exact h.2.1.1 i hi q)
  rw [up_eq]; split
  · exact hv
  · exact TJ_pin h.1.1 i hi
theorem GR.flt {A : Row} {v : Int} {j : Nat} (h : GR A) (h5 : ¬ 0 < A 5) (hv : 0 ≤ v ∧ v ≤ 3) (hj : j < 16) : GR (up A (68 + j) v) := by
  have e : ∀ i, ¬ (68 ≤ i ∧ i < 84) → up A (68 + j) v i = A i := fun i hi => by rw [up_eq, if_neg (by omega)]
  obtain ⟨hI, ⟨z1, z2, z3⟩, -, -⟩ := id h
  refine h.mk0 h5 ⟨TJ_fl hI.1 hj hv, by rw [e _ (by omega)]; exact hI.2.1, by rw [e _ (by omega)]; exact hI.2.2⟩ (e 5 (by omega)) (e 9 (by omega)) (fun j _ => e _ (by omega)) (fun j hj q => ?_) (fun j hj q => ?_) (fun j hj q => ?_)
  · rw [e 0 (by omega)] at q; rw [e _ (by omega)]; exact z1 j hj q
  · rw [e 1 (by omega)] at q; rw [e _ (by omega), e _ (by omega), e _ (by omega)]; exact ⟨(z2 j hj q).1, (z2 j hj q).2.2⟩
  · rw [e 2 (by omega)] at q; rw [e _ (by omega)]; exact z3 j hj q
theorem many_GR {way : Int} (hw : way = 1 ∨ way = -1) : ∀ (n : Nat) (A : Row), GR A → GR (a_many n A way).1 := by
  intro n
  induction n with
  | zero => intro A h; exact h
  | succ n ih =>
    intro A h
    have h1 := one_GR h hw
    rw [a_many]
    cases ho : (a_one A way).2.1 with
    | none => exact ih _ h1
    | some x => exact h1
theorem dh_GR : ∀ (n : Nat) (A : Row) (k : Nat), GR A → GR (a_dh n A k).1 := by
  intro n
  induction n with
  | zero => intro A k h; exact h
  | succ n ih =>
    intro A k h
    have h1 := one_GR h (way := -1) (Or.inr rfl)
    have h2 := one_GR h1 (way := 1) (Or.inl rfl)
    rw [a_dh]
    cases ho : (a_one A (-1)).2.1 with
    | some y => exact h1
    | none =>
      simp only
      split
      · split
        · exact h2
        · exact h2
      · exact ih _ _ h1
theorem dv_GR : ∀ (m : Nat) (B : Row) (t : Nat), (m : Int) + B 0 ≤ B 1 + 1 → GR B → ¬ 0 < B 5 → GR (a_dv m B t).1 := by
  intro m
  induction m with
  | zero => intro B t _ h _; exact h
  | succ m ih =>
    intro B t hm h h5
    have h1 := dh_GR 10 (up B 4 m) 0 (h.pos h5 (by omega) (by omega))
    obtain ⟨-, g2, -, -⟩ := dh_RI 10 (up B 4 m) 0 (h.pos h5 (by omega) (by omega)).1 (by rw [up_eq, if_neg (by omega)]; exact h.j5.1) (by rw [up_eq, if_neg (by omega)]; exact h.j5.2)
    have e0 := g2 0 (by omega)
    have e1 := g2 1 (by omega)
    rw [up_eq, if_neg (by omega)] at e0 e1
    rw [a_dv]
    split
    · exact h1
    · rename_i hn
      exact ih _ _ (by rw [e0, e1]; omega) h1 hn
theorem mul_GR : ∀ (l : List Int) (k : Nat) (A : Row) (t : Nat), GR A → ¬ 0 < A 5 → (k : Int) + l.length ≤ A 1 - A 0 + 1 → GR (a_mul l k A t).1 := by
  intro l
  induction l with
  | nil => intro k A t h _ _; exact h
  | cons x l ih =>
    intro k A t h h5 hk
    simp only [List.length_cons] at hk
    have hw : (if x < 0 then (-1 : Int) else 1) = 1 ∨ (if x < 0 then (-1 : Int) else 1) = -1 := by split; exact Or.inr rfl; exact Or.inl rfl
    have h4 := h.pos (c := (k : Int)) h5 (by omega) (by omega)
    have h1 := many_GR hw x.natAbs _ h4
    obtain ⟨-, m2, -⟩ := many_RI hw x.natAbs _ h4.1
    have e0 := (m2 0 (by omega)).trans (show up A 4 (k : Int) 0 = A 0 by rw [up_eq, if_neg (by omega)])
    have e1 := (m2 1 (by omega)).trans (show up A 4 (k : Int) 1 = A 1 by rw [up_eq, if_neg (by omega)])
    rw [a_mul]
    clear m2
    generalize a_many x.natAbs (up A 4 (k : Int)) (if x < 0 then -1 else 1) = z at h1 e0 e1 ⊢
    split
    · exact h1
    · rename_i hn
      exact ih _ _ _ h1 hn (by rw [e0, e1]; push_cast; omega)
theorem n_GR : GR n_row := by
  refine ⟨⟨n_TJ, by rw [n_row0 _ (by omega)]; exact Or.inl rfl, by rw [n_row0 _ (by omega)]; omega⟩, ⟨fun j _ _ => n_row0 _ (by omega), fun j _ _ => ⟨n_row0 _ (by omega), n_row0 _ (by omega), n_row0 _ (by omega), n_row0 _ (by omega)⟩, fun j _ _ => n_row0 _ (by omega)⟩, by rw [n_row0 _ (by omega)]; exact Or.inl rfl, Or.inl ⟨n_row0 _ (by omega), fun j _ => n_row0 _ (by omega)⟩⟩
theorem sr_GR {f : Nat → Int} {n : Nat} {A A1 : Row} (h : s_run f n 900 (n_rw A) (fun _ => false) (tok f n 0) = .inr A1) : GR A1 := by
  have e := n_rw_e A
  obtain ⟨g1, g2, g3⟩ := sr_row 900 (n_rw A) _ _ A1 ⟨0, Nat.zero_le _, rfl⟩ (n_TJ.e e) (by rw [e _ (by omega), n_row0 _ (by omega)]) h
  have z : ∀ j, 4 ≤ j → j < 252 → (j < 68 ∨ 84 ≤ j) → A1 j = 0 := fun j h1 h2 h3 => by rw [g3 j h1 h3, e j h2, n_row0 _ h1]
  refine ⟨⟨g1, by rw [z _ (by omega) (by omega) (by omega)]; exact Or.inl rfl, by rw [z _ (by omega) (by omega) (by omega)]; omega⟩, ⟨fun j _ _ => z _ (by omega) (by omega) (by omega), fun j _ _ => ⟨z _ (by omega) (by omega) (by omega), z _ (by omega) (by omega) (by omega), z _ (by omega) (by omega) (by omega), z _ (by omega) (by omega) (by omega)⟩, fun j _ _ => z _ (by omega) (by omega) (by omega)⟩, by rw [z _ (by omega) (by omega) (by omega)]; exact Or.inl rfl, Or.inl ⟨z _ (by omega) (by omega) (by omega), fun j _ => z _ (by omega) (by omega) (by omega)⟩⟩
/-! clearing, taking back, freeing -/
theorem az_id {lo : Nat} {m n : Nat} {A : Row} (hm : m ≤ n) (h : ∀ j, j < n → m ≤ j → A (lo + j) = 0) : a_z lo n A = a_z lo m A := by
  funext j
  simp only [a_z]
  by_cases h1 : lo ≤ j ∧ j < lo + m
  · rw [if_pos (by omega), if_pos h1]
  · rw [if_neg h1]
    by_cases h2 : lo ≤ j ∧ j < lo + n
    · rw [if_pos h2]
      have := h (j - lo) (by omega) (by omega)
      rw [show lo + (j - lo) = j by omega] at this
      exact this.symm
    · rw [if_neg h2]
theorem azc_id {lo : Nat} {A : Row} {m : Nat} : ∀ n, m ≤ n → (∀ j, j < n → m ≤ j → A (lo + j) = 0) → a_zc A lo n = a_zc A lo m := by
  intro n
  induction n with
  | zero => intro h _; rw [show m = 0 by omega]
  | succ n ih =>
    intro h1 h2
    by_cases e : m = n + 1
    · rw [e]
    · rw [a_zc, ih (by omega) (fun j a b => h2 j (by omega) b), if_pos (h2 n (by omega) (by omega))]; omega
theorem clear_e {A : Row} {t : Int} (h : GR A) (ht : 0 ≤ t ∧ t ≤ 3) : a_clear A t = r_clear A t := by
  have hz := h.sz
  obtain ⟨z1, z2, z3⟩ := h.2.1
  have c1 : a_c1 A t = r_c1 A t := by
    unfold a_c1 r_c1
    by_cases ht1 : t ≤ 1
    · rw [if_pos (by omega), if_pos ht1]
      have e1 : a_z 28 16 A = a_z 28 (A 1).toNat A := az_id (by omega) (fun j hj q => (z2 j hj (by omega)).1)
      have e2 : a_zc A 28 16 = a_zc A 28 (A 1).toNat := azc_id 16 (by omega) (fun j hj q => (z2 j hj (by omega)).1)
      rw [e1, e2]
      have e3 : a_z 116 16 (a_z 28 (A 1).toNat A) = a_z 116 (A 1).toNat (a_z 28 (A 1).toNat A) := az_id (by omega) (fun j hj q => by rw [z_n _ (by omega)]; exact (z2 j hj (by omega)).2.2.2)
      rw [e3]
    · rw [if_neg (by omega), if_neg ht1]
  have c2 : a_c2 (r_c1 A t) t = r_c2 (r_c1 A t) t := by
    unfold a_c2 r_c2
    split
    · have g : ∀ j, (j < 20 ∨ (44 ≤ j ∧ j < 52)) → (r_c1 A t).1 j = A j := by
        intro j hj
        unfold r_c1
        split
        · show a_z 116 _ (a_z 28 _ A) j = A j
          rw [z_n _ (by omega), z_n _ (by omega)]
        · rfl
      have e0 : ∀ j, j < 8 → ((r_c1 A t).1 2).toNat ≤ j → (r_c1 A t).1 (44 + j) = 0 := fun j hj q => by rw [g 2 (by omega)] at q; rw [g _ (by omega)]; exact z3 j hj (by omega)
      have g2 := g 2 (by omega)
      rw [az_id (m := ((r_c1 A t).1 2).toNat) (by omega) e0, azc_id (m := ((r_c1 A t).1 2).toNat) 8 (by omega) e0]
    · rfl
  have c3 : a_c3 (r_c2 (r_c1 A t) t) t = r_c3 (r_c2 (r_c1 A t) t) t := by
    unfold a_c3 r_c3
    split
    · have g : ∀ j, j < 28 → (r_c2 (r_c1 A t) t).1 j = A j := by
        intro j hj
        have g1 : (r_c1 A t).1 j = A j := by
          unfold r_c1
          split
          · show a_z 116 _ (a_z 28 _ A) j = A j
            rw [z_n _ (by omega), z_n _ (by omega)]
          · rfl
        unfold r_c2
        split
        · show a_z 44 _ (r_c1 A t).1 j = A j
          rw [z_n _ (by omega), g1]
        · exact g1
      have e0 : ∀ j, j < 8 → ((r_c2 (r_c1 A t) t).1 0).toNat ≤ j → (r_c2 (r_c1 A t) t).1 (20 + j) = 0 := fun j hj q => by rw [g 0 (by omega)] at q; rw [g _ (by omega)]; exact z1 j hj (by omega)
      have g2 := g 0 (by omega)
      rw [az_id (m := ((r_c2 (r_c1 A t) t).1 0).toNat) (by omega) e0, azc_id (m := ((r_c2 (r_c1 A t) t).1 0).toNat) 8 (by omega) e0]
    · rfl
  unfold a_clear r_clear
  rw [c1, c2, c3]
theorem GR.az {A : Row} {lo n : Nat} (h : GR A) (h5 : ¬ 0 < A 5) (hl : (lo = 20 ∧ n ≤ 8) ∨ (lo = 28 ∧ n ≤ 16) ∨ (lo = 44 ∧ n ≤ 8) ∨ (lo = 116 ∧ n ≤ 16)) : GR (a_z lo n A) := by
  obtain ⟨hI, ⟨z1, z2, z3⟩, -, -⟩ := id h
  have e : ∀ j, (j < 20 ∨ (52 ≤ j ∧ j < 116)) → a_z lo n A j = A j := fun j hj => z_n j (by omega)
  have zz : ∀ j, A j = 0 → a_z lo n A j = 0 := fun j q => by simp only [a_z]; split; rfl; exact q
  refine h.mk0 h5 (z_RI (by omega) hI) (e 5 (by omega)) (e 9 (by omega)) (fun j _ => e _ (by omega)) (fun j hj q => ?_) (fun j hj q => ?_) (fun j hj q => ?_)
  · rw [e 0 (by omega)] at q; exact zz _ (z1 j hj q)
  · rw [e 1 (by omega)] at q; exact ⟨zz _ (z2 j hj q).1, zz _ (z2 j hj q).2.2.1, zz _ (z2 j hj q).2.2.2⟩
  · rw [e 2 (by omega)] at q; exact zz _ (z3 j hj q)
theorem clear_GR {A : Row} {t : Int} (h : GR A) (h5 : ¬ 0 < A 5) : GR (r_clear A t).1 ∧ ∀ j, j < 20 → (r_clear A t).1 j = A j := by
  have hz := h.sz
  refine ⟨?_, (rc_RI h.1).2⟩
  have c1 : GR (r_c1 A t).1 ∧ ∀ j, j < 20 → (r_c1 A t).1 j = A j := by
    unfold r_c1
    split
    · have g := h.az (lo := 28) (n := (A 1).toNat) h5 (by omega)
      refine ⟨GR.az g (by rw [z_n _ (by omega)]; exact h5) (by omega), fun j hj => ?_⟩
      show a_z 116 _ (a_z 28 _ A) j = A j
      rw [z_n _ (by omega), z_n _ (by omega)]
    · exact ⟨h, fun _ _ => rfl⟩
  have c2 : GR (r_c2 (r_c1 A t) t).1 ∧ ∀ j, j < 20 → (r_c2 (r_c1 A t) t).1 j = A j := by
    have hz := c1.1.sz
    unfold r_c2
    split
    · refine ⟨GR.az c1.1 (by rw [c1.2 5 (by omega)]; exact h5) (by omega), fun j hj => ?_⟩
      show a_z 44 _ (r_c1 A t).1 j = A j
      rw [z_n _ (by omega), c1.2 j hj]
    · exact c1
  have hz := c2.1.sz
  unfold r_clear r_c3
  split
  · exact GR.az c2.1 (by rw [c2.2 5 (by omega)]; exact h5) (by omega)
  · exact c2.1
theorem tr_o : ∀ (n j : Nat) (A : Row) (i : Nat), (i < 20 + j ∨ 20 + j + n ≤ i) → a_tr n A j i = A i := by
  intro n
  induction n with
  | zero => intro j A i _; rfl
  | succ n ih => intro j A i h; rw [a_tr, ih _ _ _ (by omega), up_eq, if_neg (by omega)]
theorem tr_GR {A : Row} (h : GR A) (h5 : ¬ 0 < A 5) : GR (a_tr (A 0).toNat A 0) ∧ ∀ j, (j < 20 ∨ 28 ≤ j) → a_tr (A 0).toNat A 0 j = A j := by
  have hz := h.sz
  obtain ⟨g1, g2⟩ := tr_TJ (A 0).toNat 0 A (by omega) h.1.1 (fun i hi => by omega) (by omega)
  exact ⟨h.pins h5 g2 (TJ_pin g1) (fun j hj q => by rw [tr_o _ _ _ _ (by omega)]; exact h.2.1.1 j hj q), g2⟩
/-- a machine's cells hold any row like theirs, when it isn't in a turn -/
theorem MS.like {w : mW} {b : Nat} {A B : Row} (h : MS w b A) (hJ : TJ A) (h18 : A 18 ≤ 30) (h5 : ¬ 0 < A 5) (h5' : ¬ 0 < B 5) (e : ∀ j, j < 252 → (j < 5 ∨ 8 < j) → B j = A j) : MS w b B := by
  obtain ⟨h1, h2, ⟨o, l0, l1, l2, l3, l4, l5⟩, h4, dv, d, p, pl, c, l, h6, h7, h8, h9⟩ := h
  have hz := TJ_sz hJ
  have hA : MemA w b B := by
    have := (((h2.free (i := 5) (v := B 5) (by omega)).free (i := 6) (v := B 6) (by omega)).free (i := 7) (v := B 7) (by omega)).free (i := 8) (v := B 8) (by omega)
    refine this.row (fun j hj _ => ?_)
    simp only [up_eq]
    by_cases q8 : j = 8
    · rw [if_pos q8, q8]
    · rw [if_neg q8]
      by_cases q7 : j = 7
      · rw [if_pos q7, q7]
      · rw [if_neg q7]
        by_cases q6 : j = 6
        · rw [if_pos q6, q6]
        · rw [if_neg q6]
          by_cases q5 : j = 5
          · rw [if_pos q5, q5]
          · rw [if_neg q5]; exact e j (by omega) (by omega)
  refine ⟨h1, hA, ⟨o, l0, by rw [e 18 (by omega) (by omega)]; exact l1, by rw [e 18 (by omega) (by omega)]; exact l2, by rw [e 18 (by omega) (by omega)]; exact l3, l4, fun i k hi hk => by rw [e 18 (by omega) (by omega)] at hi; rw [e _ (by omega) (by omega)]; exact l5 i k hi hk⟩, ?_, dv, d, p, pl, c, l, ?_, h7, h8, fun q => absurd q h5'⟩
  · have ed : du B = du A := by
      unfold du
      rw [e 1 (by omega) (by omega)]
      exact hn_c _ _ (fun i hi => e _ (by omega) (by omega))
    rw [ed]; exact h4
  · rw [if_neg h5'] ; rw [if_neg h5] at h6; exact h6
theorem tb_v : ∀ (n : Nat) (A : Row) (j i : Nat), j + n ≤ 16 → a_tb n A j i = if 28 + j ≤ i ∧ i < 28 + (j + n) then (A i - A 7 * A (i + 56)) % 10 else if 100 + j ≤ i ∧ i < 100 + (j + n) then A i + A (i - 16) else A i := by
  intro n
  induction n with
  | zero => intro A j i h; rw [a_tb, if_neg (by omega), if_neg (by omega)]
  | succ n ih =>
    intro A j i h
    rw [a_tb, ih _ _ _ (by omega)]
    simp only [up_eq]
    rw [if_neg (show ¬ 7 = 100 + j by omega), if_neg (show ¬ 7 = 28 + j by omega)]
    by_cases h1 : i = 28 + j
    · subst h1
      rw [if_neg (by omega), if_neg (by omega), if_neg (by omega), if_pos rfl, if_pos (by omega), show 28 + j + 56 = 84 + j by omega]
    · by_cases h2 : i = 100 + j
      · subst h2
        rw [if_neg (by omega), if_neg (by omega), if_pos rfl, if_neg (by omega), if_pos (by omega), show 100 + j - 16 = 84 + j by omega]
      · rw [if_neg h1, if_neg h2]
        by_cases h3 : 28 + (j + 1) ≤ i ∧ i < 28 + (j + 1 + n)
        · rw [if_pos h3, if_neg (by omega), if_neg (by omega), if_pos (by omega)]
        · rw [if_neg h3]
          by_cases h4 : 100 + (j + 1) ≤ i ∧ i < 100 + (j + 1 + n)
          · rw [if_pos h4, if_neg (by omega), if_neg (by omega), if_neg (by omega), if_pos (by omega)]
          · rw [if_neg h4, if_neg (by omega), if_neg (by omega)]
theorem bk_v {A : Row} (h : GR A) (h5 : 0 < A 5) : ∀ j, j < 252 → ¬ j = 7 → a_bk A j = r_bk A j := by
  have hz := h.sz
  obtain ⟨z1, z2, z3⟩ := h.2.1
  intro j hj h7
  have T : ∀ i, a_tb (A 1).toNat A 0 i = if 28 ≤ i ∧ i < 28 + (A 1).toNat then (A i - A 7 * A (i + 56)) % 10 else if 100 ≤ i ∧ i < 100 + (A 1).toNat then A i + A (i - 16) else A i := by
    intro i
    rw [tb_v _ _ _ _ (by omega)]
    simp only [Nat.add_zero, Nat.zero_add]
  simp only [a_bk, r_bk]
  by_cases e5 : j = 5
  · rw [e5, up_eq, up_eq, if_pos rfl, if_pos rfl]
  · rw [up_eq, up_eq, if_neg e5, if_neg e5]
    by_cases e9 : 9 ≤ j ∧ j < 12
    · have e : j = 9 ∨ j = 10 ∨ j = 11 := by omega
      rcases e with rfl | rfl | rfl <;> simp [a_beg, bk2, up_eq, zr]
    · by_cases e1 : (52 ≤ j ∧ j < 68) ∨ (84 ≤ j ∧ j < 100)
      · have ea : a_beg (a_bk3 (a_tb (A 1).toNat A 0)) 1 j = 0 := by
          simp only [a_beg, up_eq, zr]; rw [if_neg h7, if_pos (by omega)]
        have eb : bk2 (bkk A (A 1).toNat) j = bkk A (A 1).toNat j := by
          simp only [bk2, up_eq]; rw [if_neg (by omega), if_neg (by omega), if_neg (by omega), if_neg (by omega), if_neg (by omega), if_neg (by omega)]
        rw [ea, eb]
        unfold bkk
        rw [if_neg (by omega), if_neg (by omega)]
        split
        · rfl
        · split
          · rfl
          · have := z2 (if j < 84 then j - 52 else j - 84) (by split <;> omega) (by split <;> omega)
            split at this
            · rw [show 52 + (j - 52) = j by omega] at this; exact this.2.1.symm
            · rw [show 84 + (j - 84) = j by omega] at this; exact this.2.2.1.symm
      · rw [beg_k _ _ _ (by omega)]
        by_cases e14 : 14 ≤ j ∧ j < 17
        · have e : j = 14 ∨ j = 15 ∨ j = 16 := by omega
          rcases e with rfl | rfl | rfl <;> simp [a_bk3, bk2, bkk, up_eq, T]
        · rw [bk3_s _ _ (by omega), T]
          have eb : bk2 (bkk A (A 1).toNat) j = bkk A (A 1).toNat j := by
            simp only [bk2, up_eq]; rw [if_neg (by omega), if_neg (by omega), if_neg (by omega), if_neg (by omega), if_neg (by omega), if_neg (by omega)]
          rw [eb]
          unfold bkk
          split
          · omega
          · split
            · rfl
            · rw [if_neg (by omega), if_neg (by omega)]
theorem bk_k {A : Row} {j : Nat} (h1 : A 1 ≤ 16) (hj : j < 5 ∨ (6 ≤ j ∧ j < 9) ∨ (17 ≤ j ∧ j < 28) ∨ (44 ≤ j ∧ j < 52) ∨ (68 ≤ j ∧ j < 84) ∨ 116 ≤ j) : r_bk A j = A j := by
  simp only [r_bk, bk2, up_eq, bkk]
  rw [if_neg (by omega), if_neg (by omega), if_neg (by omega), if_neg (by omega), if_neg (by omega), if_neg (by omega), if_neg (by omega), if_neg (by omega), if_neg (by omega), if_neg (by omega), if_neg (by omega)]
theorem bk_0 {A : Row} (h : GR A) : r_bk A 5 = 0 ∧ r_bk A 9 = 0 ∧ ∀ j : Nat, j < 16 → r_bk A (52 + j) = 0 ∧ r_bk A (84 + j) = 0 := by
  have hz := h.sz
  obtain ⟨z1, z2, z3⟩ := h.2.1
  refine ⟨by simp [r_bk, up_eq], by simp [r_bk, bk2, up_eq], fun j hj => ?_⟩
  simp only [r_bk, bk2, up_eq]
  rw [if_neg (by omega), if_neg (by omega), if_neg (by omega), if_neg (by omega), if_neg (by omega), if_neg (by omega), if_neg (by omega), if_neg (by omega), if_neg (by omega), if_neg (by omega), if_neg (by omega), if_neg (by omega), if_neg (by omega), if_neg (by omega)]
  unfold bkk
  by_cases hj1 : (j : Int) < A 1
  · rw [if_neg (by omega), if_neg (by omega), if_neg (by omega), if_pos (by omega), if_neg (by omega), if_neg (by omega), if_pos (by omega)]
    exact ⟨rfl, rfl⟩
  · have := z2 j hj (by omega)
    rw [if_neg (by omega), if_neg (by omega), if_neg (by omega), if_neg (by omega), if_neg (by omega), if_neg (by omega), if_neg (by omega), if_neg (by omega)]
    exact ⟨this.2.1, this.2.2.1⟩
theorem bk_28 {A : Row} (j : Nat) (hj : j < 16) : r_bk A (28 + j) = if (28 + j) < 28 + (A 1).toNat then (A (28 + j) - A 7 * A (84 + j) + 20) % 10 else A (28 + j) := by
  simp only [r_bk, bk2, up_eq]
  rw [if_neg (by omega), if_neg (by omega), if_neg (by omega), if_neg (by omega), if_neg (by omega), if_neg (by omega), if_neg (by omega)]
  unfold bkk
  by_cases h : 28 + j < 28 + (A 1).toNat
  · rw [if_pos ⟨by omega, h⟩, if_pos h, show 28 + j + 56 = 84 + j by omega]
  · rw [if_neg (by omega), if_neg h, if_neg (by omega), if_neg (by omega), if_neg (by omega)]
theorem bk_GR {A : Row} (h : GR A) : GR (r_bk A) := by
  have hz := h.sz
  have b0 := bk_0 h
  obtain ⟨⟨hJ, h8, h18⟩, ⟨z1, z2, z3⟩, -, -⟩ := h
  have hp := TJ_pin hJ
  have hd := TJ_dig hJ
  have hc := TJ_cnt hJ
  have hf := TJ_flt hJ
  have e : ∀ j, (j < 5 ∨ (6 ≤ j ∧ j < 9) ∨ (17 ≤ j ∧ j < 28) ∨ (44 ≤ j ∧ j < 52) ∨ (68 ≤ j ∧ j < 84) ∨ 116 ≤ j) → r_bk A j = A j := fun j hj => bk_k (by omega) hj
  have e' : ∀ j, ¬ j = 7 → up (r_bk A) 7 1 j = r_bk A j := fun j hj => by rw [up_eq, if_neg hj]
  refine ⟨⟨⟨⟨?_, ?_, fun j hj => ?_, fun j hj => ?_, fun j hj => ?_, fun j hj => ?_, fun j hj => ?_⟩, fun j hj => ?_⟩, by rw [e 8 (by omega)]; exact h8, by rw [e 18 (by omega)]; exact h18⟩, ⟨fun j hj q => ?_, fun j hj q => ?_, fun j hj q => ?_⟩, Or.inl b0.2.1, Or.inl ⟨b0.1, fun j hj => (b0.2.2 j hj).1⟩⟩
  · rw [e' 0 (by omega), e' 1 (by omega), e' 2 (by omega), e' 3 (by omega), e' 4 (by omega), e 0 (by omega), e 1 (by omega), e 2 (by omega), e 3 (by omega), e 4 (by omega)]; exact hz
  · rw [up_eq, if_pos rfl]; exact Or.inl rfl
  · rw [e' _ (by omega), e _ (by omega)]; exact hp j hj
  · rw [e' _ (by omega), bk_28 j hj]
    split
    · omega
    · exact hd j hj
  · rw [e' _ (by omega), e _ (by omega)]; exact hc j hj
  · rw [e' _ (by omega), (b0.2.2 j hj).1]; omega
  · rw [e' _ (by omega), e _ (by omega)]; exact hf j hj
  · rw [e _ (by omega)]; exact hJ.2 j hj
  · rw [e 0 (by omega)] at q; rw [e _ (by omega)]; exact z1 j hj q
  · rw [e 1 (by omega)] at q
    rw [bk_28 j hj, if_neg (by omega), e (116 + j) (by omega), (b0.2.2 j hj).1, (b0.2.2 j hj).2]
    exact ⟨(z2 j hj q).1, rfl, rfl, (z2 j hj q).2.2.2⟩
  · rw [e 2 (by omega)] at q; rw [e _ (by omega)]; exact z3 j hj q
theorem mct_e {A : Row} (h : GR A) : m_ct A 16 = m_ct A (A 1).toNat := by
  have hz := h.sz
  have key : ∀ n, (A 1).toNat ≤ n → n ≤ 16 → m_ct A n = m_ct A (A 1).toNat := by
    intro n
    induction n with
    | zero => intro q _; rw [show (A 1).toNat = 0 by omega]
    | succ n ih =>
      intro q1 q2
      by_cases e : (A 1).toNat = n + 1
      · rw [e]
      · rw [m_ct, ih (by omega) (by omega), (h.2.1.2.1 n (by omega) (by omega)).2.2.1, if_neg (by decide)]; omega
  exact key 16 (by omega) (by omega)
theorem free_GR {A : Row} (h : GR A) (h5 : 0 < A 5) : GR (a_fin (a_go (a_fr A) (A 5 - 1).toNat (A 6).toNat 0 0)) := by
  have hz := h.sz
  obtain ⟨⟨hJ, h8, h18⟩, ⟨z1, z2, z3⟩, -, ⟨q, -⟩ | ⟨hJI, h9, hM⟩⟩ := h
  · omega
  have hjw := JI_jw hJI hJ
  have hfl := TJ_flt hJ (a_jw A).toNat (by omega)
  have hTI : TI (a_fr A) := (flt_TI (TJ_TI hJ hJI.2.1) (by omega) (by omega)).up (by omega)
  have e : ∀ j, ¬ j = 5 → (j < 68 ∨ 84 ≤ j) → a_fr A j = A j := fun j h1 h2 => by unfold a_fr; rw [up_eq, if_neg h1, up_eq, if_neg (by omega)]
  refine fin_GR hTI (fun j hj q => ?_) (by rw [e 18 (by omega) (by omega)]; exact h18) ?_ (fun j hj => by rw [e _ (by omega) (by omega)]; exact hJ.2 j hj) (by rw [e 8 (by omega) (by omega)]; exact h8) (by rw [e 9 (by omega) (by omega)]; exact h9) (fun j hj q => ?_) (fun j hj q => ?_) (fun j hj q => ?_)
  · rw [e 1 (by omega) (by omega)] at q
    rw [e _ (by omega) (by omega), e _ (by omega) (by omega), e _ (by omega) (by omega)]
    exact ⟨(z2 j hj q).1, (z2 j hj q).2.1, (z2 j hj q).2.2.1⟩
  · obtain ⟨hp, -, -⟩ := hJI
    rcases hp with ⟨p5, p6, p7⟩ | ⟨p5, p6, p7⟩
    · left
      refine ⟨by omega, by rw [e 0 (by omega) (by omega)]; omega, ?_⟩
      have m := hM.1 p5
      rw [show (((A 6).toNat : Nat) : Int) = A 6 by omega]
      exact M1.r (show M1 A (A 6) from m) (e 4 (by omega) (by omega)) (fun j hj => ⟨e _ (by omega) (by omega), e _ (by omega) (by omega)⟩)
    · right
      refine ⟨by omega, by rw [e 1 (by omega) (by omega)]; omega, ?_⟩
      have m := hM.2 p5
      rw [show (((A 6).toNat : Nat) : Int) = A 6 by omega]
      exact M2.r (show M2 A (A 6) from m) (fun j hj => ⟨e _ (by omega) (by omega), e _ (by omega) (by omega)⟩)
  · rw [e 0 (by omega) (by omega)] at q; rw [e _ (by omega) (by omega)]; exact z1 j hj q
  · rw [e 1 (by omega) (by omega)] at q; rw [e _ (by omega) (by omega)]; exact (z2 j hj q).2.2.2
  · rw [e 2 (by omega) (by omega)] at q; rw [e _ (by omega) (by omega)]; exact z3 j hj q
theorem do_GR {A : Row} {c : Cmd} (h : GR A) (h5 : ¬ 0 < A 5) (hok : CmdOK (A 0) c) : GR (x_do A c).1 ∧ ((x_do A c).2 = true → ¬ 0 < (x_do A c).1 5) := by
  have hz := h.sz
  have h50 : A 5 = 0 := (h.free h5).1
  have hx := xdo_RI h.1 h50 hok
  refine ⟨?_, fun q => by have := hx.2.2.1 q; omega⟩
  obtain ⟨k, v, b⟩ := c
  have u8 : ∀ v : Int, up A 8 v 5 = A 5 := fun v => by rw [up_eq, if_neg (by omega)]
  rcases hok with ⟨hk, v1, v2⟩ | ⟨hk, v1, v2⟩ | ⟨hk, v1, v2⟩ | ⟨hk, v1, v2⟩ | ⟨hk, v1, v2⟩ | hk
  all_goals simp only at hk
  all_goals subst hk
  · show GR (a_pp (A 0).toNat A 0 v)
    exact GR.pp h h5 v1
  · show GR (a_many v.natAbs (up A 8 0) (if v < 0 then -1 else 1)).1
    exact many_GR (by split; exact Or.inr rfl; exact Or.inl rfl) _ _ (GR.u8 h h5 (Or.inl rfl))
  · show GR (up A 4 (if A 4 + v < 0 then 0 else if A 1 - A 0 < A 4 + v then A 1 - A 0 else A 4 + v))
    refine GR.pos h h5 ?_ ?_
    · split
      · omega
      · split <;> omega
    · split
      · omega
      · split <;> omega
  · show GR (r_clear A v).1
    exact (clear_GR h h5).1
  · show GR (if ((x_pl (4, v, b)).length : Int) - 1 ≤ A 1 - A 0 then x_dn (a_mul (x_pl (4, v, b)) 0 (up (up A 4 0) 8 0) 0) else (A, false)).1
    generalize x_pl (4, v, b) = l
    split
    · rename_i hl
      refine mul_GR _ _ _ _ (GR.u8 (GR.pos h h5 (by omega) (by omega)) (by rw [up_eq, if_neg (by omega)]; exact h5) (Or.inl rfl)) (by rw [up_eq, if_neg (by omega), up_eq, if_neg (by omega)]; exact h5) ?_
      rw [up_eq, if_neg (by omega), up_eq, if_neg (by omega), up_eq, if_neg (by omega), up_eq, if_neg (by omega)]
      omega
    · exact h
  · show GR (if 0 < p_num A then x_dn (a_dv (A 1 - A 0 + 1).toNat (up A 8 1) 0) else (A, false)).1
    split
    · refine dv_GR _ _ _ ?_ (GR.u8 h h5 (Or.inr rfl)) (by rw [u8]; exact h5)
      rw [up_eq, if_neg (by omega), up_eq, if_neg (by omega)]; omega
    · exact h
theorem go_GR {N : Int} : ∀ (l : List Cmd) (d : Nat) (A : Row), GR A → ¬ 0 < A 5 → A 0 = N → (∀ c ∈ l, CmdOK N c) → GR (x_go l d A).1 := by
  intro l
  induction l with
  | nil => intro d A h _ _ _; exact h
  | cons c l ih =>
    intro d A h h5 h0 hok
    have hk := hok c (List.mem_cons_self)
    have h1 := do_GR h h5 (by rw [h0]; exact hk)
    have h2 := (xdo_RI h.1 (h.free h5).1 (by rw [h0]; exact hk)).2.1 0 (by omega)
    rw [x_go]
    split
    · rename_i q
      exact ih _ _ h1.1 (h1.2 q) (h2.trans h0) (fun c' hc => hok c' (List.mem_cons_of_mem _ hc))
    · exact h1.1
/-! the class's script: all commands, and their doing -/
def XQ (a : Nat) : Prop := XP a ∨ a = 277
theorem ts_XQ {w w' : mW} {F : Nat → Int32} {P : Nat → Prop} (h : FX P w w') (h7 : P 277) : FX P w (ts w' F) :=
  ⟨h.1, h.2.1, h.2.2.1, fun a ha => ⟨(ts_o (fun q => ha (by rw [q]; exact h7))).trans (h.2.2.2 a ha).1, (h.2.2.2 a ha).2⟩⟩
theorem CMc.ts {w : mW} {L : List Cmd} {F : Nat → Int32} (h : CMc w L) : CMc (Jvm.Pilot.CCrankCalculatorLaw_law_r5314_5e3ffd.ts w F) L := fun i hi => by
  rw [ts_o (by omega), ts_o (by omega), ts_o (by omega)]; exact h i hi
def XR (a : Nat) : Prop := (101 ≤ a ∧ a < 113) ∨ a = 273 ∨ a = 274
theorem FrM.toX {b : Nat} {w w' : mW} {P : Nat → Prop} (h : FrM b w w') (hp : ∀ a, b ≤ a → a < b + 12 → P a) : FX P w w' := ⟨h.1, h.2.1, h.2.2.1, fun a ha => h.2.2.2 a (by by_cases q : b ≤ a ∧ a < b + 12; exact absurd (hp a q.1 q.2) ha; omega)⟩
theorem Fr.toX {l : List Nat} {w w' : mW} {P : Nat → Prop} (h : Fr l w w') (hp : ∀ a ∈ l, P a) : FX P w w' := ⟨h.1, h.2.1, h.2.2.1, fun a ha => h.2.2.2 a (fun q => ha (hp a q))⟩
theorem Mu.fx {w w' : mW} {p : Nat} {P : Nat → Prop} (h : Mu w p) (f : FX P w w') : Mu w' p := by unfold Mu; rw [f.1, f.2.1]; exact h
theorem CMc.fx {w w' : mW} {L : List Cmd} {P : Nat → Prop} (h : CMc w L) (f : FX P w w') (h1 : ¬ P 281) (h2 : ¬ P 282) (h3 : ¬ P 283) : CMc w' L := fun i hi => by
  rw [(f.2.2.2 _ h1).1, (f.2.2.2 _ h2).1, (f.2.2.2 _ h3).1]; exact h i hi
