/-! plans -/
def nx (s v : Int) : Int := v / 10 + (if ¬ s = 0 ∧ 5 < v % 10 then 1 else 0)
def dg1 (s v : Int) : Int := v % 10 - (if ¬ s = 0 ∧ 5 < v % 10 then 10 else 0)
def pv (s v : Int) : Nat → Int
  | 0 => v
  | n + 1 => pv s (nx s v) n
theorem pv_s (s : Int) : ∀ (n : Nat) (v : Int), pv s v (n + 1) = nx s (pv s v n) := by
  intro n
  induction n with
  | zero => intro v; rfl
  | succ n ih => intro v; rw [pv, ih]; rfl
theorem nx_b {s v : Int} (h : 0 ≤ v ∧ v ≤ 1000000) : 0 ≤ nx s v ∧ nx s v ≤ 1000000 := by
  unfold nx; split <;> omega
theorem pv_b {s : Int} : ∀ (n : Nat) (v : Int), 0 ≤ v ∧ v ≤ 1000000 → 0 ≤ pv s v n ∧ pv s v n ≤ 1000000 := by
  intro n
  induction n with
  | zero => intro v h; exact h
  | succ n ih => intro v h; exact ih _ (nx_b h)
theorem pv_0 {s : Int} : ∀ n : Nat, pv s 0 n = 0 := by
  intro n
  induction n with
  | zero => rfl
  | succ n ih =>
    have e : nx s 0 = 0 := by unfold nx; rw [if_neg (by omega)]; rfl
    rw [pv, e]; exact ih
theorem dg1_b {s v : Int} : -4 ≤ dg1 s v ∧ dg1 s v ≤ 9 := by
  unfold dg1; split <;> omega
theorem pl_nx {r c s : Int} (hr : 0 ≤ r) (hc : c = 0 ∨ (c = 1 ∧ ¬ s = 0)) : r / 10 + (if ¬ s = 0 ∧ 6 ≤ r % 10 + c then 1 else 0) = nx s (r + c) ∧ r % 10 + c - 10 * (if ¬ s = 0 ∧ 6 ≤ r % 10 + c then 1 else 0) = dg1 s (r + c) := by
  unfold nx dg1
  by_cases hs : s = 0
  · have c0 : c = 0 := by
      rcases hc with q | q
      · exact q
      · exact absurd hs q.2
    simp only [hs, not_true_eq_false, false_and, ite_false]
    omega
  · simp only [hs, not_false_eq_true, true_and]
    rcases hc with q | q
    · subst q
      constructor <;> split <;> split <;> omega
    · have := q.1; subst this
      constructor <;> split <;> split <;> omega
theorem pl_get (s : Int) : ∀ (f j : Nat) (r c : Int), j < f → 0 ≤ r → (c = 0 ∨ (c = 1 ∧ ¬ s = 0)) → (a_pl f r c s).getD j 0 = dg1 s (pv s (r + c) j) := by
  intro f
  induction f with
  | zero => intro j r c h; omega
  | succ f ih =>
    intro j r c hj hr hc
    obtain ⟨e1, e2⟩ := pl_nx (s := s) hr hc
    rw [a_pl]
    by_cases h0 : r + c ≤ 0
    · rw [if_pos h0]
      have hz : r + c = 0 := by rcases hc with q | q <;> omega
      rw [hz, pv_0]
      have : dg1 s 0 = 0 := by unfold dg1; rw [if_neg (by omega)]; rfl
      rw [this]; rfl
    · rw [if_neg h0, e2]
      cases j with
      | zero => rfl
      | succ j =>
        rw [List.getD_cons_succ, ih j (r / 10) _ (by omega) (by omega) (by split; right; rename_i q; exact ⟨rfl, q.1⟩; left; rfl), e1]
        rfl
/-- the steps of a number to 0 -/
theorem z_nd_5 {o : Nat} {x s : Int} {w : mW} {Q : mW → mO → Prop} (hs : s = 0 ∨ s = 1) : ∀ (f : Nat) (r c : Int) (k : Nat), k + f ≤ 100 → 0 ≤ r → (c = 0 ∨ (c = 1 ∧ ¬ s = 0)) → (f = 0 → r + c = 0) → r + c ≤ 10 ^ (f - 1) → f ≤ 8 → Q w (.inl (some (.int (Int32.ofInt ((k + (a_pl f r c s).length : Nat) : Int))))) →
    RT n_X10_needed 5 [.ref o, .int (Int32.ofInt x), .int (Int32.ofInt s), .int (Int32.ofInt k), .int (Int32.ofInt (r + c))] [] w (0, 0, false) Q := by
  intro f
  induction f with
  | zero =>
    intro r c k hk hr hc hf hb hf8 hq
    have hz := hf rfl
    refine rt_X10_needed_5 ?_
    simp (disch := omega) only [wp_c, wp_n, jj_n, v_ct, Int.reduceToNat, Int.toNat_natCast, stE, wlE, lgt, lpu, lpw, v_c2, va_s, true_and, and_true, Option.toList, List.nil_append, List.cons_append, List.take, List.drop, List.reverse, List.reverseAux, List.length_cons, List.length_nil, reduceCtorEq, false_implies, true_implies, forall_const, not_true_eq_false, not_false_eq_true, ite_true, ite_false, Bool.false_eq_true, I_I, J_J, Nat.add_left_cancel_iff, Nat.reduceEqDiff, Nat.add_eq_left, Nat.left_eq_add, false_and, and_false, Nat.reduceSub, Nat.sub_self, Nat.le_refl, Nat.zero_le, ge_iff_le, Nat.reduceAdd, Nat.reduceLeDiff, Nat.zero_add, Nat.reduceLT, z_lt, z_le, z_eq, z_l0, z_g0, z_le0, z_ge0, z_e0, z_e1, z_vp, z_nc, z_rem, z_div, i_ltT, i_ltF, i_leT, i_leF, i_eqT, i_eqF, n_ltT, n_ltF, n_leT, n_leF, n_eqT, n_eqF, tn_9, tn_12, tn_14, tn_20, tn_28, tn_44, tn_52, tn_68, tn_84, tn_100, tn_116, tn_132, fu_e, up_eq, ob_0, ob_b, oi_add, oi_sub, oi_mul, oi_neg, Int.add_zero, Int.zero_add, or_true, true_or, or_false, false_or, and_self, z_i2l, z_l2i, lo_nat, lo_add, lo_sub, lo_mul, lo_0, e_rem, hz]
    refine rt_X10_needed_42 ?_
    simp (disch := omega) only [wp_c, wp_n, jj_n, v_ct, Int.reduceToNat, Int.toNat_natCast, stE, wlE, lgt, lpu, lpw, v_c2, va_s, true_and, and_true, Option.toList, List.nil_append, List.cons_append, List.take, List.drop, List.reverse, List.reverseAux, List.length_cons, List.length_nil, reduceCtorEq, false_implies, true_implies, forall_const, not_true_eq_false, not_false_eq_true, ite_true, ite_false, Bool.false_eq_true, I_I, J_J, Nat.add_left_cancel_iff, Nat.reduceEqDiff, Nat.add_eq_left, Nat.left_eq_add, false_and, and_false, Nat.reduceSub, Nat.sub_self, Nat.le_refl, Nat.zero_le, ge_iff_le, Nat.reduceAdd, Nat.reduceLeDiff, Nat.zero_add, Nat.reduceLT, z_lt, z_le, z_eq, z_l0, z_g0, z_le0, z_ge0, z_e0, z_e1, z_vp, z_nc, z_rem, z_div, i_ltT, i_ltF, i_leT, i_leF, i_eqT, i_eqF, n_ltT, n_ltF, n_leT, n_leF, n_eqT, n_eqF, tn_9, tn_12, tn_14, tn_20, tn_28, tn_44, tn_52, tn_68, tn_84, tn_100, tn_116, tn_132, fu_e, up_eq, ob_0, ob_b, oi_add, oi_sub, oi_mul, oi_neg, Int.add_zero, Int.zero_add, or_true, true_or, or_false, false_or, and_self, z_i2l, z_l2i, lo_nat, lo_add, lo_sub, lo_mul, lo_0, e_rem, mr_X10_needed]
    exact hq
  | succ f ih =>
    intro r c k hk hr hc hf hb hf8 hq
    have hp := p8 f (by omega)
    rw [show f + 1 - 1 = f by omega] at hb
    obtain ⟨e1, e2⟩ := pl_nx (s := s) hr hc
    have hc01 : 0 ≤ c ∧ c ≤ 1 := by rcases hc with q | q <;> omega
    by_cases h0 : r + c ≤ 0
    · have hz : r + c = 0 := by omega
      refine rt_X10_needed_5 ?_
      simp (disch := omega) only [wp_c, wp_n, jj_n, v_ct, Int.reduceToNat, Int.toNat_natCast, stE, wlE, lgt, lpu, lpw, v_c2, va_s, true_and, and_true, Option.toList, List.nil_append, List.cons_append, List.take, List.drop, List.reverse, List.reverseAux, List.length_cons, List.length_nil, reduceCtorEq, false_implies, true_implies, forall_const, not_true_eq_false, not_false_eq_true, ite_true, ite_false, Bool.false_eq_true, I_I, J_J, Nat.add_left_cancel_iff, Nat.reduceEqDiff, Nat.add_eq_left, Nat.left_eq_add, false_and, and_false, Nat.reduceSub, Nat.sub_self, Nat.le_refl, Nat.zero_le, ge_iff_le, Nat.reduceAdd, Nat.reduceLeDiff, Nat.zero_add, Nat.reduceLT, z_lt, z_le, z_eq, z_l0, z_g0, z_le0, z_ge0, z_e0, z_e1, z_vp, z_nc, z_rem, z_div, i_ltT, i_ltF, i_leT, i_leF, i_eqT, i_eqF, n_ltT, n_ltF, n_leT, n_leF, n_eqT, n_eqF, tn_9, tn_12, tn_14, tn_20, tn_28, tn_44, tn_52, tn_68, tn_84, tn_100, tn_116, tn_132, fu_e, up_eq, ob_0, ob_b, oi_add, oi_sub, oi_mul, oi_neg, Int.add_zero, Int.zero_add, or_true, true_or, or_false, false_or, and_self, z_i2l, z_l2i, lo_nat, lo_add, lo_sub, lo_mul, lo_0, e_rem, hz]
      refine rt_X10_needed_42 ?_
      simp (disch := omega) only [wp_c, wp_n, jj_n, v_ct, Int.reduceToNat, Int.toNat_natCast, stE, wlE, lgt, lpu, lpw, v_c2, va_s, true_and, and_true, Option.toList, List.nil_append, List.cons_append, List.take, List.drop, List.reverse, List.reverseAux, List.length_cons, List.length_nil, reduceCtorEq, false_implies, true_implies, forall_const, not_true_eq_false, not_false_eq_true, ite_true, ite_false, Bool.false_eq_true, I_I, J_J, Nat.add_left_cancel_iff, Nat.reduceEqDiff, Nat.add_eq_left, Nat.left_eq_add, false_and, and_false, Nat.reduceSub, Nat.sub_self, Nat.le_refl, Nat.zero_le, ge_iff_le, Nat.reduceAdd, Nat.reduceLeDiff, Nat.zero_add, Nat.reduceLT, z_lt, z_le, z_eq, z_l0, z_g0, z_le0, z_ge0, z_e0, z_e1, z_vp, z_nc, z_rem, z_div, i_ltT, i_ltF, i_leT, i_leF, i_eqT, i_eqF, n_ltT, n_ltF, n_leT, n_leF, n_eqT, n_eqF, tn_9, tn_12, tn_14, tn_20, tn_28, tn_44, tn_52, tn_68, tn_84, tn_100, tn_116, tn_132, fu_e, up_eq, ob_0, ob_b, oi_add, oi_sub, oi_mul, oi_neg, Int.add_zero, Int.zero_add, or_true, true_or, or_false, false_or, and_self, z_i2l, z_l2i, lo_nat, lo_add, lo_sub, lo_mul, lo_0, e_rem, mr_X10_needed]
      rw [a_pl, if_pos h0] at hq
      exact hq
    · rw [a_pl, if_neg h0, List.length_cons] at hq
      have h33 : RT n_X10_needed 33 [.ref o, .int (Int32.ofInt x), .int (Int32.ofInt s), .int (Int32.ofInt k), .int (Int32.ofInt (r + c))] [.int (Int32.ofInt (if ¬ s = 0 ∧ 5 < (r + c) % 10 then 1 else 0)), .int (Int32.ofInt ((r + c) / 10))] w (0, 0, false) Q := by
        refine rt_X10_needed_33 ?_
        simp (disch := omega) only [wp_c, wp_n, jj_n, v_ct, Int.reduceToNat, Int.toNat_natCast, stE, wlE, lgt, lpu, lpw, v_c2, va_s, true_and, and_true, Option.toList, List.nil_append, List.cons_append, List.take, List.drop, List.reverse, List.reverseAux, List.length_cons, List.length_nil, reduceCtorEq, false_implies, true_implies, forall_const, not_true_eq_false, not_false_eq_true, ite_true, ite_false, Bool.false_eq_true, I_I, J_J, Nat.add_left_cancel_iff, Nat.reduceEqDiff, Nat.add_eq_left, Nat.left_eq_add, false_and, and_false, Nat.reduceSub, Nat.sub_self, Nat.le_refl, Nat.zero_le, ge_iff_le, Nat.reduceAdd, Nat.reduceLeDiff, Nat.zero_add, Nat.reduceLT, z_lt, z_le, z_eq, z_l0, z_g0, z_le0, z_ge0, z_e0, z_e1, z_vp, z_nc, z_rem, z_div, i_ltT, i_ltF, i_leT, i_leF, i_eqT, i_eqF, n_ltT, n_ltF, n_leT, n_leF, n_eqT, n_eqF, tn_9, tn_12, tn_14, tn_20, tn_28, tn_44, tn_52, tn_68, tn_84, tn_100, tn_116, tn_132, fu_e, up_eq, ob_0, ob_b, oi_add, oi_sub, oi_mul, oi_neg, Int.add_zero, Int.zero_add, or_true, true_or, or_false, false_or, and_self, z_i2l, z_l2i, lo_nat, lo_add, lo_sub, lo_mul, lo_0, e_rem]
        have h1 := ih (r / 10) (if ¬ s = 0 ∧ 6 ≤ r % 10 + c then 1 else 0) (k + 1) (by omega) (by omega) (by split; right; rename_i q; exact ⟨rfl, q.1⟩; left; rfl) ?_ ?_ (by omega) ?_
        · rw [e1] at h1
          exact h1
        · intro f0
          subst f0
          rw [e1]
          have : r + c ≤ 1 := hb
          unfold nx
          rw [if_neg (by omega)]
          omega
        · rw [e1]
          unfold nx
          cases f with
          | zero =>
            have : r + c ≤ 1 := hb
            rw [if_neg (by omega)]
            show _ ≤ (1 : Int)
            omega
          | succ g =>
            rw [show g + 1 - 1 = g by omega]
            rw [Int.pow_succ] at hb
            split <;> omega
        · rw [show k + 1 + (a_pl f (r / 10) (if ¬ s = 0 ∧ 6 ≤ r % 10 + c then 1 else 0) s).length = k + ((a_pl f (r / 10) (if ¬ s = 0 ∧ 6 ≤ r % 10 + c then 1 else 0) s).length + 1) by omega]
          exact hq
      have hv8 : r + c ≤ 100000000 := by omega
      refine rt_X10_needed_5 ?_
      rcases hs with rfl | rfl
      · simp (disch := omega) only [wp_c, wp_n, jj_n, v_ct, Int.reduceToNat, Int.toNat_natCast, stE, wlE, lgt, lpu, lpw, v_c2, va_s, true_and, and_true, Option.toList, List.nil_append, List.cons_append, List.take, List.drop, List.reverse, List.reverseAux, List.length_cons, List.length_nil, reduceCtorEq, false_implies, true_implies, forall_const, not_true_eq_false, not_false_eq_true, ite_true, ite_false, Bool.false_eq_true, I_I, J_J, Nat.add_left_cancel_iff, Nat.reduceEqDiff, Nat.add_eq_left, Nat.left_eq_add, false_and, and_false, Nat.reduceSub, Nat.sub_self, Nat.le_refl, Nat.zero_le, ge_iff_le, Nat.reduceAdd, Nat.reduceLeDiff, Nat.zero_add, Nat.reduceLT, z_lt, z_le, z_eq, z_l0, z_g0, z_le0, z_ge0, z_e0, z_e1, z_vp, z_nc, z_rem, z_div, i_ltT, i_ltF, i_leT, i_leF, i_eqT, i_eqF, n_ltT, n_ltF, n_leT, n_leF, n_eqT, n_eqF, tn_9, tn_12, tn_14, tn_20, tn_28, tn_44, tn_52, tn_68, tn_84, tn_100, tn_116, tn_132, fu_e, up_eq, ob_0, ob_b, oi_add, oi_sub, oi_mul, oi_neg, Int.add_zero, Int.zero_add, or_true, true_or, or_false, false_or, and_self, z_i2l, z_l2i, lo_nat, lo_add, lo_sub, lo_mul, lo_0, e_rem]
        refine rt_X10_needed_32 ?_
        simp (disch := omega) only [wp_c, wp_n, jj_n, v_ct, Int.reduceToNat, Int.toNat_natCast, stE, wlE, lgt, lpu, lpw, v_c2, va_s, true_and, and_true, Option.toList, List.nil_append, List.cons_append, List.take, List.drop, List.reverse, List.reverseAux, List.length_cons, List.length_nil, reduceCtorEq, false_implies, true_implies, forall_const, not_true_eq_false, not_false_eq_true, ite_true, ite_false, Bool.false_eq_true, I_I, J_J, Nat.add_left_cancel_iff, Nat.reduceEqDiff, Nat.add_eq_left, Nat.left_eq_add, false_and, and_false, Nat.reduceSub, Nat.sub_self, Nat.le_refl, Nat.zero_le, ge_iff_le, Nat.reduceAdd, Nat.reduceLeDiff, Nat.zero_add, Nat.reduceLT, z_lt, z_le, z_eq, z_l0, z_g0, z_le0, z_ge0, z_e0, z_e1, z_vp, z_nc, z_rem, z_div, i_ltT, i_ltF, i_leT, i_leF, i_eqT, i_eqF, n_ltT, n_ltF, n_leT, n_leF, n_eqT, n_eqF, tn_9, tn_12, tn_14, tn_20, tn_28, tn_44, tn_52, tn_68, tn_84, tn_100, tn_116, tn_132, fu_e, up_eq, ob_0, ob_b, oi_add, oi_sub, oi_mul, oi_neg, Int.add_zero, Int.zero_add, or_true, true_or, or_false, false_or, and_self, z_i2l, z_l2i, lo_nat, lo_add, lo_sub, lo_mul, lo_0, e_rem]
        simp only [not_true_eq_false, false_and, ite_false] at h33
        exact h33
      · by_cases h5 : 5 < (r + c) % 10
        · simp (disch := omega) only [wp_c, wp_n, jj_n, v_ct, Int.reduceToNat, Int.toNat_natCast, stE, wlE, lgt, lpu, lpw, v_c2, va_s, true_and, and_true, Option.toList, List.nil_append, List.cons_append, List.take, List.drop, List.reverse, List.reverseAux, List.length_cons, List.length_nil, reduceCtorEq, false_implies, true_implies, forall_const, not_true_eq_false, not_false_eq_true, ite_true, ite_false, Bool.false_eq_true, I_I, J_J, Nat.add_left_cancel_iff, Nat.reduceEqDiff, Nat.add_eq_left, Nat.left_eq_add, false_and, and_false, Nat.reduceSub, Nat.sub_self, Nat.le_refl, Nat.zero_le, ge_iff_le, Nat.reduceAdd, Nat.reduceLeDiff, Nat.zero_add, Nat.reduceLT, z_lt, z_le, z_eq, z_l0, z_g0, z_le0, z_ge0, z_e0, z_e1, z_vp, z_nc, z_rem, z_div, i_ltT, i_ltF, i_leT, i_leF, i_eqT, i_eqF, n_ltT, n_ltF, n_leT, n_leF, n_eqT, n_eqF, tn_9, tn_12, tn_14, tn_20, tn_28, tn_44, tn_52, tn_68, tn_84, tn_100, tn_116, tn_132, fu_e, up_eq, ob_0, ob_b, oi_add, oi_sub, oi_mul, oi_neg, Int.add_zero, Int.zero_add, or_true, true_or, or_false, false_or, and_self, z_i2l, z_l2i, lo_nat, lo_add, lo_sub, lo_mul, lo_0, e_rem]
          rw [if_pos ⟨by omega, h5⟩] at h33
          exact h33
        · simp (disch := omega) only [wp_c, wp_n, jj_n, v_ct, Int.reduceToNat, Int.toNat_natCast, stE, wlE, lgt, lpu, lpw, v_c2, va_s, true_and, and_true, Option.toList, List.nil_append, List.cons_append, List.take, List.drop, List.reverse, List.reverseAux, List.length_cons, List.length_nil, reduceCtorEq, false_implies, true_implies, forall_const, not_true_eq_false, not_false_eq_true, ite_true, ite_false, Bool.false_eq_true, I_I, J_J, Nat.add_left_cancel_iff, Nat.reduceEqDiff, Nat.add_eq_left, Nat.left_eq_add, false_and, and_false, Nat.reduceSub, Nat.sub_self, Nat.le_refl, Nat.zero_le, ge_iff_le, Nat.reduceAdd, Nat.reduceLeDiff, Nat.zero_add, Nat.reduceLT, z_lt, z_le, z_eq, z_l0, z_g0, z_le0, z_ge0, z_e0, z_e1, z_vp, z_nc, z_rem, z_div, i_ltT, i_ltF, i_leT, i_leF, i_eqT, i_eqF, n_ltT, n_ltF, n_leT, n_leF, n_eqT, n_eqF, tn_9, tn_12, tn_14, tn_20, tn_28, tn_44, tn_52, tn_68, tn_84, tn_100, tn_116, tn_132, fu_e, up_eq, ob_0, ob_b, oi_add, oi_sub, oi_mul, oi_neg, Int.add_zero, Int.zero_add, or_true, true_or, or_false, false_or, and_self, z_i2l, z_l2i, lo_nat, lo_add, lo_sub, lo_mul, lo_0, e_rem]
          refine rt_X10_needed_32 ?_
          simp (disch := omega) only [wp_c, wp_n, jj_n, v_ct, Int.reduceToNat, Int.toNat_natCast, stE, wlE, lgt, lpu, lpw, v_c2, va_s, true_and, and_true, Option.toList, List.nil_append, List.cons_append, List.take, List.drop, List.reverse, List.reverseAux, List.length_cons, List.length_nil, reduceCtorEq, false_implies, true_implies, forall_const, not_true_eq_false, not_false_eq_true, ite_true, ite_false, Bool.false_eq_true, I_I, J_J, Nat.add_left_cancel_iff, Nat.reduceEqDiff, Nat.add_eq_left, Nat.left_eq_add, false_and, and_false, Nat.reduceSub, Nat.sub_self, Nat.le_refl, Nat.zero_le, ge_iff_le, Nat.reduceAdd, Nat.reduceLeDiff, Nat.zero_add, Nat.reduceLT, z_lt, z_le, z_eq, z_l0, z_g0, z_le0, z_ge0, z_e0, z_e1, z_vp, z_nc, z_rem, z_div, i_ltT, i_ltF, i_leT, i_leF, i_eqT, i_eqF, n_ltT, n_ltF, n_leT, n_leF, n_eqT, n_eqF, tn_9, tn_12, tn_14, tn_20, tn_28, tn_44, tn_52, tn_68, tn_84, tn_100, tn_116, tn_132, fu_e, up_eq, ob_0, ob_b, oi_add, oi_sub, oi_mul, oi_neg, Int.add_zero, Int.zero_add, or_true, true_or, or_false, false_or, and_self, z_i2l, z_l2i, lo_nat, lo_add, lo_sub, lo_mul, lo_0, e_rem]
          rw [if_neg (fun q => h5 q.2)] at h33
          exact h33
theorem z_needed {o : Nat} {v s : Int} {w : mW} {Q : mW → mO → Prop} (hv : 0 ≤ v ∧ v ≤ 999999) (hs : s = 0 ∨ s = 1) (hq : Q w (.inl (some (.int (Int32.ofInt ((a_pl 7 v 0 s).length : Nat)))))) : CT n_X10_needed [.ref o, .int (Int32.ofInt v), .int (Int32.ofInt s)] w Q := by
  refine ct_X10_needed (rt_X10_needed_0 ?_)
  simp only [wp_c, wp_n, jj_n, v_ct, Int.reduceToNat, Int.toNat_natCast, stE, wlE, lgt, lpu, lpw, v_c2, va_s, true_and, and_true, Option.toList, List.nil_append, List.cons_append, List.take, List.drop, List.reverse, List.reverseAux, List.length_cons, List.length_nil, reduceCtorEq, false_implies, true_implies, forall_const, not_true_eq_false, not_false_eq_true, ite_true, ite_false, Bool.false_eq_true, I_I, J_J, Nat.add_left_cancel_iff, Nat.reduceEqDiff, Nat.add_eq_left, Nat.left_eq_add, false_and, and_false, Nat.reduceSub, Nat.sub_self, Nat.le_refl, Nat.zero_le, ge_iff_le, Nat.reduceAdd, Nat.reduceLeDiff, Nat.zero_add, Nat.reduceLT]
  have h10 : (10 : Int) ^ (7 - 1) = 1000000 := by decide
  have h6 : v + 0 ≤ (10 : Int) ^ (7 - 1) := by rw [h10]; omega
  have := z_nd_5 (o := o) (x := v) (w := w) (Q := Q) hs 7 v 0 0 (by omega) hv.1 (Or.inl rfl) (fun h => absurd h (by omega)) h6 (by omega) (by simpa using hq)
  simpa using this
theorem z_pl_11 {o a : Nat} {x s v : Int} {w0 : mW} {Q : mW → mO → Prop} (hs : s = 0 ∨ s = 1) (hv : 0 ≤ v ∧ v ≤ 999999)
  (hq : ∀ w', w_sh w' a = (1, 7) → w_n w' = w_n w0 → (∀ j, j < 7 → w_I w' a j = Int32.ofInt (dg1 s (pv s v j))) → (∀ c, ¬ c = a → w_I w' c = w_I w0 c) → w_sh w' = w_sh w0 → w_R w' = w_R w0 → w_J w' = w_J w0 → Q w' (.inl (some (.ref a)))) :
  ∀ (n i : Nat) (w : mW) (z : Value), i + n = 7 → w_sh w a = (1, 7) → w_n w = w_n w0 → (∀ j, j < i → w_I w a j = Int32.ofInt (dg1 s (pv s v j))) → (∀ c, ¬ c = a → w_I w c = w_I w0 c) → w_sh w = w_sh w0 → w_R w = w_R w0 → w_J w = w_J w0 →
  RT n_X10_plan 11 [.ref o, .int (Int32.ofInt x), .int (Int32.ofInt s), .ref a, .int (Int32.ofInt (pv s v i)), .int (Int32.ofInt i), z] [] w (0, 0, false) Q := by
  intro n
  induction n with
  | zero =>
    intro i w z hi h1 h2 h3 h4 h5 h6 h7
    have e : i = 7 := by omega
    subst e
    refine rt_X10_plan_11 ?_
    simp (disch := omega) only [wp_c, wp_n, jj_n, v_ct, Int.reduceToNat, Int.toNat_natCast, stE, wlE, lgt, lpu, lpw, v_c2, va_s, true_and, and_true, Option.toList, List.nil_append, List.cons_append, List.take, List.drop, List.reverse, List.reverseAux, List.length_cons, List.length_nil, reduceCtorEq, false_implies, true_implies, forall_const, not_true_eq_false, not_false_eq_true, ite_true, ite_false, Bool.false_eq_true, I_I, J_J, Nat.add_left_cancel_iff, Nat.reduceEqDiff, Nat.add_eq_left, Nat.left_eq_add, false_and, and_false, Nat.reduceSub, Nat.sub_self, Nat.le_refl, Nat.zero_le, ge_iff_le, Nat.reduceAdd, Nat.reduceLeDiff, Nat.zero_add, Nat.reduceLT, z_lt, z_le, z_eq, z_l0, z_g0, z_le0, z_ge0, z_e0, z_e1, z_vp, z_nc, z_rem, z_div, i_ltT, i_ltF, i_leT, i_leF, i_eqT, i_eqF, n_ltT, n_ltF, n_leT, n_leF, n_eqT, n_eqF, tn_9, tn_12, tn_14, tn_20, tn_28, tn_44, tn_52, tn_68, tn_84, tn_100, tn_116, tn_132, fu_e, up_eq, ob_0, ob_b, oi_add, oi_sub, oi_mul, oi_neg, Int.add_zero, Int.zero_add, or_true, true_or, or_false, false_or, and_self, z_i2l, z_l2i, lo_nat, lo_add, lo_sub, lo_mul, lo_0, e_rem]
    refine rt_X10_plan_60 ?_
    simp (disch := omega) only [wp_c, wp_n, jj_n, v_ct, Int.reduceToNat, Int.toNat_natCast, stE, wlE, lgt, lpu, lpw, v_c2, va_s, true_and, and_true, Option.toList, List.nil_append, List.cons_append, List.take, List.drop, List.reverse, List.reverseAux, List.length_cons, List.length_nil, reduceCtorEq, false_implies, true_implies, forall_const, not_true_eq_false, not_false_eq_true, ite_true, ite_false, Bool.false_eq_true, I_I, J_J, Nat.add_left_cancel_iff, Nat.reduceEqDiff, Nat.add_eq_left, Nat.left_eq_add, false_and, and_false, Nat.reduceSub, Nat.sub_self, Nat.le_refl, Nat.zero_le, ge_iff_le, Nat.reduceAdd, Nat.reduceLeDiff, Nat.zero_add, Nat.reduceLT, z_lt, z_le, z_eq, z_l0, z_g0, z_le0, z_ge0, z_e0, z_e1, z_vp, z_nc, z_rem, z_div, i_ltT, i_ltF, i_leT, i_leF, i_eqT, i_eqF, n_ltT, n_ltF, n_leT, n_leF, n_eqT, n_eqF, tn_9, tn_12, tn_14, tn_20, tn_28, tn_44, tn_52, tn_68, tn_84, tn_100, tn_116, tn_132, fu_e, up_eq, ob_0, ob_b, oi_add, oi_sub, oi_mul, oi_neg, Int.add_zero, Int.zero_add, or_true, true_or, or_false, false_or, and_self, z_i2l, z_l2i, lo_nat, lo_add, lo_sub, lo_mul, lo_0, e_rem]
    exact hq w h1 h2 h3 h4 h5 h6 h7
  | succ n ih =>
    intro i w z hi h1 h2 h3 h4 h5 h6 h7
    have hb := pv_b (s := s) i v (by omega)
    have h48 : RT n_X10_plan 48 [.ref o, .int (Int32.ofInt x), .int (Int32.ofInt s), .ref a, .int (Int32.ofInt (nx s (pv s v i))), .int (Int32.ofInt i), .int (Int32.ofInt (dg1 s (pv s v i)))] [] w (0, 0, false) Q := by
      refine rt_X10_plan_48 ?_
      simp (disch := omega) only [wp_c, wp_n, jj_n, v_ct, Int.reduceToNat, Int.toNat_natCast, stE, wlE, lgt, lpu, lpw, v_c2, va_s, true_and, and_true, Option.toList, List.nil_append, List.cons_append, List.take, List.drop, List.reverse, List.reverseAux, List.length_cons, List.length_nil, reduceCtorEq, false_implies, true_implies, forall_const, not_true_eq_false, not_false_eq_true, ite_true, ite_false, Bool.false_eq_true, I_I, J_J, Nat.add_left_cancel_iff, Nat.reduceEqDiff, Nat.add_eq_left, Nat.left_eq_add, false_and, and_false, Nat.reduceSub, Nat.sub_self, Nat.le_refl, Nat.zero_le, ge_iff_le, Nat.reduceAdd, Nat.reduceLeDiff, Nat.zero_add, Nat.reduceLT, z_lt, z_le, z_eq, z_l0, z_g0, z_le0, z_ge0, z_e0, z_e1, z_vp, z_nc, z_rem, z_div, i_ltT, i_ltF, i_leT, i_leF, i_eqT, i_eqF, n_ltT, n_ltF, n_leT, n_leF, n_eqT, n_eqF, tn_9, tn_12, tn_14, tn_20, tn_28, tn_44, tn_52, tn_68, tn_84, tn_100, tn_116, tn_132, fu_e, up_eq, ob_0, ob_b, oi_add, oi_sub, oi_mul, oi_neg, Int.add_zero, Int.zero_add, or_true, true_or, or_false, false_or, and_self, z_i2l, z_l2i, lo_nat, lo_add, lo_sub, lo_mul, lo_0, e_rem, h1]
      have hc1 : ((i : Int) + 1) = ((i + 1 : Nat) : Int) := by omega
      rw [← pv_s]
      have := ih (i + 1) (s_I w a i (Int32.ofInt (dg1 s (pv s v i)))) (.int (Int32.ofInt (dg1 s (pv s v i)))) (by omega) h1 h2 (fun j hj => ?_) (fun c hc => ?_) h5 h6 h7
      · exact this
      · rw [I_I]
        by_cases q : j = i
        · rw [if_pos ⟨rfl, q⟩, q]
        · rw [if_neg (fun r => q r.2)]; exact h3 j (by omega)
      · funext j; rw [I_I, if_neg (fun r => hc r.1), h4 c hc]
    refine rt_X10_plan_11 ?_
    have en : nx s (pv s v i) = pv s v i / 10 + (if ¬ s = 0 ∧ 5 < pv s v i % 10 then 1 else 0) := rfl
    have ed : dg1 s (pv s v i) = pv s v i % 10 - (if ¬ s = 0 ∧ 5 < pv s v i % 10 then 10 else 0) := rfl
    rw [en, ed] at h48
    rcases hs with rfl | rfl
    · simp (disch := omega) only [wp_c, wp_n, jj_n, v_ct, Int.reduceToNat, Int.toNat_natCast, stE, wlE, lgt, lpu, lpw, v_c2, va_s, true_and, and_true, Option.toList, List.nil_append, List.cons_append, List.take, List.drop, List.reverse, List.reverseAux, List.length_cons, List.length_nil, reduceCtorEq, false_implies, true_implies, forall_const, not_true_eq_false, not_false_eq_true, ite_true, ite_false, Bool.false_eq_true, I_I, J_J, Nat.add_left_cancel_iff, Nat.reduceEqDiff, Nat.add_eq_left, Nat.left_eq_add, false_and, and_false, Nat.reduceSub, Nat.sub_self, Nat.le_refl, Nat.zero_le, ge_iff_le, Nat.reduceAdd, Nat.reduceLeDiff, Nat.zero_add, Nat.reduceLT, z_lt, z_le, z_eq, z_l0, z_g0, z_le0, z_ge0, z_e0, z_e1, z_vp, z_nc, z_rem, z_div, i_ltT, i_ltF, i_leT, i_leF, i_eqT, i_eqF, n_ltT, n_ltF, n_leT, n_leF, n_eqT, n_eqF, tn_9, tn_12, tn_14, tn_20, tn_28, tn_44, tn_52, tn_68, tn_84, tn_100, tn_116, tn_132, fu_e, up_eq, ob_0, ob_b, oi_add, oi_sub, oi_mul, oi_neg, Int.add_zero, Int.zero_add, or_true, true_or, or_false, false_or, and_self, z_i2l, z_l2i, lo_nat, lo_add, lo_sub, lo_mul, lo_0, e_rem]
      simp only [not_true_eq_false, false_and, ite_false, Int.add_zero, Int.sub_zero] at h48
      exact h48
    · by_cases h5' : 5 < pv 1 v i % 10
      · simp (disch := omega) only [wp_c, wp_n, jj_n, v_ct, Int.reduceToNat, Int.toNat_natCast, stE, wlE, lgt, lpu, lpw, v_c2, va_s, true_and, and_true, Option.toList, List.nil_append, List.cons_append, List.take, List.drop, List.reverse, List.reverseAux, List.length_cons, List.length_nil, reduceCtorEq, false_implies, true_implies, forall_const, not_true_eq_false, not_false_eq_true, ite_true, ite_false, Bool.false_eq_true, I_I, J_J, Nat.add_left_cancel_iff, Nat.reduceEqDiff, Nat.add_eq_left, Nat.left_eq_add, false_and, and_false, Nat.reduceSub, Nat.sub_self, Nat.le_refl, Nat.zero_le, ge_iff_le, Nat.reduceAdd, Nat.reduceLeDiff, Nat.zero_add, Nat.reduceLT, z_lt, z_le, z_eq, z_l0, z_g0, z_le0, z_ge0, z_e0, z_e1, z_vp, z_nc, z_rem, z_div, i_ltT, i_ltF, i_leT, i_leF, i_eqT, i_eqF, n_ltT, n_ltF, n_leT, n_leF, n_eqT, n_eqF, tn_9, tn_12, tn_14, tn_20, tn_28, tn_44, tn_52, tn_68, tn_84, tn_100, tn_116, tn_132, fu_e, up_eq, ob_0, ob_b, oi_add, oi_sub, oi_mul, oi_neg, Int.add_zero, Int.zero_add, or_true, true_or, or_false, false_or, and_self, z_i2l, z_l2i, lo_nat, lo_add, lo_sub, lo_mul, lo_0, e_rem]
        rw [if_pos ⟨by omega, h5'⟩, if_pos ⟨by omega, h5'⟩] at h48
        exact h48
      · simp (disch := omega) only [wp_c, wp_n, jj_n, v_ct, Int.reduceToNat, Int.toNat_natCast, stE, wlE, lgt, lpu, lpw, v_c2, va_s, true_and, and_true, Option.toList, List.nil_append, List.cons_append, List.take, List.drop, List.reverse, List.reverseAux, List.length_cons, List.length_nil, reduceCtorEq, false_implies, true_implies, forall_const, not_true_eq_false, not_false_eq_true, ite_true, ite_false, Bool.false_eq_true, I_I, J_J, Nat.add_left_cancel_iff, Nat.reduceEqDiff, Nat.add_eq_left, Nat.left_eq_add, false_and, and_false, Nat.reduceSub, Nat.sub_self, Nat.le_refl, Nat.zero_le, ge_iff_le, Nat.reduceAdd, Nat.reduceLeDiff, Nat.zero_add, Nat.reduceLT, z_lt, z_le, z_eq, z_l0, z_g0, z_le0, z_ge0, z_e0, z_e1, z_vp, z_nc, z_rem, z_div, i_ltT, i_ltF, i_leT, i_leF, i_eqT, i_eqF, n_ltT, n_ltF, n_leT, n_leF, n_eqT, n_eqF, tn_9, tn_12, tn_14, tn_20, tn_28, tn_44, tn_52, tn_68, tn_84, tn_100, tn_116, tn_132, fu_e, up_eq, ob_0, ob_b, oi_add, oi_sub, oi_mul, oi_neg, Int.add_zero, Int.zero_add, or_true, true_or, or_false, false_or, and_self, z_i2l, z_l2i, lo_nat, lo_add, lo_sub, lo_mul, lo_0, e_rem]
        rw [if_neg (fun q => h5' q.2), if_neg (fun q => h5' q.2), Int.add_zero, Int.sub_zero] at h48
        exact h48
theorem z_plan {o : Nat} {v s : Int} {w : mW} {Q : mW → mO → Prop} (hv : 0 ≤ v ∧ v ≤ 999999) (hs : s = 0 ∨ s = 1)
  (hq : ∀ w' a, 100 + w_n w ≤ a → a < 100 + w_n w' → w_sh w' a = (1, 7) → (∀ j, j < 7 → w_I w' a j = Int32.ofInt (dg1 s (pv s v j))) → FO (100 + w_n w) w w' → Q w' (.inl (some (.ref a)))) : CT n_X10_plan [.ref o, .int (Int32.ofInt v), .int (Int32.ofInt s)] w Q := by
  refine ct_X10_plan (rt_X10_plan_0 ?_)
  have c7 : (Int32.ofInt 7).toNatClampNeg = 7 := by decide
  simp (disch := omega) only [wp_c, wp_n, jj_n, v_ct, Int.reduceToNat, Int.toNat_natCast, stE, wlE, lgt, lpu, lpw, v_c2, va_s, true_and, and_true, Option.toList, List.nil_append, List.cons_append, List.take, List.drop, List.reverse, List.reverseAux, List.length_cons, List.length_nil, reduceCtorEq, false_implies, true_implies, forall_const, not_true_eq_false, not_false_eq_true, ite_true, ite_false, Bool.false_eq_true, I_I, J_J, Nat.add_left_cancel_iff, Nat.reduceEqDiff, Nat.add_eq_left, Nat.left_eq_add, false_and, and_false, Nat.reduceSub, Nat.sub_self, Nat.le_refl, Nat.zero_le, ge_iff_le, Nat.reduceAdd, Nat.reduceLeDiff, Nat.zero_add, Nat.reduceLT, z_lt, z_le, z_eq, z_l0, z_g0, z_le0, z_ge0, z_e0, z_e1, z_vp, z_nc, z_rem, z_div, i_ltT, i_ltF, i_leT, i_leF, i_eqT, i_eqF, n_ltT, n_ltF, n_leT, n_leF, n_eqT, n_eqF, tn_9, tn_12, tn_14, tn_20, tn_28, tn_44, tn_52, tn_68, tn_84, tn_100, tn_116, tn_132, fu_e, up_eq, ob_0, ob_b, oi_add, oi_sub, oi_mul, oi_neg, Int.add_zero, Int.zero_add, or_true, true_or, or_false, false_or, and_self, z_i2l, z_l2i, lo_nat, lo_add, lo_sub, lo_mul, lo_0, e_rem, c7]
  intro q hq0
  have f0 : FO (100 + w_n w) w (s_N (s_K w q) (1, 7)) := (FO.refl _ _).N hq0 (Nat.le_refl _)
  have := z_pl_11 (o := o) (a := 100 + q) (x := v) (s := s) (v := v) (w0 := s_N (s_K w q) (1, 7)) (Q := Q) hs hv ?_ 7 0 (s_N (s_K w q) (1, 7)) .null (by omega) (by rw [N_sh, K_n, if_pos rfl]) rfl (fun j hj => absurd hj (by omega)) (fun _ _ => rfl) rfl rfl rfl
  · exact this
  · intro w' h1 h2 h3 h4 h5 h6 h7
    have hn : w_n w' = q + 1 := h2
    refine hq w' (100 + q) (by omega) (by omega) h1 h3 ⟨fun c hc => ?_, by omega⟩
    have hc' : ¬ c = 100 + q := by rcases hc with r | r; omega; have := r.1; omega
    have := f0.1 c hc
    rw [h5, h6, h7, h4 c hc']
    exact this
/-! products -/
theorem TS.c {A B : Row} {N c : Int} (h : TS A B N) (h5 : A 5 = 0) (h0 : 0 ≤ c) (h1 : c + A 0 ≤ A 1) : TS (up A 4 c) (up B 4 c) N := by
  obtain ⟨hG, ⟨hR, b5, hk, hdu, h11⟩, hJ, h14⟩ := h
  have hz := hG.sz
  have e : ∀ (X : Row) (j : Nat), ¬ j = 4 → up X 4 c j = X j := fun X j hj => by rw [up_eq, if_neg hj]
  refine ⟨hG.pos (by omega) h0 h1, ⟨⟨fun j hj => ?_, fun i hi => ?_⟩, ?_, ?_, ?_, ?_⟩, fun q => ?_, ?_, ?_⟩
  · rw [up_eq, up_eq]
    split
    · rfl
    · exact hR.1 j hj
  · rw [e _ _ (by omega), e _ _ (by omega)]; exact hR.2 i hi
  · rw [e _ _ (by omega), e _ _ (by omega)]; exact b5
  · rw [e _ _ (by omega), hk]; exact (k_c (e _ _ (by omega)) (by omega) (fun j hj => e _ _ (by omega))).symm
  · rw [e _ _ (by omega), hdu]; exact (d_c (e _ _ (by omega)) (by omega) (fun j hj => e _ _ (by omega))).symm
  · rw [e _ _ (by omega), e _ _ (by omega)]; exact h11
  · rw [e _ _ (by omega)] at q; omega
  · rw [e _ _ (by omega)]; exact h14.1
  · rw [e _ _ (by omega)]; exact h14.2
theorem TS.d8 {A B : Row} {N v : Int} (h : TS A B N) (h5 : A 5 = 0) (hv : v = 0 ∨ v = 1) : TS (up A 8 v) B N := by
  obtain ⟨hG, ⟨hR, b5, hk, hdu, h11⟩, hJ, h14⟩ := h
  have hz := hG.sz
  have e : ∀ (j : Nat), ¬ j = 8 → up A 8 v j = A j := fun j hj => by rw [up_eq, if_neg hj]
  refine ⟨hG.u8 (by omega) hv, ⟨hR.uA (by omega), by rw [e _ (by omega)]; exact b5, ?_, ?_, h11⟩, fun q => ?_, by rw [e _ (by omega)]; exact h14.1, by rw [e _ (by omega)]; exact h14.2⟩
  · rw [hk]; exact (k_c (e _ (by omega)) (by omega) (fun j hj => e _ (by omega))).symm
  · rw [hdu]; exact (d_c (e _ (by omega)) (by omega) (fun j hj => e _ (by omega))).symm
  · rw [e _ (by omega)] at q; omega
theorem LX.c {A B : Row} {c : Int} (h : LX A B) : LX (up A 4 c) (up B 4 c) := ⟨by rw [up_eq, if_neg (by omega), up_eq, if_neg (by omega)]; exact h.1, fun j h1 h2 => by rw [up_eq, if_neg (by omega), up_eq, if_neg (by omega)]; exact h.2 j h1 h2⟩
theorem LX.d8 {A B : Row} {v : Int} (h : LX A B) : LX (up A 8 v) B := ⟨by rw [up_eq, if_neg (by omega)]; exact h.1, fun j h1 h2 => by rw [up_eq, if_neg (by omega)]; exact h.2 j h1 h2⟩
/-- a world's cell of a shape of no own machine -/
def PA (w : mW) (a : Nat) (v s : Int) : Prop := a < 100 + w_n w ∧ w_sh w a = (1, 7) ∧ ∀ j, j < 7 → w_I w a j = Int32.ofInt (dg1 s (pv s v j))
theorem PA.fo {b : Nat} {w w' : mW} {a : Nat} {v s : Int} (h : PA w a v s) (f : FO b w w') : PA w' a v s := by
  have e := f.1 a (Or.inr ⟨h.1, by rw [h.2.1]; unfold sf; simp⟩)
  refine ⟨by have := f.2; have := h.1; omega, by rw [e.1]; exact h.2.1, fun j hj => by rw [e.2.2.1]; exact h.2.2 j hj⟩
theorem z_mul_45 {b o a : Nat} {v s many : Int} {Q : mW → mO → Prop} (hv : 0 ≤ v ∧ v ≤ 999999) (hs : s = 0 ∨ s = 1) {Z : Int} : ∀ (l : List Int) (i : Nat) (P : Nat → Nat) (A B : Row) (t : Nat) (N : Int) (w : mW), (i : Int) + l.length = many → many ≤ 7 → (∀ j, j < l.length → l.getD j 0 = dg1 s (pv s v (i + j))) → TS A B N → A 5 = 0 → A 8 = 0 → (i : Int) + l.length ≤ A 1 - A 0 + 1 → N + 12 * l.length ≤ 900000000 → t ≤ 1000 * i → OW w b o P B → PA w a v s →
  (∀ w' P' B', OW w' b o P' B' → FO b w w' → TS (a_mul l i A t).1 B' (N + 12 * l.length) → B' 1000 = B 1000 → (LX A B → LX (a_mul l i A t).1 B') → Q w' (.inl (some (.int (Int32.ofInt (a_mul l i A t).2))))) →
  RT n_X10_multiply 45 [.ref o, .int (Int32.ofInt v), .int (Int32.ofInt s), .int (Int32.ofInt many), .ref a, .int (Int32.ofInt t), .int (Int32.ofInt i)] [] w (420 - 60 * i, 4872 - 696 * i, false) Q := by
  intro l
  induction l with
  | nil =>
    intro i P A B t N w hi hm hl hT h5 h8 hc hN ht hO hP hq
    have hF := hO.F
    simp only [List.length_nil, Int.natCast_zero, Int.add_zero] at hi
    refine rt_X10_multiply_45 ?_
    simp (disch := omega) only [wp_c, wp_n, jj_n, v_ct, Int.reduceToNat, Int.toNat_natCast, stE, wlE, lgt, lpu, lpw, v_c2, va_s, true_and, and_true, Option.toList, List.nil_append, List.cons_append, List.take, List.drop, List.reverse, List.reverseAux, List.length_cons, List.length_nil, reduceCtorEq, false_implies, true_implies, forall_const, not_true_eq_false, not_false_eq_true, ite_true, ite_false, Bool.false_eq_true, I_I, J_J, Nat.add_left_cancel_iff, Nat.reduceEqDiff, Nat.add_eq_left, Nat.left_eq_add, false_and, and_false, Nat.reduceSub, Nat.sub_self, Nat.le_refl, Nat.zero_le, ge_iff_le, Nat.reduceAdd, Nat.reduceLeDiff, Nat.zero_add, Nat.reduceLT, z_lt, z_le, z_eq, z_l0, z_g0, z_le0, z_ge0, z_e0, z_e1, z_vp, z_nc, z_rem, z_div, i_ltT, i_ltF, i_leT, i_leF, i_eqT, i_eqF, n_ltT, n_ltF, n_leT, n_leF, n_eqT, n_eqF, tn_9, tn_12, tn_14, tn_20, tn_28, tn_44, tn_52, tn_68, tn_84, tn_100, tn_116, tn_132, fu_e, up_eq, ob_0, ob_b, oi_add, oi_sub, oi_mul, oi_neg, Int.add_zero, Int.zero_add, or_true, true_or, or_false, false_or, and_self, z_i2l, z_l2i, lo_nat, lo_add, lo_sub, lo_mul, lo_0, e_rem]
    refine rt_X10_multiply_85 ?_
    simp (disch := omega) only [wp_c, wp_n, jj_n, v_ct, Int.reduceToNat, Int.toNat_natCast, stE, wlE, lgt, lpu, lpw, v_c2, va_s, true_and, and_true, Option.toList, List.nil_append, List.cons_append, List.take, List.drop, List.reverse, List.reverseAux, List.length_cons, List.length_nil, reduceCtorEq, false_implies, true_implies, forall_const, not_true_eq_false, not_false_eq_true, ite_true, ite_false, Bool.false_eq_true, I_I, J_J, Nat.add_left_cancel_iff, Nat.reduceEqDiff, Nat.add_eq_left, Nat.left_eq_add, false_and, and_false, Nat.reduceSub, Nat.sub_self, Nat.le_refl, Nat.zero_le, ge_iff_le, Nat.reduceAdd, Nat.reduceLeDiff, Nat.zero_add, Nat.reduceLT, z_lt, z_le, z_eq, z_l0, z_g0, z_le0, z_ge0, z_e0, z_e1, z_vp, z_nc, z_rem, z_div, i_ltT, i_ltF, i_leT, i_leF, i_eqT, i_eqF, n_ltT, n_ltF, n_leT, n_leF, n_eqT, n_eqF, tn_9, tn_12, tn_14, tn_20, tn_28, tn_44, tn_52, tn_68, tn_84, tn_100, tn_116, tn_132, fu_e, up_eq, ob_0, ob_b, oi_add, oi_sub, oi_mul, oi_neg, Int.add_zero, Int.zero_add, or_true, true_or, or_false, false_or, and_self, z_i2l, z_l2i, lo_nat, lo_add, lo_sub, lo_mul, lo_0, e_rem, mr_X10_multiply]
    have := hq w P B hO (FO.refl _ _) (by show TS A B (N + 12 * ((0 : Nat) : Int)); rw [show N + 12 * ((0 : Nat) : Int) = N by omega]; exact hT) rfl (fun h => h)
    simpa [a_mul] using this
  | cons x l ih =>
    intro i P A B t N w hi hm hl hT h5 h8 hc hN ht hO hP hq
    have hF := hO.F
    have hV := hO.V
    have hge := hO.ge
    have b5 : B 5 = 0 := hT.2.1.2.1.trans h5
    rw [List.length_cons] at hi hc hN hl
    have hz := hT.1.sz
    have hx : x = dg1 s (pv s v i) := by have := hl 0 (by omega); simpa using this
    have hxb := dg1_b (s := s) (v := pv s v i)
    rw [← hx] at hxb
    have e7 := hP.2.2 i (by omega)
    rw [← hx] at e7
    have hne : ¬ a = o := by
      intro q
      have := hP.2.1
      rw [q, hO.1.1] at this
      exact absurd (congrArg Prod.fst this) (by decide)
    refine rt_X10_multiply_45 ?_
    simp (disch := omega) only [wp_c, wp_n, jj_n, v_ct, Int.reduceToNat, Int.toNat_natCast, stE, wlE, lgt, lpu, lpw, v_c2, va_s, true_and, and_true, Option.toList, List.nil_append, List.cons_append, List.take, List.drop, List.reverse, List.reverseAux, List.length_cons, List.length_nil, reduceCtorEq, false_implies, true_implies, forall_const, not_true_eq_false, not_false_eq_true, ite_true, ite_false, Bool.false_eq_true, I_I, J_J, Nat.add_left_cancel_iff, Nat.reduceEqDiff, Nat.add_eq_left, Nat.left_eq_add, false_and, and_false, Nat.reduceSub, Nat.sub_self, Nat.le_refl, Nat.zero_le, ge_iff_le, Nat.reduceAdd, Nat.reduceLeDiff, Nat.zero_add, Nat.reduceLT, z_lt, z_le, z_eq, z_l0, z_g0, z_le0, z_ge0, z_e0, z_e1, z_vp, z_nc, z_rem, z_div, i_ltT, i_ltF, i_leT, i_leF, i_eqT, i_eqF, n_ltT, n_ltF, n_leT, n_leF, n_eqT, n_eqF, tn_9, tn_12, tn_14, tn_20, tn_28, tn_44, tn_52, tn_68, tn_84, tn_100, tn_116, tn_132, fu_e, up_eq, ob_0, ob_b, oi_add, oi_sub, oi_mul, oi_neg, Int.add_zero, Int.zero_add, or_true, true_or, or_false, false_or, and_self, z_i2l, z_l2i, lo_nat, lo_add, lo_sub, lo_mul, lo_0, e_rem, hF, hV, b5, hne, hP.2.1, e7, mh_X10_multiply]
    try refine ⟨by omega, by omega, ?_⟩
    have hT1 := hT.c (c := (i : Int)) h5 (by omega) (by omega)
    have u : ∀ j, ¬ j = 4 → up A 4 (i : Int) j = A j := fun j hj => by rw [up_eq, if_neg hj]
    refine z_turns (hO.sc (v := (i : Int))) hT1 (by rw [u 8 (by omega)]; exact h8) (by omega) (by omega) ?_
    intro w1 P1 B1 m1 m2 m3 m4 m5 m6 m7
    have f1 : FO b w w1 := ((FO.refl _ _).I hge.1).trans m2
    generalize hr : a_many x.natAbs (up A 4 (i : Int)) (if x < 0 then -1 else 1) = r at m3 m5 m6 m7 ⊢
    have hww : (if x < 0 then (-1 : Int) else 1) = 1 ∨ (if x < 0 then (-1 : Int) else 1) = -1 := by split <;> simp
    have hrb : r.2 ≤ x.natAbs := by rw [← hr]; exact (many_5 hww x.natAbs _ hT1.1.1 (by rw [u 5 (by omega)]; exact h5)).2.2
    have hr5 := m3.1.j5
    have g1 : 420 - 60 * i - 60 = 420 - 60 * (i + 1) := by omega
    have g2 : 4872 - 696 * i - 696 = 4872 - 696 * (i + 1) := by omega
    simp (disch := omega) only [wp_c, wp_n, jj_n, v_ct, Int.reduceToNat, Int.toNat_natCast, stE, wlE, lgt, lpu, lpw, v_c2, va_s, true_and, and_true, Option.toList, List.nil_append, List.cons_append, List.take, List.drop, List.reverse, List.reverseAux, List.length_cons, List.length_nil, reduceCtorEq, false_implies, true_implies, forall_const, not_true_eq_false, not_false_eq_true, ite_true, ite_false, Bool.false_eq_true, I_I, J_J, Nat.add_left_cancel_iff, Nat.reduceEqDiff, Nat.add_eq_left, Nat.left_eq_add, false_and, and_false, Nat.reduceSub, Nat.sub_self, Nat.le_refl, Nat.zero_le, ge_iff_le, Nat.reduceAdd, Nat.reduceLeDiff, Nat.zero_add, Nat.reduceLT, z_lt, z_le, z_eq, z_l0, z_g0, z_le0, z_ge0, z_e0, z_e1, z_vp, z_nc, z_rem, z_div, i_ltT, i_ltF, i_leT, i_leF, i_eqT, i_eqF, n_ltT, n_ltF, n_leT, n_leF, n_eqT, n_eqF, tn_9, tn_12, tn_14, tn_20, tn_28, tn_44, tn_52, tn_68, tn_84, tn_100, tn_116, tn_132, fu_e, up_eq, ob_0, ob_b, oi_add, oi_sub, oi_mul, oi_neg, Int.add_zero, Int.zero_add, or_true, true_or, or_false, false_or, and_self, z_i2l, z_l2i, lo_nat, lo_add, lo_sub, lo_mul, lo_0, e_rem, g1, g2]
    have e0 : ∀ j, j < 4 → r.1 j = A j := fun j hj => by
      rw [← hr]
      have := (many_RI hww x.natAbs (up A 4 (i : Int)) hT1.1.1).2.1 j (by omega)
      rw [this, u _ (by omega)]
    by_cases hj : 0 < r.1 5
    · have hq' := hq w1 P1 B1 m1 f1
      rw [a_mul, hr, if_pos hj] at hq'
      have b5' := m3.2.1.2.1
      have hV1 := m1.V
      have hF1 := m1.F
      have hq2 := hq' ⟨m3.1, m3.2.1, m3.2.2.1, m3.2.2.2.1, by have := m3.2.2.2.2; simp only [List.length_cons]; omega⟩ (m4.trans (by rw [up_eq, if_neg (by omega)])) (fun h => m7 h.c)
      have hc1 : ((t : Int) + (r.2 : Nat)) = ((t + r.2 : Nat) : Int) := by omega
      by_cases hl0 : l = []
      · subst hl0
        refine rt_X10_multiply_45 ?_
        simp only [List.length_nil] at hi
        simp (disch := omega) only [wp_c, wp_n, jj_n, v_ct, Int.reduceToNat, Int.toNat_natCast, stE, wlE, lgt, lpu, lpw, v_c2, va_s, true_and, and_true, Option.toList, List.nil_append, List.cons_append, List.take, List.drop, List.reverse, List.reverseAux, List.length_cons, List.length_nil, reduceCtorEq, false_implies, true_implies, forall_const, not_true_eq_false, not_false_eq_true, ite_true, ite_false, Bool.false_eq_true, I_I, J_J, Nat.add_left_cancel_iff, Nat.reduceEqDiff, Nat.add_eq_left, Nat.left_eq_add, false_and, and_false, Nat.reduceSub, Nat.sub_self, Nat.le_refl, Nat.zero_le, ge_iff_le, Nat.reduceAdd, Nat.reduceLeDiff, Nat.zero_add, Nat.reduceLT, z_lt, z_le, z_eq, z_l0, z_g0, z_le0, z_ge0, z_e0, z_e1, z_vp, z_nc, z_rem, z_div, i_ltT, i_ltF, i_leT, i_leF, i_eqT, i_eqF, n_ltT, n_ltF, n_leT, n_leF, n_eqT, n_eqF, tn_9, tn_12, tn_14, tn_20, tn_28, tn_44, tn_52, tn_68, tn_84, tn_100, tn_116, tn_132, fu_e, up_eq, ob_0, ob_b, oi_add, oi_sub, oi_mul, oi_neg, Int.add_zero, Int.zero_add, or_true, true_or, or_false, false_or, and_self, z_i2l, z_l2i, lo_nat, lo_add, lo_sub, lo_mul, lo_0, e_rem]
        refine rt_X10_multiply_85 ?_
        simp (disch := omega) only [wp_c, wp_n, jj_n, v_ct, Int.reduceToNat, Int.toNat_natCast, stE, wlE, lgt, lpu, lpw, v_c2, va_s, true_and, and_true, Option.toList, List.nil_append, List.cons_append, List.take, List.drop, List.reverse, List.reverseAux, List.length_cons, List.length_nil, reduceCtorEq, false_implies, true_implies, forall_const, not_true_eq_false, not_false_eq_true, ite_true, ite_false, Bool.false_eq_true, I_I, J_J, Nat.add_left_cancel_iff, Nat.reduceEqDiff, Nat.add_eq_left, Nat.left_eq_add, false_and, and_false, Nat.reduceSub, Nat.sub_self, Nat.le_refl, Nat.zero_le, ge_iff_le, Nat.reduceAdd, Nat.reduceLeDiff, Nat.zero_add, Nat.reduceLT, z_lt, z_le, z_eq, z_l0, z_g0, z_le0, z_ge0, z_e0, z_e1, z_vp, z_nc, z_rem, z_div, i_ltT, i_ltF, i_leT, i_leF, i_eqT, i_eqF, n_ltT, n_ltF, n_leT, n_leF, n_eqT, n_eqF, tn_9, tn_12, tn_14, tn_20, tn_28, tn_44, tn_52, tn_68, tn_84, tn_100, tn_116, tn_132, fu_e, up_eq, ob_0, ob_b, oi_add, oi_sub, oi_mul, oi_neg, Int.add_zero, Int.zero_add, or_true, true_or, or_false, false_or, and_self, z_i2l, z_l2i, lo_nat, lo_add, lo_sub, lo_mul, lo_0, e_rem, mr_X10_multiply]
        exact hq2
      · have hlp : 0 < l.length := List.length_pos_iff.mpr hl0
        refine rt_X10_multiply_45 ?_
        simp (disch := omega) only [wp_c, wp_n, jj_n, v_ct, Int.reduceToNat, Int.toNat_natCast, stE, wlE, lgt, lpu, lpw, v_c2, va_s, true_and, and_true, Option.toList, List.nil_append, List.cons_append, List.take, List.drop, List.reverse, List.reverseAux, List.length_cons, List.length_nil, reduceCtorEq, false_implies, true_implies, forall_const, not_true_eq_false, not_false_eq_true, ite_true, ite_false, Bool.false_eq_true, I_I, J_J, Nat.add_left_cancel_iff, Nat.reduceEqDiff, Nat.add_eq_left, Nat.left_eq_add, false_and, and_false, Nat.reduceSub, Nat.sub_self, Nat.le_refl, Nat.zero_le, ge_iff_le, Nat.reduceAdd, Nat.reduceLeDiff, Nat.zero_add, Nat.reduceLT, z_lt, z_le, z_eq, z_l0, z_g0, z_le0, z_ge0, z_e0, z_e1, z_vp, z_nc, z_rem, z_div, i_ltT, i_ltF, i_leT, i_leF, i_eqT, i_eqF, n_ltT, n_ltF, n_leT, n_leF, n_eqT, n_eqF, tn_9, tn_12, tn_14, tn_20, tn_28, tn_44, tn_52, tn_68, tn_84, tn_100, tn_116, tn_132, fu_e, up_eq, ob_0, ob_b, oi_add, oi_sub, oi_mul, oi_neg, Int.add_zero, Int.zero_add, or_true, true_or, or_false, false_or, and_self, z_i2l, z_l2i, lo_nat, lo_add, lo_sub, lo_mul, lo_0, e_rem, hF1, hV1, b5']
        refine rt_X10_multiply_85 ?_
        simp (disch := omega) only [wp_c, wp_n, jj_n, v_ct, Int.reduceToNat, Int.toNat_natCast, stE, wlE, lgt, lpu, lpw, v_c2, va_s, true_and, and_true, Option.toList, List.nil_append, List.cons_append, List.take, List.drop, List.reverse, List.reverseAux, List.length_cons, List.length_nil, reduceCtorEq, false_implies, true_implies, forall_const, not_true_eq_false, not_false_eq_true, ite_true, ite_false, Bool.false_eq_true, I_I, J_J, Nat.add_left_cancel_iff, Nat.reduceEqDiff, Nat.add_eq_left, Nat.left_eq_add, false_and, and_false, Nat.reduceSub, Nat.sub_self, Nat.le_refl, Nat.zero_le, ge_iff_le, Nat.reduceAdd, Nat.reduceLeDiff, Nat.zero_add, Nat.reduceLT, z_lt, z_le, z_eq, z_l0, z_g0, z_le0, z_ge0, z_e0, z_e1, z_vp, z_nc, z_rem, z_div, i_ltT, i_ltF, i_leT, i_leF, i_eqT, i_eqF, n_ltT, n_ltF, n_leT, n_leF, n_eqT, n_eqF, tn_9, tn_12, tn_14, tn_20, tn_28, tn_44, tn_52, tn_68, tn_84, tn_100, tn_116, tn_132, fu_e, up_eq, ob_0, ob_b, oi_add, oi_sub, oi_mul, oi_neg, Int.add_zero, Int.zero_add, or_true, true_or, or_false, false_or, and_self, z_i2l, z_l2i, lo_nat, lo_add, lo_sub, lo_mul, lo_0, e_rem, mr_X10_multiply]
        exact hq2
    · have hA5 : r.1 5 = 0 := by omega
      have hc1 : ((t : Int) + (r.2 : Nat)) = ((t + r.2 : Nat) : Int) := by omega
      have := ih (i + 1) P1 r.1 B1 (t + r.2) (N + 12) w1 (by omega) hm (fun j hj => by
        have := hl (j + 1) (by omega)
        rw [List.getD_cons_succ] at this
        rw [this, show i + (j + 1) = i + 1 + j by omega]) m3 hA5 (by rw [m5, u 8 (by omega)]; exact h8) (by rw [e0 0 (by omega), e0 1 (by omega)]; omega) (by omega) (by omega) m1 (hP.fo f1) ?_
      · exact this
      · intro w2 P2 B2 k1 k2 k3 k4 k5
        have hq' := hq w2 P2 B2 k1 (f1.trans k2)
        rw [a_mul, hr, if_neg hj] at hq'
        exact hq' (by rw [List.length_cons, show N + 12 * ((l.length + 1 : Nat) : Int) = N + 12 + 12 * l.length by omega]; exact k3) (k4.trans (m4.trans (by rw [up_eq, if_neg (by omega)]))) (fun h => k5 (m7 h.c))
theorem z_multiply {b o : Nat} {P : Nat → Nat} {A B : Row} {v s N : Int} {w : mW} {Q : mW → mO → Prop} (hO : OW w b o P B) (hT : TS A B N) (h5 : A 5 = 0) (hv : 0 ≤ v ∧ v ≤ 999999) (hs : s = 0 ∨ s = 1) (hN : N ≤ 800000000)
  (hno : ¬ ((a_pl 7 v 0 s).length : Int) - 1 ≤ A 1 - A 0 → Q w (.inl (some (.int (Int32.ofInt (-1000))))))
  (hq : ((a_pl 7 v 0 s).length : Int) - 1 ≤ A 1 - A 0 → ∀ w' P' B', OW w' b o P' B' → FO b w w' → TS (a_mul (a_pl 7 v 0 s) 0 (up (up A 4 0) 8 0) 0).1 B' (N + 84) → B' 1000 = B 1000 → (LX A B → LX (a_mul (a_pl 7 v 0 s) 0 (up (up A 4 0) 8 0) 0).1 B') → Q w' (.inl (some (.int (Int32.ofInt (a_mul (a_pl 7 v 0 s) 0 (up (up A 4 0) 8 0) 0).2))))) :
  CT n_X10_multiply [.ref o, .int (Int32.ofInt v), .int (Int32.ofInt s)] w Q := by
  have hF := hO.F
  have hV := hO.V
  have hE := hO.E
  have hge := hO.ge
  have hlt := hO.lt
  have hz := hT.1.sz
  have hsz := hT.2.1.1.sz
  have hlen := (pl_r 7 v 0 s hv.1 (Or.inl rfl)).1
  refine ct_X10_multiply (rt_X10_multiply_0 ?_)
  simp (disch := omega) only [wp_c, wp_n, jj_n, v_ct, Int.reduceToNat, Int.toNat_natCast, stE, wlE, lgt, lpu, lpw, v_c2, va_s, true_and, and_true, Option.toList, List.nil_append, List.cons_append, List.take, List.drop, List.reverse, List.reverseAux, List.length_cons, List.length_nil, reduceCtorEq, false_implies, true_implies, forall_const, not_true_eq_false, not_false_eq_true, ite_true, ite_false, Bool.false_eq_true, I_I, J_J, Nat.add_left_cancel_iff, Nat.reduceEqDiff, Nat.add_eq_left, Nat.left_eq_add, false_and, and_false, Nat.reduceSub, Nat.sub_self, Nat.le_refl, Nat.zero_le, ge_iff_le, Nat.reduceAdd, Nat.reduceLeDiff, Nat.zero_add, Nat.reduceLT, z_lt, z_le, z_eq, z_l0, z_g0, z_le0, z_ge0, z_e0, z_e1, z_vp, z_nc, z_rem, z_div, i_ltT, i_ltF, i_leT, i_leF, i_eqT, i_eqF, n_ltT, n_ltF, n_leT, n_leF, n_eqT, n_eqF, tn_9, tn_12, tn_14, tn_20, tn_28, tn_44, tn_52, tn_68, tn_84, tn_100, tn_116, tn_132, fu_e, up_eq, ob_0, ob_b, oi_add, oi_sub, oi_mul, oi_neg, Int.add_zero, Int.zero_add, or_true, true_or, or_false, false_or, and_self, z_i2l, z_l2i, lo_nat, lo_add, lo_sub, lo_mul, lo_0, e_rem, hF.1, mh_X10_multiply]
  refine z_needed hv hs ?_
  simp (disch := omega) only [wp_c, wp_n, jj_n, v_ct, Int.reduceToNat, Int.toNat_natCast, stE, wlE, lgt, lpu, lpw, v_c2, va_s, true_and, and_true, Option.toList, List.nil_append, List.cons_append, List.take, List.drop, List.reverse, List.reverseAux, List.length_cons, List.length_nil, reduceCtorEq, false_implies, true_implies, forall_const, not_true_eq_false, not_false_eq_true, ite_true, ite_false, Bool.false_eq_true, I_I, J_J, Nat.add_left_cancel_iff, Nat.reduceEqDiff, Nat.add_eq_left, Nat.left_eq_add, false_and, and_false, Nat.reduceSub, Nat.sub_self, Nat.le_refl, Nat.zero_le, ge_iff_le, Nat.reduceAdd, Nat.reduceLeDiff, Nat.zero_add, Nat.reduceLT, z_lt, z_le, z_eq, z_l0, z_g0, z_le0, z_ge0, z_e0, z_e1, z_vp, z_nc, z_rem, z_div, i_ltT, i_ltF, i_leT, i_leF, i_eqT, i_eqF, n_ltT, n_ltF, n_leT, n_leF, n_eqT, n_eqF, tn_9, tn_12, tn_14, tn_20, tn_28, tn_44, tn_52, tn_68, tn_84, tn_100, tn_116, tn_132, fu_e, up_eq, ob_0, ob_b, oi_add, oi_sub, oi_mul, oi_neg, Int.add_zero, Int.zero_add, or_true, true_or, or_false, false_or, and_self, z_i2l, z_l2i, lo_nat, lo_add, lo_sub, lo_mul, lo_0, e_rem, hF, hV, hsz.1, hsz.2.1]
  generalize hl : (a_pl 7 v 0 s).length = n at hlen hno hq ⊢
  by_cases hn : (n : Int) - 1 ≤ A 1 - A 0
  · simp (disch := omega) only [wp_c, wp_n, jj_n, v_ct, Int.reduceToNat, Int.toNat_natCast, stE, wlE, lgt, lpu, lpw, v_c2, va_s, true_and, and_true, Option.toList, List.nil_append, List.cons_append, List.take, List.drop, List.reverse, List.reverseAux, List.length_cons, List.length_nil, reduceCtorEq, false_implies, true_implies, forall_const, not_true_eq_false, not_false_eq_true, ite_true, ite_false, Bool.false_eq_true, I_I, J_J, Nat.add_left_cancel_iff, Nat.reduceEqDiff, Nat.add_eq_left, Nat.left_eq_add, false_and, and_false, Nat.reduceSub, Nat.sub_self, Nat.le_refl, Nat.zero_le, ge_iff_le, Nat.reduceAdd, Nat.reduceLeDiff, Nat.zero_add, Nat.reduceLT, z_lt, z_le, z_eq, z_l0, z_g0, z_le0, z_ge0, z_e0, z_e1, z_vp, z_nc, z_rem, z_div, i_ltT, i_ltF, i_leT, i_leF, i_eqT, i_eqF, n_ltT, n_ltF, n_leT, n_leF, n_eqT, n_eqF, tn_9, tn_12, tn_14, tn_20, tn_28, tn_44, tn_52, tn_68, tn_84, tn_100, tn_116, tn_132, fu_e, up_eq, ob_0, ob_b, oi_add, oi_sub, oi_mul, oi_neg, Int.add_zero, Int.zero_add, or_true, true_or, or_false, false_or, and_self, z_i2l, z_l2i, lo_nat, lo_add, lo_sub, lo_mul, lo_0, e_rem]
    refine rt_X10_multiply_26 ?_
    simp (disch := omega) only [wp_c, wp_n, jj_n, v_ct, Int.reduceToNat, Int.toNat_natCast, stE, wlE, lgt, lpu, lpw, v_c2, va_s, true_and, and_true, Option.toList, List.nil_append, List.cons_append, List.take, List.drop, List.reverse, List.reverseAux, List.length_cons, List.length_nil, reduceCtorEq, false_implies, true_implies, forall_const, not_true_eq_false, not_false_eq_true, ite_true, ite_false, Bool.false_eq_true, I_I, J_J, Nat.add_left_cancel_iff, Nat.reduceEqDiff, Nat.add_eq_left, Nat.left_eq_add, false_and, and_false, Nat.reduceSub, Nat.sub_self, Nat.le_refl, Nat.zero_le, ge_iff_le, Nat.reduceAdd, Nat.reduceLeDiff, Nat.zero_add, Nat.reduceLT, z_lt, z_le, z_eq, z_l0, z_g0, z_le0, z_ge0, z_e0, z_e1, z_vp, z_nc, z_rem, z_div, i_ltT, i_ltF, i_leT, i_leF, i_eqT, i_eqF, n_ltT, n_ltF, n_leT, n_leF, n_eqT, n_eqF, tn_9, tn_12, tn_14, tn_20, tn_28, tn_44, tn_52, tn_68, tn_84, tn_100, tn_116, tn_132, fu_e, up_eq, ob_0, ob_b, oi_add, oi_sub, oi_mul, oi_neg, Int.add_zero, Int.zero_add, or_true, true_or, or_false, false_or, and_self, z_i2l, z_l2i, lo_nat, lo_add, lo_sub, lo_mul, lo_0, e_rem, hF.1, mh_X10_multiply]
    refine z_plan hv hs ?_
    intro w1 a a1 a2 a3 a4 f1
    have h1 := hO.ext f1
    have hF1 := h1.F
    simp (disch := omega) only [wp_c, wp_n, jj_n, v_ct, Int.reduceToNat, Int.toNat_natCast, stE, wlE, lgt, lpu, lpw, v_c2, va_s, true_and, and_true, Option.toList, List.nil_append, List.cons_append, List.take, List.drop, List.reverse, List.reverseAux, List.length_cons, List.length_nil, reduceCtorEq, false_implies, true_implies, forall_const, not_true_eq_false, not_false_eq_true, ite_true, ite_false, Bool.false_eq_true, I_I, J_J, Nat.add_left_cancel_iff, Nat.reduceEqDiff, Nat.add_eq_left, Nat.left_eq_add, false_and, and_false, Nat.reduceSub, Nat.sub_self, Nat.le_refl, Nat.zero_le, ge_iff_le, Nat.reduceAdd, Nat.reduceLeDiff, Nat.zero_add, Nat.reduceLT, z_lt, z_le, z_eq, z_l0, z_g0, z_le0, z_ge0, z_e0, z_e1, z_vp, z_nc, z_rem, z_div, i_ltT, i_ltF, i_leT, i_leF, i_eqT, i_eqF, n_ltT, n_ltF, n_leT, n_leF, n_eqT, n_eqF, tn_9, tn_12, tn_14, tn_20, tn_28, tn_44, tn_52, tn_68, tn_84, tn_100, tn_116, tn_132, fu_e, up_eq, ob_0, ob_b, oi_add, oi_sub, oi_mul, oi_neg, Int.add_zero, Int.zero_add, or_true, true_or, or_false, false_or, and_self, z_i2l, z_l2i, lo_nat, lo_add, lo_sub, lo_mul, lo_0, e_rem, hF1.1]
    have h2 := h1.sc (v := 0)
    have u : ∀ j, ¬ j = 4 → up A 4 0 j = A j := fun j hj => by rw [up_eq, if_neg hj]
    have u8 : ∀ j, ¬ j = 4 → ¬ j = 8 → up (up A 4 0) 8 0 j = A j := fun j hj h8 => by rw [up_eq, if_neg h8, u j hj]
    have hT2 := (hT.c (c := 0) h5 (by omega) (by omega)).d8 (v := 0) (by rw [u 5 (by omega)]; exact h5) (Or.inl rfl)
    have ha : ¬ a = o := by have := hlt.1; omega
    have hPA : PA (s_I w1 o 5 (Int32.ofInt 0)) a v s := ⟨a2, a3, fun j hj => by rw [I_I, if_neg (fun q => ha q.1)]; exact a4 j hj⟩
    have fb : FO b w (s_I w1 o 5 (Int32.ofInt 0)) := (f1.low (by have := hO.1.2.1; omega)).I hge.1
    have := z_mul_45 (b := b) (o := o) (a := a) (v := v) (s := s) (many := n) (Q := Q) hv hs (Z := 0) (a_pl 7 v 0 s) 0 P (up (up A 4 0) 8 0) (up B 4 0) 0 N (s_I w1 o 5 (Int32.ofInt 0)) (by rw [hl]; omega) (by omega) (fun j hj => by
      rw [pl_get s 7 j v 0 (by omega) hv.1 (Or.inl rfl), Int.add_zero, Nat.zero_add]) hT2 (by rw [u8 _ (by omega) (by omega)]; exact h5) (by rw [up_eq, if_pos rfl]) (by rw [hl, u8 _ (by omega) (by omega), u8 _ (by omega) (by omega)]; omega) (by rw [hl]; omega) (by omega) h2 hPA ?_
    · exact this
    · intro w2 P2 B2 k1 k2 k3 k4 k5
      exact hq hn w2 P2 B2 k1 (fb.trans k2) ⟨k3.1, k3.2.1, k3.2.2.1, k3.2.2.2.1, by have := k3.2.2.2.2; rw [hl] at this; omega⟩ (k4.trans (by rw [up_eq, if_neg (by omega)])) (fun h => k5 (h.c.d8))
  · simp (disch := omega) only [wp_c, wp_n, jj_n, v_ct, Int.reduceToNat, Int.toNat_natCast, stE, wlE, lgt, lpu, lpw, v_c2, va_s, true_and, and_true, Option.toList, List.nil_append, List.cons_append, List.take, List.drop, List.reverse, List.reverseAux, List.length_cons, List.length_nil, reduceCtorEq, false_implies, true_implies, forall_const, not_true_eq_false, not_false_eq_true, ite_true, ite_false, Bool.false_eq_true, I_I, J_J, Nat.add_left_cancel_iff, Nat.reduceEqDiff, Nat.add_eq_left, Nat.left_eq_add, false_and, and_false, Nat.reduceSub, Nat.sub_self, Nat.le_refl, Nat.zero_le, ge_iff_le, Nat.reduceAdd, Nat.reduceLeDiff, Nat.zero_add, Nat.reduceLT, z_lt, z_le, z_eq, z_l0, z_g0, z_le0, z_ge0, z_e0, z_e1, z_vp, z_nc, z_rem, z_div, i_ltT, i_ltF, i_leT, i_leF, i_eqT, i_eqF, n_ltT, n_ltF, n_leT, n_leF, n_eqT, n_eqF, tn_9, tn_12, tn_14, tn_20, tn_28, tn_44, tn_52, tn_68, tn_84, tn_100, tn_116, tn_132, fu_e, up_eq, ob_0, ob_b, oi_add, oi_sub, oi_mul, oi_neg, Int.add_zero, Int.zero_add, or_true, true_or, or_false, false_or, and_self, z_i2l, z_l2i, lo_nat, lo_add, lo_sub, lo_mul, lo_0, e_rem, mr_X10_multiply]
    exact hno hn
