/-! clearing -/
theorem clr_at {A : Row} {t : Int} (ht : 0 ≤ t ∧ t ≤ 3) : (∀ j, (a_clear A t).1 j = if ((28 ≤ j ∧ j < 44 ∨ 116 ≤ j ∧ j < 132) ∧ t < 2) ∨ ((44 ≤ j ∧ j < 52) ∧ (t = 0 ∨ t = 2)) ∨ ((20 ≤ j ∧ j < 28) ∧ (t = 0 ∨ t = 3)) then 0 else A j) ∧ (a_clear A t).2 = (if t < 2 then a_zc A 28 16 else 0) + (if t = 0 ∨ t = 2 then a_zc A 44 8 else 0) + (if t = 0 ∨ t = 3 then a_zc A 20 8 else 0) := by
  have zc : ∀ (X : Row) (lo n : Nat), (∀ i, i < n → X (lo + i) = A (lo + i)) → a_zc X lo n = a_zc A lo n := by
    intro X lo n
    induction n with
    | zero => intro _; rfl
    | succ n ih => intro h; rw [a_zc, a_zc, ih (fun i hi => h i (by omega)), h n (by omega)]
  have e1 : ∀ i, i < 8 → a_z 116 16 (a_z 28 16 A) (44 + i) = A (44 + i) := fun i hi => by unfold a_z; rw [if_neg (by omega), if_neg (by omega)]
  have e2 : ∀ i, i < 8 → a_z 116 16 (a_z 28 16 A) (20 + i) = A (20 + i) := fun i hi => by unfold a_z; rw [if_neg (by omega), if_neg (by omega)]
  have e3 : ∀ i, i < 8 → a_z 44 8 (a_z 116 16 (a_z 28 16 A)) (20 + i) = A (20 + i) := fun i hi => by unfold a_z; rw [if_neg (by omega), if_neg (by omega), if_neg (by omega)]
  rcases (show t = 0 ∨ t = 1 ∨ t = 2 ∨ t = 3 by omega) with rfl | rfl | rfl | rfl
  · have e : a_clear A 0 = (a_z 20 8 (a_z 44 8 (a_z 116 16 (a_z 28 16 A))), a_zc A 28 16 + a_zc (a_z 116 16 (a_z 28 16 A)) 44 8 + a_zc (a_z 44 8 (a_z 116 16 (a_z 28 16 A))) 20 8) := by simp [a_clear, a_c1, a_c2, a_c3]
    rw [e]
    refine ⟨fun j => ?_, ?_⟩
    · show a_z 20 8 (a_z 44 8 (a_z 116 16 (a_z 28 16 A))) j = _
      unfold a_z
      repeat' split
      all_goals first | rfl | omega
    · show _ + _ + _ = _
      rw [zc _ _ _ e1, zc _ _ _ e3, if_pos (by omega), if_pos (by omega), if_pos (by omega)]
  · have e : a_clear A 1 = (a_z 116 16 (a_z 28 16 A), a_zc A 28 16) := by simp [a_clear, a_c1, a_c2, a_c3]
    rw [e]
    refine ⟨fun j => ?_, ?_⟩
    · show a_z 116 16 (a_z 28 16 A) j = _
      unfold a_z
      repeat' split
      all_goals first | rfl | omega
    · show a_zc A 28 16 = _
      rw [if_pos (by omega), if_neg (by omega), if_neg (by omega)]; omega
  · have e : a_clear A 2 = (a_z 44 8 A, 0 + a_zc A 44 8) := by simp [a_clear, a_c1, a_c2, a_c3]
    rw [e]
    refine ⟨fun j => ?_, ?_⟩
    · show a_z 44 8 A j = _
      unfold a_z
      repeat' split
      all_goals first | rfl | omega
    · show 0 + a_zc A 44 8 = _
      rw [if_neg (by omega), if_pos (by omega), if_neg (by omega)]; omega
  · have e : a_clear A 3 = (a_z 20 8 A, 0 + a_zc A 20 8) := by simp [a_clear, a_c1, a_c2, a_c3]
    rw [e]
    refine ⟨fun j => ?_, ?_⟩
    · show a_z 20 8 A j = _
      unfold a_z
      repeat' split
      all_goals first | rfl | omega
    · show 0 + a_zc A 20 8 = _
      rw [if_neg (by omega), if_neg (by omega), if_pos (by omega)]; omega
theorem tn_z {f : Nat → Int} : ∀ (n : Nat), (∀ i, i < n → 0 ≤ f i ∧ f i ≤ 9) → tn f n = 0 → ∀ i, i < n → f i = 0 := by
  intro n
  induction n with
  | zero => intro _ _ i hi; omega
  | succ n ih =>
    intro h h0 i hi
    have hp : (0 : Int) < 10 ^ n := Int.pow_pos (by decide)
    have hb := tn_b f n (fun i hi => h i (by omega))
    have hn := h n (by omega)
    rw [tn] at h0
    have hm : 0 ≤ f n * 10 ^ n := Int.mul_nonneg hn.1 (Int.le_of_lt hp)
    have e0 : tn f n = 0 := by omega
    have e1 : f n * 10 ^ n = 0 := by omega
    by_cases q : i = n
    · subst q
      rcases Int.mul_eq_zero.mp e1 with r | r
      · exact r
      · omega
    · exact ih (fun i hi => h i (by omega)) e0 i (by omega)
/-- the counter, from a digit on -/
def ctv (A : Row) (j : Nat) : Int := tn (fun i => A (44 + (j + i))) (8 - j)
theorem ctv_s {A : Row} {j : Nat} (hj : j < 8) : ctv A j = A (44 + j) + 10 * ctv A (j + 1) := by
  unfold ctv
  rw [show 8 - j = (8 - (j + 1)) + 1 by omega, tn_first]
  congr 2
  exact tn_c _ (fun i hi => by rw [show j + (i + 1) = j + 1 + i by omega])
theorem tn_ex {f : Nat → Int} (n : Nat) : ∀ m : Nat, (∀ i, n ≤ i → f i = 0) → tn f (n + m) = tn f n := by
  intro m h
  induction m with
  | zero => rfl
  | succ m ih => rw [← Nat.add_assoc, tn, ih, h _ (by omega), Int.zero_mul, Int.add_zero]
theorem ctv_0 {A : Row} (h2 : 0 ≤ A 2 ∧ A 2 ≤ 8) (hz : ∀ j : Nat, j < 8 → A 2 ≤ j → A (44 + j) = 0) : ctv A 0 = k_num A := by
  unfold ctv k_num
  rw [hn_tn, Int.zero_mul, Int.zero_add]
  obtain ⟨k, hk⟩ : ∃ k : Nat, A 2 = k := ⟨(A 2).toNat, by omega⟩
  rw [show (A 2).toNat = k by omega, show 8 - 0 = k + (8 - k) by omega]
  have e : ∀ n, tn (fun i => A (44 + (0 + i))) n = tn (fun i => A (44 + i)) n := fun n => tn_c _ (fun i _ => by rw [Nat.zero_add])
  rw [e]
  have : ∀ m, k + m ≤ 8 → tn (fun i => A (44 + i)) (k + m) = tn (fun i => A (44 + i)) k := by
    intro m
    induction m with
    | zero => intro _; rfl
    | succ m ih => intro hm; rw [← Nat.add_assoc, tn, ih (by omega), hz (k + m) (by omega) (by omega), Int.zero_mul, Int.add_zero]
  exact this _ (by omega)
theorem ctv_b {A : Row} (hd : ∀ j, j < 8 → 0 ≤ A (44 + j) ∧ A (44 + j) ≤ 9) (j : Nat) (hj : j ≤ 8) : 0 ≤ ctv A j ∧ ctv A j < 100000000 := by
  have := tn_b (fun i => A (44 + (j + i))) (8 - j) (fun i hi => hd (j + i) (by omega))
  have hp := p8 (8 - j) (by omega)
  unfold ctv
  omega
theorem zc_b' (A : Row) (lo n : Nat) : 0 ≤ a_zc A lo n ∧ a_zc A lo n ≤ n := zc_b A lo n
theorem zc_rest {A : Row} {lo j : Nat} : ∀ m : Nat, (∀ i, j ≤ i → i < j + m → A (lo + i) = 0) → a_zc A lo (j + m) = a_zc A lo j := by
  intro m
  induction m with
  | zero => intro _; rfl
  | succ m ih =>
    intro h
    rw [← Nat.add_assoc, a_zc, ih (fun i h1 h2 => h i h1 (by omega)), h (j + m) (by omega) (by omega), if_pos rfl, Int.add_zero]
section
variable {b o : Nat} {P : Nat → Nat} {A B : Row} {t : Int} {w : mW} {g : mG} {Q : mW → mO → Prop}
theorem z_cl_4 (hO : OW w b o P B) (ht : 0 ≤ t ∧ t < 2) (hd : ∀ j, j < 16 → B (28 + j) = A (28 + j) ∧ 0 ≤ A (28 + j) ∧ A (28 + j) ≤ 9) (hq : ∀ v3 v4, RT n_X10_clear 38 [.ref o, .int (Int32.ofInt t), .int (Int32.ofInt (a_zc A 28 16)), v3, v4] [] w g Q) : ∀ (n i : Nat) (v4 : Value), i + n = 16 → RT n_X10_clear 4 [.ref o, .int (Int32.ofInt t), .int (Int32.ofInt (a_zc A 28 i)), .int (Int32.ofInt i), v4] [] w g Q := by
  have hF := hO.F
  have hV := hO.V
  intro n
  induction n with
  | zero =>
    intro i v4 hi
    have e : i = 16 := by omega
    subst e
    refine rt_X10_clear_4 ?_
    simp (disch := omega) only [wp_c, wp_n, jj_n, v_ct, Int.reduceToNat, Int.toNat_natCast, stE, wlE, lgt, lpu, lpw, v_c2, va_s, true_and, and_true, Option.toList, List.nil_append, List.cons_append, List.take, List.drop, List.reverse, List.reverseAux, List.length_cons, List.length_nil, reduceCtorEq, false_implies, true_implies, forall_const, not_true_eq_false, not_false_eq_true, ite_true, ite_false, Bool.false_eq_true, I_I, J_J, Nat.add_left_cancel_iff, Nat.reduceEqDiff, Nat.add_eq_left, Nat.left_eq_add, false_and, and_false, Nat.reduceSub, Nat.sub_self, Nat.le_refl, Nat.zero_le, ge_iff_le, Nat.reduceAdd, Nat.reduceLeDiff, Nat.zero_add, Nat.reduceLT, z_lt, z_le, z_eq, z_l0, z_g0, z_le0, z_ge0, z_e0, z_e1, z_vp, z_nc, z_rem, z_div, i_ltT, i_ltF, i_leT, i_leF, i_eqT, i_eqF, n_ltT, n_ltF, n_leT, n_leF, n_eqT, n_eqF, tn_9, tn_12, tn_14, tn_20, tn_28, tn_44, tn_52, tn_68, tn_84, tn_100, tn_116, tn_132, fu_e, up_eq, ob_0, ob_b, oi_add, oi_sub, oi_mul, oi_neg, Int.add_zero, Int.zero_add, or_true, true_or, or_false, false_or, and_self, z_i2l, z_l2i, lo_nat, lo_add, lo_sub, lo_mul, lo_0, e_rem]
    exact hq _ _
  | succ n ih =>
    intro i v4 hi
    obtain ⟨d1, d2⟩ := hd i (by omega)
    have hz := zc_b A 28 i
    refine rt_X10_clear_4 ?_
    simp (disch := omega) only [wp_c, wp_n, jj_n, v_ct, Int.reduceToNat, Int.toNat_natCast, stE, wlE, lgt, lpu, lpw, v_c2, va_s, true_and, and_true, Option.toList, List.nil_append, List.cons_append, List.take, List.drop, List.reverse, List.reverseAux, List.length_cons, List.length_nil, reduceCtorEq, false_implies, true_implies, forall_const, not_true_eq_false, not_false_eq_true, ite_true, ite_false, Bool.false_eq_true, I_I, J_J, Nat.add_left_cancel_iff, Nat.reduceEqDiff, Nat.add_eq_left, Nat.left_eq_add, false_and, and_false, Nat.reduceSub, Nat.sub_self, Nat.le_refl, Nat.zero_le, ge_iff_le, Nat.reduceAdd, Nat.reduceLeDiff, Nat.zero_add, Nat.reduceLT, z_lt, z_le, z_eq, z_l0, z_g0, z_le0, z_ge0, z_e0, z_e1, z_vp, z_nc, z_rem, z_div, i_ltT, i_ltF, i_leT, i_leF, i_eqT, i_eqF, n_ltT, n_ltF, n_leT, n_leF, n_eqT, n_eqF, tn_9, tn_12, tn_14, tn_20, tn_28, tn_44, tn_52, tn_68, tn_84, tn_100, tn_116, tn_132, fu_e, up_eq, ob_0, ob_b, oi_add, oi_sub, oi_mul, oi_neg, Int.add_zero, Int.zero_add, or_true, true_or, or_false, false_or, and_self, z_i2l, z_l2i, lo_nat, lo_add, lo_sub, lo_mul, lo_0, e_rem, hF, hV, d1]
    have h30 : RT n_X10_clear 30 [.ref o, .int (Int32.ofInt t), .int (Int32.ofInt (a_zc A 28 i)), .int (Int32.ofInt i), v4] [.int (Int32.ofInt (if A (28 + i) = 0 then 0 else 1)), .int (Int32.ofInt (a_zc A 28 i))] w g Q := by
      refine rt_X10_clear_30 ?_
      simp (disch := omega) only [wp_c, wp_n, jj_n, v_ct, Int.reduceToNat, Int.toNat_natCast, stE, wlE, lgt, lpu, lpw, v_c2, va_s, true_and, and_true, Option.toList, List.nil_append, List.cons_append, List.take, List.drop, List.reverse, List.reverseAux, List.length_cons, List.length_nil, reduceCtorEq, false_implies, true_implies, forall_const, not_true_eq_false, not_false_eq_true, ite_true, ite_false, Bool.false_eq_true, I_I, J_J, Nat.add_left_cancel_iff, Nat.reduceEqDiff, Nat.add_eq_left, Nat.left_eq_add, false_and, and_false, Nat.reduceSub, Nat.sub_self, Nat.le_refl, Nat.zero_le, ge_iff_le, Nat.reduceAdd, Nat.reduceLeDiff, Nat.zero_add, Nat.reduceLT, z_lt, z_le, z_eq, z_l0, z_g0, z_le0, z_ge0, z_e0, z_e1, z_vp, z_nc, z_rem, z_div, i_ltT, i_ltF, i_leT, i_leF, i_eqT, i_eqF, n_ltT, n_ltF, n_leT, n_leF, n_eqT, n_eqF, tn_9, tn_12, tn_14, tn_20, tn_28, tn_44, tn_52, tn_68, tn_84, tn_100, tn_116, tn_132, fu_e, up_eq, ob_0, ob_b, oi_add, oi_sub, oi_mul, oi_neg, Int.add_zero, Int.zero_add, or_true, true_or, or_false, false_or, and_self, z_i2l, z_l2i, lo_nat, lo_add, lo_sub, lo_mul, lo_0, e_rem]
      exact ih (i + 1) v4 (by omega)
    by_cases q : A (28 + i) = 0
    · simp (disch := omega) only [wp_c, wp_n, jj_n, v_ct, Int.reduceToNat, Int.toNat_natCast, stE, wlE, lgt, lpu, lpw, v_c2, va_s, true_and, and_true, Option.toList, List.nil_append, List.cons_append, List.take, List.drop, List.reverse, List.reverseAux, List.length_cons, List.length_nil, reduceCtorEq, false_implies, true_implies, forall_const, not_true_eq_false, not_false_eq_true, ite_true, ite_false, Bool.false_eq_true, I_I, J_J, Nat.add_left_cancel_iff, Nat.reduceEqDiff, Nat.add_eq_left, Nat.left_eq_add, false_and, and_false, Nat.reduceSub, Nat.sub_self, Nat.le_refl, Nat.zero_le, ge_iff_le, Nat.reduceAdd, Nat.reduceLeDiff, Nat.zero_add, Nat.reduceLT, z_lt, z_le, z_eq, z_l0, z_g0, z_le0, z_ge0, z_e0, z_e1, z_vp, z_nc, z_rem, z_div, i_ltT, i_ltF, i_leT, i_leF, i_eqT, i_eqF, n_ltT, n_ltF, n_leT, n_leF, n_eqT, n_eqF, tn_9, tn_12, tn_14, tn_20, tn_28, tn_44, tn_52, tn_68, tn_84, tn_100, tn_116, tn_132, fu_e, up_eq, ob_0, ob_b, oi_add, oi_sub, oi_mul, oi_neg, Int.add_zero, Int.zero_add, or_true, true_or, or_false, false_or, and_self, z_i2l, z_l2i, lo_nat, lo_add, lo_sub, lo_mul, lo_0, e_rem]
      refine rt_X10_clear_29 ?_
      simp (disch := omega) only [wp_c, wp_n, jj_n, v_ct, Int.reduceToNat, Int.toNat_natCast, stE, wlE, lgt, lpu, lpw, v_c2, va_s, true_and, and_true, Option.toList, List.nil_append, List.cons_append, List.take, List.drop, List.reverse, List.reverseAux, List.length_cons, List.length_nil, reduceCtorEq, false_implies, true_implies, forall_const, not_true_eq_false, not_false_eq_true, ite_true, ite_false, Bool.false_eq_true, I_I, J_J, Nat.add_left_cancel_iff, Nat.reduceEqDiff, Nat.add_eq_left, Nat.left_eq_add, false_and, and_false, Nat.reduceSub, Nat.sub_self, Nat.le_refl, Nat.zero_le, ge_iff_le, Nat.reduceAdd, Nat.reduceLeDiff, Nat.zero_add, Nat.reduceLT, z_lt, z_le, z_eq, z_l0, z_g0, z_le0, z_ge0, z_e0, z_e1, z_vp, z_nc, z_rem, z_div, i_ltT, i_ltF, i_leT, i_leF, i_eqT, i_eqF, n_ltT, n_ltF, n_leT, n_leF, n_eqT, n_eqF, tn_9, tn_12, tn_14, tn_20, tn_28, tn_44, tn_52, tn_68, tn_84, tn_100, tn_116, tn_132, fu_e, up_eq, ob_0, ob_b, oi_add, oi_sub, oi_mul, oi_neg, Int.add_zero, Int.zero_add, or_true, true_or, or_false, false_or, and_self, z_i2l, z_l2i, lo_nat, lo_add, lo_sub, lo_mul, lo_0, e_rem]
      rw [if_pos q] at h30
      exact h30
    · simp (disch := omega) only [wp_c, wp_n, jj_n, v_ct, Int.reduceToNat, Int.toNat_natCast, stE, wlE, lgt, lpu, lpw, v_c2, va_s, true_and, and_true, Option.toList, List.nil_append, List.cons_append, List.take, List.drop, List.reverse, List.reverseAux, List.length_cons, List.length_nil, reduceCtorEq, false_implies, true_implies, forall_const, not_true_eq_false, not_false_eq_true, ite_true, ite_false, Bool.false_eq_true, I_I, J_J, Nat.add_left_cancel_iff, Nat.reduceEqDiff, Nat.add_eq_left, Nat.left_eq_add, false_and, and_false, Nat.reduceSub, Nat.sub_self, Nat.le_refl, Nat.zero_le, ge_iff_le, Nat.reduceAdd, Nat.reduceLeDiff, Nat.zero_add, Nat.reduceLT, z_lt, z_le, z_eq, z_l0, z_g0, z_le0, z_ge0, z_e0, z_e1, z_vp, z_nc, z_rem, z_div, i_ltT, i_ltF, i_leT, i_leF, i_eqT, i_eqF, n_ltT, n_ltF, n_leT, n_leF, n_eqT, n_eqF, tn_9, tn_12, tn_14, tn_20, tn_28, tn_44, tn_52, tn_68, tn_84, tn_100, tn_116, tn_132, fu_e, up_eq, ob_0, ob_b, oi_add, oi_sub, oi_mul, oi_neg, Int.add_zero, Int.zero_add, or_true, true_or, or_false, false_or, and_self, z_i2l, z_l2i, lo_nat, lo_add, lo_sub, lo_mul, lo_0, e_rem]
      rw [if_neg q] at h30
      exact h30
theorem z_cl_43 (hd : ∀ j, j < 8 → 0 ≤ A (44 + j) ∧ A (44 + j) ≤ 9) (ht : t = 0 ∨ t = 2) {D : Int} (hD : 0 ≤ D ∧ D ≤ 100) (hq : ∀ v3 v4, RT n_X10_clear 85 [.ref o, .int (Int32.ofInt t), .int (Int32.ofInt (D + a_zc A 44 8)), v3, v4] [] w g Q) : ∀ (n j : Nat), j + n = 8 → RT n_X10_clear 43 [.ref o, .int (Int32.ofInt t), .int (Int32.ofInt (D + a_zc A 44 j)), .long (Int64.ofInt (ctv A j)), .null] [] w g Q := by
  intro n
  induction n with
  | zero =>
    intro j hj
    have e : j = 8 := by omega
    subst e
    have e0 : ctv A 8 = 0 := rfl
    refine rt_X10_clear_43 ?_
    have hc : ¬ lg_cmp (Int64.ofInt 0) 0 > 0 := by decide
    simp (disch := omega) only [wp_c, wp_n, jj_n, v_ct, Int.reduceToNat, Int.toNat_natCast, stE, wlE, lgt, lpu, lpw, v_c2, va_s, true_and, and_true, Option.toList, List.nil_append, List.cons_append, List.take, List.drop, List.reverse, List.reverseAux, List.length_cons, List.length_nil, reduceCtorEq, false_implies, true_implies, forall_const, not_true_eq_false, not_false_eq_true, ite_true, ite_false, Bool.false_eq_true, I_I, J_J, Nat.add_left_cancel_iff, Nat.reduceEqDiff, Nat.add_eq_left, Nat.left_eq_add, false_and, and_false, Nat.reduceSub, Nat.sub_self, Nat.le_refl, Nat.zero_le, ge_iff_le, Nat.reduceAdd, Nat.reduceLeDiff, Nat.zero_add, Nat.reduceLT, z_lt, z_le, z_eq, z_l0, z_g0, z_le0, z_ge0, z_e0, z_e1, z_vp, z_nc, z_rem, z_div, i_ltT, i_ltF, i_leT, i_leF, i_eqT, i_eqF, n_ltT, n_ltF, n_leT, n_leF, n_eqT, n_eqF, tn_9, tn_12, tn_14, tn_20, tn_28, tn_44, tn_52, tn_68, tn_84, tn_100, tn_116, tn_132, fu_e, up_eq, ob_0, ob_b, oi_add, oi_sub, oi_mul, oi_neg, Int.add_zero, Int.zero_add, or_true, true_or, or_false, false_or, and_self, z_i2l, z_l2i, lo_nat, lo_add, lo_sub, lo_mul, lo_0, e_rem, e0]
    first | exact hq _ _ | (refine ⟨fun _ => hq _ _, fun q => absurd q ?_⟩; decide)
  | succ n ih =>
    intro j hj
    have hb := ctv_b hd j (by omega)
    have hb1 := ctv_b hd (j + 1) (by omega)
    have hs := ctv_s (A := A) (j := j) (by omega)
    have hdj := hd j (by omega)
    have hz := zc_b A 44 j
    by_cases h0 : ctv A j = 0
    · have hall : ∀ i, j ≤ i → i < j + (8 - j) → A (44 + i) = 0 := by
        intro i h1 h2
        have := tn_z (f := fun i => A (44 + (j + i))) (8 - j) (fun i hi => hd (j + i) (by omega)) h0 (i - j) (by omega)
        simp only [show j + (i - j) = i by omega] at this
        exact this
      have ez := zc_rest (A := A) (lo := 44) (j := j) (8 - j) hall
      rw [show j + (8 - j) = 8 by omega] at ez
      refine rt_X10_clear_43 ?_
      simp (disch := omega) only [wp_c, wp_n, jj_n, v_ct, Int.reduceToNat, Int.toNat_natCast, stE, wlE, lgt, lpu, lpw, v_c2, va_s, true_and, and_true, Option.toList, List.nil_append, List.cons_append, List.take, List.drop, List.reverse, List.reverseAux, List.length_cons, List.length_nil, reduceCtorEq, false_implies, true_implies, forall_const, not_true_eq_false, not_false_eq_true, ite_true, ite_false, Bool.false_eq_true, I_I, J_J, Nat.add_left_cancel_iff, Nat.reduceEqDiff, Nat.add_eq_left, Nat.left_eq_add, false_and, and_false, Nat.reduceSub, Nat.sub_self, Nat.le_refl, Nat.zero_le, ge_iff_le, Nat.reduceAdd, Nat.reduceLeDiff, Nat.zero_add, Nat.reduceLT, z_lt, z_le, z_eq, z_l0, z_g0, z_le0, z_ge0, z_e0, z_e1, z_vp, z_nc, z_rem, z_div, i_ltT, i_ltF, i_leT, i_leF, i_eqT, i_eqF, n_ltT, n_ltF, n_leT, n_leF, n_eqT, n_eqF, tn_9, tn_12, tn_14, tn_20, tn_28, tn_44, tn_52, tn_68, tn_84, tn_100, tn_116, tn_132, fu_e, up_eq, ob_0, ob_b, oi_add, oi_sub, oi_mul, oi_neg, Int.add_zero, Int.zero_add, or_true, true_or, or_false, false_or, and_self, z_i2l, z_l2i, lo_nat, lo_add, lo_sub, lo_mul, lo_0, e_rem, h0]
      rw [← ez]
      first | exact hq _ _ | (refine ⟨fun _ => hq _ _, fun q => absurd q ?_⟩; decide)
    · have hp : lg_cmp (Int64.ofInt (ctv A j)) (Int64.ofInt 0) = 1 := by
        unfold lg_cmp
        rw [if_pos ((lo_lt ⟨by omega, by omega⟩ ⟨by omega, by omega⟩).mpr (by omega))]
      have hrem : Int64.ofInt (ctv A j) - Int64.ofInt (ctv A j) / Int64.ofInt ((10 : Nat) : Int) * Int64.ofInt ((10 : Nat) : Int) = Int64.ofInt (A (44 + j)) := by
        rw [lo_remp ⟨by omega, by omega⟩ ⟨by omega, by omega⟩ (by omega) (by omega)]
        congr 1; omega
      have hdiv : Int64.ofInt (ctv A j) / Int64.ofInt ((10 : Nat) : Int) = Int64.ofInt (ctv A (j + 1)) := by
        rw [lo_divp ⟨by omega, by omega⟩ ⟨by omega, by omega⟩ (by omega) (by omega)]
        congr 1; omega
      have h74 : RT n_X10_clear 74 [.ref o, .int (Int32.ofInt t), .int (Int32.ofInt (D + a_zc A 44 j)), .long (Int64.ofInt (ctv A j)), .null] [.int (Int32.ofInt (if A (44 + j) = 0 then 0 else 1)), .int (Int32.ofInt (D + a_zc A 44 j))] w g Q := by
        have hne : ¬ Int64.ofInt ((10 : Nat) : Int) = Int64.ofInt 0 := by decide
        refine rt_X10_clear_74 ?_
        simp (disch := omega) only [wp_c, wp_n, jj_n, v_ct, Int.reduceToNat, Int.toNat_natCast, stE, wlE, lgt, lpu, lpw, v_c2, va_s, true_and, and_true, Option.toList, List.nil_append, List.cons_append, List.take, List.drop, List.reverse, List.reverseAux, List.length_cons, List.length_nil, reduceCtorEq, false_implies, true_implies, forall_const, not_true_eq_false, not_false_eq_true, ite_true, ite_false, Bool.false_eq_true, I_I, J_J, Nat.add_left_cancel_iff, Nat.reduceEqDiff, Nat.add_eq_left, Nat.left_eq_add, false_and, and_false, Nat.reduceSub, Nat.sub_self, Nat.le_refl, Nat.zero_le, ge_iff_le, Nat.reduceAdd, Nat.reduceLeDiff, Nat.zero_add, Nat.reduceLT, z_lt, z_le, z_eq, z_l0, z_g0, z_le0, z_ge0, z_e0, z_e1, z_vp, z_nc, z_rem, z_div, i_ltT, i_ltF, i_leT, i_leF, i_eqT, i_eqF, n_ltT, n_ltF, n_leT, n_leF, n_eqT, n_eqF, tn_9, tn_12, tn_14, tn_20, tn_28, tn_44, tn_52, tn_68, tn_84, tn_100, tn_116, tn_132, fu_e, up_eq, ob_0, ob_b, oi_add, oi_sub, oi_mul, oi_neg, Int.add_zero, Int.zero_add, or_true, true_or, or_false, false_or, and_self, z_i2l, z_l2i, lo_nat, lo_add, lo_sub, lo_mul, lo_0, e_rem, hdiv, hne, hrem]
        have := ih (j + 1) (by omega)
        rw [a_zc, ← Int.add_assoc] at this
        first | exact this | exact ⟨hne, this⟩ | exact ⟨by decide, this⟩
      have h58 : RT n_X10_clear 58 [.ref o, .int (Int32.ofInt t), .int (Int32.ofInt (D + a_zc A 44 j)), .long (Int64.ofInt (ctv A j)), .null] [] w g Q := by
        refine rt_X10_clear_58 ?_
        have hne : ¬ Int64.ofInt ((10 : Nat) : Int) = Int64.ofInt 0 := by decide
        by_cases q : A (44 + j) = 0
        · have hl : lg_cmp (Int64.ofInt 0) (Int64.ofInt 0) = 0 := by decide
          rw [if_pos q] at h74
          have i00 : ((0 : Int32) ≤ 0) = True := eq_true (by decide)
          simp (disch := omega) only [wp_c, wp_n, jj_n, v_ct, Int.reduceToNat, Int.toNat_natCast, stE, wlE, lgt, lpu, lpw, v_c2, va_s, true_and, and_true, Option.toList, List.nil_append, List.cons_append, List.take, List.drop, List.reverse, List.reverseAux, List.length_cons, List.length_nil, reduceCtorEq, false_implies, true_implies, forall_const, not_true_eq_false, not_false_eq_true, ite_true, ite_false, Bool.false_eq_true, I_I, J_J, Nat.add_left_cancel_iff, Nat.reduceEqDiff, Nat.add_eq_left, Nat.left_eq_add, false_and, and_false, Nat.reduceSub, Nat.sub_self, Nat.le_refl, Nat.zero_le, ge_iff_le, Nat.reduceAdd, Nat.reduceLeDiff, Nat.zero_add, Nat.reduceLT, z_lt, z_le, z_eq, z_l0, z_g0, z_le0, z_ge0, z_e0, z_e1, z_vp, z_nc, z_rem, z_div, i_ltT, i_ltF, i_leT, i_leF, i_eqT, i_eqF, n_ltT, n_ltF, n_leT, n_leF, n_eqT, n_eqF, tn_9, tn_12, tn_14, tn_20, tn_28, tn_44, tn_52, tn_68, tn_84, tn_100, tn_116, tn_132, fu_e, up_eq, ob_0, ob_b, oi_add, oi_sub, oi_mul, oi_neg, Int.add_zero, Int.zero_add, or_true, true_or, or_false, false_or, and_self, z_i2l, z_l2i, lo_nat, lo_add, lo_sub, lo_mul, lo_0, e_rem, hrem, hne, q, hl, i00]
          refine rt_X10_clear_73 ?_
          simp (disch := omega) only [wp_c, wp_n, jj_n, v_ct, Int.reduceToNat, Int.toNat_natCast, stE, wlE, lgt, lpu, lpw, v_c2, va_s, true_and, and_true, Option.toList, List.nil_append, List.cons_append, List.take, List.drop, List.reverse, List.reverseAux, List.length_cons, List.length_nil, reduceCtorEq, false_implies, true_implies, forall_const, not_true_eq_false, not_false_eq_true, ite_true, ite_false, Bool.false_eq_true, I_I, J_J, Nat.add_left_cancel_iff, Nat.reduceEqDiff, Nat.add_eq_left, Nat.left_eq_add, false_and, and_false, Nat.reduceSub, Nat.sub_self, Nat.le_refl, Nat.zero_le, ge_iff_le, Nat.reduceAdd, Nat.reduceLeDiff, Nat.zero_add, Nat.reduceLT, z_lt, z_le, z_eq, z_l0, z_g0, z_le0, z_ge0, z_e0, z_e1, z_vp, z_nc, z_rem, z_div, i_ltT, i_ltF, i_leT, i_leF, i_eqT, i_eqF, n_ltT, n_ltF, n_leT, n_leF, n_eqT, n_eqF, tn_9, tn_12, tn_14, tn_20, tn_28, tn_44, tn_52, tn_68, tn_84, tn_100, tn_116, tn_132, fu_e, up_eq, ob_0, ob_b, oi_add, oi_sub, oi_mul, oi_neg, Int.add_zero, Int.zero_add, or_true, true_or, or_false, false_or, and_self, z_i2l, z_l2i, lo_nat, lo_add, lo_sub, lo_mul, lo_0, e_rem]
          exact h74
        · have hl : lg_cmp (Int64.ofInt (A (44 + j))) (Int64.ofInt 0) = 1 := by
            unfold lg_cmp
            rw [if_pos ((lo_lt ⟨by omega, by omega⟩ ⟨by omega, by omega⟩).mpr (by omega))]
          rw [if_neg q] at h74
          have i1 : ¬ (1 : Int32) ≤ 0 := by decide
          simp (disch := omega) only [wp_c, wp_n, jj_n, v_ct, Int.reduceToNat, Int.toNat_natCast, stE, wlE, lgt, lpu, lpw, v_c2, va_s, true_and, and_true, Option.toList, List.nil_append, List.cons_append, List.take, List.drop, List.reverse, List.reverseAux, List.length_cons, List.length_nil, reduceCtorEq, false_implies, true_implies, forall_const, not_true_eq_false, not_false_eq_true, ite_true, ite_false, Bool.false_eq_true, I_I, J_J, Nat.add_left_cancel_iff, Nat.reduceEqDiff, Nat.add_eq_left, Nat.left_eq_add, false_and, and_false, Nat.reduceSub, Nat.sub_self, Nat.le_refl, Nat.zero_le, ge_iff_le, Nat.reduceAdd, Nat.reduceLeDiff, Nat.zero_add, Nat.reduceLT, z_lt, z_le, z_eq, z_l0, z_g0, z_le0, z_ge0, z_e0, z_e1, z_vp, z_nc, z_rem, z_div, i_ltT, i_ltF, i_leT, i_leF, i_eqT, i_eqF, n_ltT, n_ltF, n_leT, n_leF, n_eqT, n_eqF, tn_9, tn_12, tn_14, tn_20, tn_28, tn_44, tn_52, tn_68, tn_84, tn_100, tn_116, tn_132, fu_e, up_eq, ob_0, ob_b, oi_add, oi_sub, oi_mul, oi_neg, Int.add_zero, Int.zero_add, or_true, true_or, or_false, false_or, and_self, z_i2l, z_l2i, lo_nat, lo_add, lo_sub, lo_mul, lo_0, e_rem, hrem, hne, hl, i1]
          exact h74
      have i1 : ¬ (1 : Int32) ≤ 0 := by decide
      refine rt_X10_clear_43 ?_
      rcases ht with rfl | rfl
      · simp (disch := omega) only [wp_c, wp_n, jj_n, v_ct, Int.reduceToNat, Int.toNat_natCast, stE, wlE, lgt, lpu, lpw, v_c2, va_s, true_and, and_true, Option.toList, List.nil_append, List.cons_append, List.take, List.drop, List.reverse, List.reverseAux, List.length_cons, List.length_nil, reduceCtorEq, false_implies, true_implies, forall_const, not_true_eq_false, not_false_eq_true, ite_true, ite_false, Bool.false_eq_true, I_I, J_J, Nat.add_left_cancel_iff, Nat.reduceEqDiff, Nat.add_eq_left, Nat.left_eq_add, false_and, and_false, Nat.reduceSub, Nat.sub_self, Nat.le_refl, Nat.zero_le, ge_iff_le, Nat.reduceAdd, Nat.reduceLeDiff, Nat.zero_add, Nat.reduceLT, z_lt, z_le, z_eq, z_l0, z_g0, z_le0, z_ge0, z_e0, z_e1, z_vp, z_nc, z_rem, z_div, i_ltT, i_ltF, i_leT, i_leF, i_eqT, i_eqF, n_ltT, n_ltF, n_leT, n_leF, n_eqT, n_eqF, tn_9, tn_12, tn_14, tn_20, tn_28, tn_44, tn_52, tn_68, tn_84, tn_100, tn_116, tn_132, fu_e, up_eq, ob_0, ob_b, oi_add, oi_sub, oi_mul, oi_neg, Int.add_zero, Int.zero_add, or_true, true_or, or_false, false_or, and_self, z_i2l, z_l2i, lo_nat, lo_add, lo_sub, lo_mul, lo_0, e_rem, hp, i1]
        exact h58
      · simp (disch := omega) only [wp_c, wp_n, jj_n, v_ct, Int.reduceToNat, Int.toNat_natCast, stE, wlE, lgt, lpu, lpw, v_c2, va_s, true_and, and_true, Option.toList, List.nil_append, List.cons_append, List.take, List.drop, List.reverse, List.reverseAux, List.length_cons, List.length_nil, reduceCtorEq, false_implies, true_implies, forall_const, not_true_eq_false, not_false_eq_true, ite_true, ite_false, Bool.false_eq_true, I_I, J_J, Nat.add_left_cancel_iff, Nat.reduceEqDiff, Nat.add_eq_left, Nat.left_eq_add, false_and, and_false, Nat.reduceSub, Nat.sub_self, Nat.le_refl, Nat.zero_le, ge_iff_le, Nat.reduceAdd, Nat.reduceLeDiff, Nat.zero_add, Nat.reduceLT, z_lt, z_le, z_eq, z_l0, z_g0, z_le0, z_ge0, z_e0, z_e1, z_vp, z_nc, z_rem, z_div, i_ltT, i_ltF, i_leT, i_leF, i_eqT, i_eqF, n_ltT, n_ltF, n_leT, n_leF, n_eqT, n_eqF, tn_9, tn_12, tn_14, tn_20, tn_28, tn_44, tn_52, tn_68, tn_84, tn_100, tn_116, tn_132, fu_e, up_eq, ob_0, ob_b, oi_add, oi_sub, oi_mul, oi_neg, Int.add_zero, Int.zero_add, or_true, true_or, or_false, false_or, and_self, z_i2l, z_l2i, lo_nat, lo_add, lo_sub, lo_mul, lo_0, e_rem, hp, i1]
        exact h58
theorem z_cl_87 (hO : OW w b o P B) (ht : t = 0 ∨ t = 3) (hd : ∀ j, j < 8 → B (20 + j) = A (20 + j) ∧ 0 ≤ A (20 + j) ∧ A (20 + j) ≤ 9) {D : Int} (hD : 0 ≤ D ∧ D ≤ 100) (hq : ∀ v3 v4, RT n_X10_clear 125 [.ref o, .int (Int32.ofInt t), .int (Int32.ofInt (D + a_zc A 20 8)), v3, v4] [] w g Q) : ∀ (n i : Nat) (v4 : Value), i + n = 8 → RT n_X10_clear 87 [.ref o, .int (Int32.ofInt t), .int (Int32.ofInt (D + a_zc A 20 i)), .int (Int32.ofInt i), v4] [] w g Q := by
  have hF := hO.F
  have hV := hO.V
  intro n
  induction n with
  | zero =>
    intro i v4 hi
    have e : i = 8 := by omega
    subst e
    refine rt_X10_clear_87 ?_
    simp (disch := omega) only [wp_c, wp_n, jj_n, v_ct, Int.reduceToNat, Int.toNat_natCast, stE, wlE, lgt, lpu, lpw, v_c2, va_s, true_and, and_true, Option.toList, List.nil_append, List.cons_append, List.take, List.drop, List.reverse, List.reverseAux, List.length_cons, List.length_nil, reduceCtorEq, false_implies, true_implies, forall_const, not_true_eq_false, not_false_eq_true, ite_true, ite_false, Bool.false_eq_true, I_I, J_J, Nat.add_left_cancel_iff, Nat.reduceEqDiff, Nat.add_eq_left, Nat.left_eq_add, false_and, and_false, Nat.reduceSub, Nat.sub_self, Nat.le_refl, Nat.zero_le, ge_iff_le, Nat.reduceAdd, Nat.reduceLeDiff, Nat.zero_add, Nat.reduceLT, z_lt, z_le, z_eq, z_l0, z_g0, z_le0, z_ge0, z_e0, z_e1, z_vp, z_nc, z_rem, z_div, i_ltT, i_ltF, i_leT, i_leF, i_eqT, i_eqF, n_ltT, n_ltF, n_leT, n_leF, n_eqT, n_eqF, tn_9, tn_12, tn_14, tn_20, tn_28, tn_44, tn_52, tn_68, tn_84, tn_100, tn_116, tn_132, fu_e, up_eq, ob_0, ob_b, oi_add, oi_sub, oi_mul, oi_neg, Int.add_zero, Int.zero_add, or_true, true_or, or_false, false_or, and_self, z_i2l, z_l2i, lo_nat, lo_add, lo_sub, lo_mul, lo_0, e_rem]
    exact hq _ _
  | succ n ih =>
    intro i v4 hi
    obtain ⟨d1, d2⟩ := hd i (by omega)
    have hz := zc_b A 20 i
    have h117 : RT n_X10_clear 117 [.ref o, .int (Int32.ofInt t), .int (Int32.ofInt (D + a_zc A 20 i)), .int (Int32.ofInt i), v4] [.int (Int32.ofInt (if A (20 + i) = 0 then 0 else 1)), .int (Int32.ofInt (D + a_zc A 20 i))] w g Q := by
      refine rt_X10_clear_117 ?_
      simp (disch := omega) only [wp_c, wp_n, jj_n, v_ct, Int.reduceToNat, Int.toNat_natCast, stE, wlE, lgt, lpu, lpw, v_c2, va_s, true_and, and_true, Option.toList, List.nil_append, List.cons_append, List.take, List.drop, List.reverse, List.reverseAux, List.length_cons, List.length_nil, reduceCtorEq, false_implies, true_implies, forall_const, not_true_eq_false, not_false_eq_true, ite_true, ite_false, Bool.false_eq_true, I_I, J_J, Nat.add_left_cancel_iff, Nat.reduceEqDiff, Nat.add_eq_left, Nat.left_eq_add, false_and, and_false, Nat.reduceSub, Nat.sub_self, Nat.le_refl, Nat.zero_le, ge_iff_le, Nat.reduceAdd, Nat.reduceLeDiff, Nat.zero_add, Nat.reduceLT, z_lt, z_le, z_eq, z_l0, z_g0, z_le0, z_ge0, z_e0, z_e1, z_vp, z_nc, z_rem, z_div, i_ltT, i_ltF, i_leT, i_leF, i_eqT, i_eqF, n_ltT, n_ltF, n_leT, n_leF, n_eqT, n_eqF, tn_9, tn_12, tn_14, tn_20, tn_28, tn_44, tn_52, tn_68, tn_84, tn_100, tn_116, tn_132, fu_e, up_eq, ob_0, ob_b, oi_add, oi_sub, oi_mul, oi_neg, Int.add_zero, Int.zero_add, or_true, true_or, or_false, false_or, and_self, z_i2l, z_l2i, lo_nat, lo_add, lo_sub, lo_mul, lo_0, e_rem]
      have := ih (i + 1) v4 (by omega)
      rw [a_zc, ← Int.add_assoc] at this
      exact this
    have h102 : RT n_X10_clear 102 [.ref o, .int (Int32.ofInt t), .int (Int32.ofInt (D + a_zc A 20 i)), .int (Int32.ofInt i), v4] [] w g Q := by
      refine rt_X10_clear_102 ?_
      simp (disch := omega) only [wp_c, wp_n, jj_n, v_ct, Int.reduceToNat, Int.toNat_natCast, stE, wlE, lgt, lpu, lpw, v_c2, va_s, true_and, and_true, Option.toList, List.nil_append, List.cons_append, List.take, List.drop, List.reverse, List.reverseAux, List.length_cons, List.length_nil, reduceCtorEq, false_implies, true_implies, forall_const, not_true_eq_false, not_false_eq_true, ite_true, ite_false, Bool.false_eq_true, I_I, J_J, Nat.add_left_cancel_iff, Nat.reduceEqDiff, Nat.add_eq_left, Nat.left_eq_add, false_and, and_false, Nat.reduceSub, Nat.sub_self, Nat.le_refl, Nat.zero_le, ge_iff_le, Nat.reduceAdd, Nat.reduceLeDiff, Nat.zero_add, Nat.reduceLT, z_lt, z_le, z_eq, z_l0, z_g0, z_le0, z_ge0, z_e0, z_e1, z_vp, z_nc, z_rem, z_div, i_ltT, i_ltF, i_leT, i_leF, i_eqT, i_eqF, n_ltT, n_ltF, n_leT, n_leF, n_eqT, n_eqF, tn_9, tn_12, tn_14, tn_20, tn_28, tn_44, tn_52, tn_68, tn_84, tn_100, tn_116, tn_132, fu_e, up_eq, ob_0, ob_b, oi_add, oi_sub, oi_mul, oi_neg, Int.add_zero, Int.zero_add, or_true, true_or, or_false, false_or, and_self, z_i2l, z_l2i, lo_nat, lo_add, lo_sub, lo_mul, lo_0, e_rem, hF, hV, d1]
      by_cases q : A (20 + i) = 0
      · simp (disch := omega) only [wp_c, wp_n, jj_n, v_ct, Int.reduceToNat, Int.toNat_natCast, stE, wlE, lgt, lpu, lpw, v_c2, va_s, true_and, and_true, Option.toList, List.nil_append, List.cons_append, List.take, List.drop, List.reverse, List.reverseAux, List.length_cons, List.length_nil, reduceCtorEq, false_implies, true_implies, forall_const, not_true_eq_false, not_false_eq_true, ite_true, ite_false, Bool.false_eq_true, I_I, J_J, Nat.add_left_cancel_iff, Nat.reduceEqDiff, Nat.add_eq_left, Nat.left_eq_add, false_and, and_false, Nat.reduceSub, Nat.sub_self, Nat.le_refl, Nat.zero_le, ge_iff_le, Nat.reduceAdd, Nat.reduceLeDiff, Nat.zero_add, Nat.reduceLT, z_lt, z_le, z_eq, z_l0, z_g0, z_le0, z_ge0, z_e0, z_e1, z_vp, z_nc, z_rem, z_div, i_ltT, i_ltF, i_leT, i_leF, i_eqT, i_eqF, n_ltT, n_ltF, n_leT, n_leF, n_eqT, n_eqF, tn_9, tn_12, tn_14, tn_20, tn_28, tn_44, tn_52, tn_68, tn_84, tn_100, tn_116, tn_132, fu_e, up_eq, ob_0, ob_b, oi_add, oi_sub, oi_mul, oi_neg, Int.add_zero, Int.zero_add, or_true, true_or, or_false, false_or, and_self, z_i2l, z_l2i, lo_nat, lo_add, lo_sub, lo_mul, lo_0, e_rem]
        refine rt_X10_clear_116 ?_
        simp (disch := omega) only [wp_c, wp_n, jj_n, v_ct, Int.reduceToNat, Int.toNat_natCast, stE, wlE, lgt, lpu, lpw, v_c2, va_s, true_and, and_true, Option.toList, List.nil_append, List.cons_append, List.take, List.drop, List.reverse, List.reverseAux, List.length_cons, List.length_nil, reduceCtorEq, false_implies, true_implies, forall_const, not_true_eq_false, not_false_eq_true, ite_true, ite_false, Bool.false_eq_true, I_I, J_J, Nat.add_left_cancel_iff, Nat.reduceEqDiff, Nat.add_eq_left, Nat.left_eq_add, false_and, and_false, Nat.reduceSub, Nat.sub_self, Nat.le_refl, Nat.zero_le, ge_iff_le, Nat.reduceAdd, Nat.reduceLeDiff, Nat.zero_add, Nat.reduceLT, z_lt, z_le, z_eq, z_l0, z_g0, z_le0, z_ge0, z_e0, z_e1, z_vp, z_nc, z_rem, z_div, i_ltT, i_ltF, i_leT, i_leF, i_eqT, i_eqF, n_ltT, n_ltF, n_leT, n_leF, n_eqT, n_eqF, tn_9, tn_12, tn_14, tn_20, tn_28, tn_44, tn_52, tn_68, tn_84, tn_100, tn_116, tn_132, fu_e, up_eq, ob_0, ob_b, oi_add, oi_sub, oi_mul, oi_neg, Int.add_zero, Int.zero_add, or_true, true_or, or_false, false_or, and_self, z_i2l, z_l2i, lo_nat, lo_add, lo_sub, lo_mul, lo_0, e_rem]
        rw [if_pos q] at h117
        exact h117
      · simp (disch := omega) only [wp_c, wp_n, jj_n, v_ct, Int.reduceToNat, Int.toNat_natCast, stE, wlE, lgt, lpu, lpw, v_c2, va_s, true_and, and_true, Option.toList, List.nil_append, List.cons_append, List.take, List.drop, List.reverse, List.reverseAux, List.length_cons, List.length_nil, reduceCtorEq, false_implies, true_implies, forall_const, not_true_eq_false, not_false_eq_true, ite_true, ite_false, Bool.false_eq_true, I_I, J_J, Nat.add_left_cancel_iff, Nat.reduceEqDiff, Nat.add_eq_left, Nat.left_eq_add, false_and, and_false, Nat.reduceSub, Nat.sub_self, Nat.le_refl, Nat.zero_le, ge_iff_le, Nat.reduceAdd, Nat.reduceLeDiff, Nat.zero_add, Nat.reduceLT, z_lt, z_le, z_eq, z_l0, z_g0, z_le0, z_ge0, z_e0, z_e1, z_vp, z_nc, z_rem, z_div, i_ltT, i_ltF, i_leT, i_leF, i_eqT, i_eqF, n_ltT, n_ltF, n_leT, n_leF, n_eqT, n_eqF, tn_9, tn_12, tn_14, tn_20, tn_28, tn_44, tn_52, tn_68, tn_84, tn_100, tn_116, tn_132, fu_e, up_eq, ob_0, ob_b, oi_add, oi_sub, oi_mul, oi_neg, Int.add_zero, Int.zero_add, or_true, true_or, or_false, false_or, and_self, z_i2l, z_l2i, lo_nat, lo_add, lo_sub, lo_mul, lo_0, e_rem]
        rw [if_neg q] at h117
        exact h117
    refine rt_X10_clear_87 ?_
    rcases ht with rfl | rfl
    · simp (disch := omega) only [wp_c, wp_n, jj_n, v_ct, Int.reduceToNat, Int.toNat_natCast, stE, wlE, lgt, lpu, lpw, v_c2, va_s, true_and, and_true, Option.toList, List.nil_append, List.cons_append, List.take, List.drop, List.reverse, List.reverseAux, List.length_cons, List.length_nil, reduceCtorEq, false_implies, true_implies, forall_const, not_true_eq_false, not_false_eq_true, ite_true, ite_false, Bool.false_eq_true, I_I, J_J, Nat.add_left_cancel_iff, Nat.reduceEqDiff, Nat.add_eq_left, Nat.left_eq_add, false_and, and_false, Nat.reduceSub, Nat.sub_self, Nat.le_refl, Nat.zero_le, ge_iff_le, Nat.reduceAdd, Nat.reduceLeDiff, Nat.zero_add, Nat.reduceLT, z_lt, z_le, z_eq, z_l0, z_g0, z_le0, z_ge0, z_e0, z_e1, z_vp, z_nc, z_rem, z_div, i_ltT, i_ltF, i_leT, i_leF, i_eqT, i_eqF, n_ltT, n_ltF, n_leT, n_leF, n_eqT, n_eqF, tn_9, tn_12, tn_14, tn_20, tn_28, tn_44, tn_52, tn_68, tn_84, tn_100, tn_116, tn_132, fu_e, up_eq, ob_0, ob_b, oi_add, oi_sub, oi_mul, oi_neg, Int.add_zero, Int.zero_add, or_true, true_or, or_false, false_or, and_self, z_i2l, z_l2i, lo_nat, lo_add, lo_sub, lo_mul, lo_0, e_rem]
      exact h102
    · simp (disch := omega) only [wp_c, wp_n, jj_n, v_ct, Int.reduceToNat, Int.toNat_natCast, stE, wlE, lgt, lpu, lpw, v_c2, va_s, true_and, and_true, Option.toList, List.nil_append, List.cons_append, List.take, List.drop, List.reverse, List.reverseAux, List.length_cons, List.length_nil, reduceCtorEq, false_implies, true_implies, forall_const, not_true_eq_false, not_false_eq_true, ite_true, ite_false, Bool.false_eq_true, I_I, J_J, Nat.add_left_cancel_iff, Nat.reduceEqDiff, Nat.add_eq_left, Nat.left_eq_add, false_and, and_false, Nat.reduceSub, Nat.sub_self, Nat.le_refl, Nat.zero_le, ge_iff_le, Nat.reduceAdd, Nat.reduceLeDiff, Nat.zero_add, Nat.reduceLT, z_lt, z_le, z_eq, z_l0, z_g0, z_le0, z_ge0, z_e0, z_e1, z_vp, z_nc, z_rem, z_div, i_ltT, i_ltF, i_leT, i_leF, i_eqT, i_eqF, n_ltT, n_ltF, n_leT, n_leF, n_eqT, n_eqF, tn_9, tn_12, tn_14, tn_20, tn_28, tn_44, tn_52, tn_68, tn_84, tn_100, tn_116, tn_132, fu_e, up_eq, ob_0, ob_b, oi_add, oi_sub, oi_mul, oi_neg, Int.add_zero, Int.zero_add, or_true, true_or, or_false, false_or, and_self, z_i2l, z_l2i, lo_nat, lo_add, lo_sub, lo_mul, lo_0, e_rem]
      exact h102
end
