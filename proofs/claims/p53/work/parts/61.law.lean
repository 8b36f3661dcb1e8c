/-! bytes are sent -/
theorem sr_at {x : Int} {s : Nat} (hs : s = 24 ∨ s = 16 ∨ s = 8 ∨ s = 0) (h : 0 ≤ x ∧ x ≤ 2147483647) : (Int32.ofInt x >>> (Int32.ofInt s &&& 31)).toInt = x / 2 ^ s := by
  have ht : (Int32.ofInt x).toBitVec.toInt = x := oi_to ⟨by omega, by omega⟩
  have key : ∀ (y : Int32) (n : Nat), (y.toBitVec.smod 32).toNat = n → (Int32.ofInt x >>> y).toInt = x / 2 ^ n := by
    intro y n hy
    show (Int32.ofInt x >>> y).toBitVec.toInt = _
    rw [Int32.toBitVec_shiftRight]
    show ((Int32.ofInt x).toBitVec.sshiftRight (y.toBitVec.smod 32).toNat).toInt = _
    rw [hy, BitVec.toInt_sshiftRight, ht, Int.shiftRight_eq_div_pow]
    rfl
  rcases hs with rfl | rfl | rfl | rfl
  · exact key _ 24 (by decide)
  · exact key _ 16 (by decide)
  · exact key _ 8 (by decide)
  · exact key _ 0 (by decide)
theorem fo4_b {w : mW} {a : Nat} {l : List Int} (h : BY w a l) (k : Nat) : (0 ≤ fo4 l k ∧ fo4 l k ≤ 2147483647) ∧ by8 (Int32.ofInt (fo4 l k)) 24 = cc l k ∧ by8 (Int32.ofInt (fo4 l k)) 16 = cc l (k + 1) ∧ by8 (Int32.ofInt (fo4 l k)) 8 = cc l (k + 2) ∧ by8 (Int32.ofInt (fo4 l k)) 0 = cc l (k + 3) := by
  have b0 := cc_b h k
  have b1 := cc_b h (k + 1)
  have b2 := cc_b h (k + 2)
  have b3 := cc_b h (k + 3)
  have hb : 0 ≤ fo4 l k ∧ fo4 l k ≤ 2147483647 := by unfold fo4; omega
  refine ⟨hb, ?_, ?_, ?_, ?_⟩
  · have := sr_at (s := 24) (by omega) hb
    unfold by8
    rw [show (Int32.ofInt (24 : Int)) = Int32.ofInt ((24 : Nat) : Int) from rfl, this]
    unfold fo4; omega
  · have := sr_at (s := 16) (by omega) hb
    unfold by8
    rw [show (Int32.ofInt (16 : Int)) = Int32.ofInt ((16 : Nat) : Int) from rfl, this]
    unfold fo4; omega
  · have := sr_at (s := 8) (by omega) hb
    unfold by8
    rw [show (Int32.ofInt (8 : Int)) = Int32.ofInt ((8 : Nat) : Int) from rfl, this]
    unfold fo4; omega
  · have := sr_at (s := 0) (by omega) hb
    unfold by8
    rw [show (Int32.ofInt (0 : Int)) = Int32.ofInt ((0 : Nat) : Int) from rfl, this]
    unfold fo4; omega
theorem ap4_lt (f : Nat → Int) (n : Nat) (x : Int32) (i : Nat) (h : i < n ∨ n + 4 ≤ i) : ap4 f n x i = f i := by
  unfold ap4
  rw [if_neg (by omega), if_neg (by omega), if_neg (by omega), if_neg (by omega)]
theorem ap4_at {w : mW} {a : Nat} {l : List Int} (h : BY w a l) (f : Nat → Int) (n i : Nat) (h1 : n ≤ i) (h2 : i < n + 4) : ap4 f n (Int32.ofInt (fo4 l n)) i = cc l i := by
  obtain ⟨-, e0, e1, e2, e3⟩ := fo4_b h n
  unfold ap4
  rcases (show i = n ∨ i = n + 1 ∨ i = n + 2 ∨ i = n + 3 by omega) with q | q | q | q
  · rw [if_pos q, e0, q]
  · rw [if_neg (by omega), if_pos q, e1, q]
  · rw [if_neg (by omega), if_neg (by omega), if_pos q, e2, q]
  · rw [if_neg (by omega), if_neg (by omega), if_neg (by omega), if_pos q, e3, q]
theorem ap20_at {w : mW} {a : Nat} {l : List Int} (h : BY w a l) (f : Nat → Int) (n i : Nat) : ap20 f n (Int32.ofInt (fo4 l n)) (Int32.ofInt (fo4 l (n + 4))) (Int32.ofInt (fo4 l (n + 8))) (Int32.ofInt (fo4 l (n + 12))) (Int32.ofInt (fo4 l (n + 16))) i = if n ≤ i ∧ i < n + 20 then cc l i else f i := by
  unfold ap20
  by_cases q : n ≤ i ∧ i < n + 20
  · rw [if_pos q]
    by_cases q4 : n + 16 ≤ i
    · exact ap4_at h _ _ _ q4 (by omega)
    rw [ap4_lt _ _ _ _ (by omega)]
    by_cases q3 : n + 12 ≤ i
    · exact ap4_at h _ _ _ q3 (by omega)
    rw [ap4_lt _ _ _ _ (by omega)]
    by_cases q2 : n + 8 ≤ i
    · exact ap4_at h _ _ _ q2 (by omega)
    rw [ap4_lt _ _ _ _ (by omega)]
    by_cases q1 : n + 4 ≤ i
    · exact ap4_at h _ _ _ q1 (by omega)
    rw [ap4_lt _ _ _ _ (by omega)]
    exact ap4_at h _ _ _ q.1 (by omega)
  · rw [if_neg q, ap4_lt _ _ _ _ (by omega), ap4_lt _ _ _ _ (by omega), ap4_lt _ _ _ _ (by omega), ap4_lt _ _ _ _ (by omega), ap4_lt _ _ _ _ (by omega)]
theorem z_sends_12 {a : Nat} {A : Row} {e : Int × Int} {Y : Yx} {X : Xx} {U : Ux} {l : List Int} {w0 : mW} {Q : mW → mO → Prop} (hG : GR A)
  (hq : ∀ w' f, CS w' A (f, l.length, e) Y X U → (∀ i, i < l.length → f i = l.getD i 0) → FX CL w0 w' → Q w' (.inl (some (.int (Int32.ofInt 1))))) : ∀ (m j d : Nat) (f : Nat → Int) (w : mW), j + m = 21 → d ≤ j → CS w A (f, min l.length (20 * j), e) Y X U → (∀ i, i < min l.length (20 * j) → f i = l.getD i 0) → BY w a l → FX CL w0 w → RT n_L_sends 12 [.ref 100, .ref a, .int (Int32.ofInt ((20 * j : Nat) : Int))] [] w (100 - 2 * j, 600 - 12 * j, false) Q := by
  intro m
  induction m with
  | zero =>
    intro j d f w hj hd hS hf hB hF
    have hl := hB.2.2.1
    have em : min l.length (20 * j) = l.length := by omega
    rw [em] at hS hf
    refine rt_L_sends_12 ?_
    simp (disch := omega) only [wp_c, wp_n, jj_n, v_ct, Int.reduceToNat, Int.toNat_natCast, stE, wlE, lgt, lpu, lpw, v_c2, va_s, true_and, and_true, Option.toList, List.nil_append, List.cons_append, List.take, List.drop, List.reverse, List.reverseAux, List.length_cons, List.length_nil, reduceCtorEq, false_implies, true_implies, forall_const, not_true_eq_false, not_false_eq_true, ite_true, ite_false, Bool.false_eq_true, I_I, J_J, Nat.add_left_cancel_iff, Nat.reduceEqDiff, Nat.add_eq_left, Nat.left_eq_add, false_and, and_false, Nat.reduceSub, Nat.sub_self, Nat.le_refl, Nat.zero_le, ge_iff_le, Nat.reduceAdd, Nat.reduceLeDiff, Nat.zero_add, Nat.reduceLT, z_lt, z_le, z_eq, z_l0, z_g0, z_le0, z_ge0, z_e0, z_e1, z_vp, z_nc, z_rem, z_div, i_ltT, i_ltF, i_leT, i_leF, i_eqT, i_eqF, n_ltT, n_ltF, n_leT, n_leF, n_eqT, n_eqF, tn_9, tn_12, tn_14, tn_20, tn_28, tn_44, tn_52, tn_68, tn_84, tn_100, tn_116, tn_132, fu_e, up_eq, ob_0, ob_b, oi_add, oi_sub, oi_mul, oi_neg, Int.add_zero, Int.zero_add, or_true, true_or, or_false, false_or, and_self, z_i2l, z_l2i, lo_nat, lo_add, lo_sub, lo_mul, lo_0, e_rem, hB.2.1, oi_nat]
    refine rt_L_sends_87 ?_
    simp (disch := omega) only [wp_c, wp_n, jj_n, v_ct, Int.reduceToNat, Int.toNat_natCast, stE, wlE, lgt, lpu, lpw, v_c2, va_s, true_and, and_true, Option.toList, List.nil_append, List.cons_append, List.take, List.drop, List.reverse, List.reverseAux, List.length_cons, List.length_nil, reduceCtorEq, false_implies, true_implies, forall_const, not_true_eq_false, not_false_eq_true, ite_true, ite_false, Bool.false_eq_true, I_I, J_J, Nat.add_left_cancel_iff, Nat.reduceEqDiff, Nat.add_eq_left, Nat.left_eq_add, false_and, and_false, Nat.reduceSub, Nat.sub_self, Nat.le_refl, Nat.zero_le, ge_iff_le, Nat.reduceAdd, Nat.reduceLeDiff, Nat.zero_add, Nat.reduceLT, z_lt, z_le, z_eq, z_l0, z_g0, z_le0, z_ge0, z_e0, z_e1, z_vp, z_nc, z_rem, z_div, i_ltT, i_ltF, i_leT, i_leF, i_eqT, i_eqF, n_ltT, n_ltF, n_leT, n_leF, n_eqT, n_eqF, tn_9, tn_12, tn_14, tn_20, tn_28, tn_44, tn_52, tn_68, tn_84, tn_100, tn_116, tn_132, fu_e, up_eq, ob_0, ob_b, oi_add, oi_sub, oi_mul, oi_neg, Int.add_zero, Int.zero_add, or_true, true_or, or_false, false_or, and_self, z_i2l, z_l2i, lo_nat, lo_add, lo_sub, lo_mul, lo_0, e_rem, mr_L_sends]
    first | exact hq w f hS hf hF | exact ⟨Or.inr rfl, hq w f hS hf hF⟩
  | succ m ih =>
    intro j d f w hj hd hS hf hB hF
    have hl := hB.2.2.1
    refine rt_L_sends_12 ?_
    by_cases q : 20 * j < l.length
    · have em : min l.length (20 * j) = 20 * j := by omega
      rw [em] at hS hf
      have c4 : (((20 * j : Nat) : Int) + 4) = ((20 * j + 4 : Nat) : Int) := by omega
      have c8 : (((20 * j : Nat) : Int) + 8) = ((20 * j + 8 : Nat) : Int) := by omega
      have c12 : (((20 * j : Nat) : Int) + 12) = ((20 * j + 12 : Nat) : Int) := by omega
      have c16 : (((20 * j : Nat) : Int) + 16) = ((20 * j + 16 : Nat) : Int) := by omega
      have c20 : (((20 * j : Nat) : Int) + 20) = ((20 * j + 20 : Nat) : Int) := by omega
      have s100 := hS.1.1.1
      simp (disch := omega) only [wp_c, wp_n, jj_n, v_ct, Int.reduceToNat, Int.toNat_natCast, stE, wlE, lgt, lpu, lpw, v_c2, va_s, true_and, and_true, Option.toList, List.nil_append, List.cons_append, List.take, List.drop, List.reverse, List.reverseAux, List.length_cons, List.length_nil, reduceCtorEq, false_implies, true_implies, forall_const, not_true_eq_false, not_false_eq_true, ite_true, ite_false, Bool.false_eq_true, I_I, J_J, Nat.add_left_cancel_iff, Nat.reduceEqDiff, Nat.add_eq_left, Nat.left_eq_add, false_and, and_false, Nat.reduceSub, Nat.sub_self, Nat.le_refl, Nat.zero_le, ge_iff_le, Nat.reduceAdd, Nat.reduceLeDiff, Nat.zero_add, Nat.reduceLT, z_lt, z_le, z_eq, z_l0, z_g0, z_le0, z_ge0, z_e0, z_e1, z_vp, z_nc, z_rem, z_div, i_ltT, i_ltF, i_leT, i_leF, i_eqT, i_eqF, n_ltT, n_ltF, n_leT, n_leF, n_eqT, n_eqF, tn_9, tn_12, tn_14, tn_20, tn_28, tn_44, tn_52, tn_68, tn_84, tn_100, tn_116, tn_132, fu_e, up_eq, ob_0, ob_b, oi_add, oi_sub, oi_mul, oi_neg, Int.add_zero, Int.zero_add, or_true, true_or, or_false, false_or, and_self, z_i2l, z_l2i, lo_nat, lo_add, lo_sub, lo_mul, lo_0, e_rem, hB.2.1, oi_nat, c4, c8, c12, c16, mh_L_sends]
      refine z_four hB (by omega) ?_
      simp (disch := omega) only [wp_c, wp_n, jj_n, v_ct, Int.reduceToNat, Int.toNat_natCast, stE, wlE, lgt, lpu, lpw, v_c2, va_s, true_and, and_true, Option.toList, List.nil_append, List.cons_append, List.take, List.drop, List.reverse, List.reverseAux, List.length_cons, List.length_nil, reduceCtorEq, false_implies, true_implies, forall_const, not_true_eq_false, not_false_eq_true, ite_true, ite_false, Bool.false_eq_true, I_I, J_J, Nat.add_left_cancel_iff, Nat.reduceEqDiff, Nat.add_eq_left, Nat.left_eq_add, false_and, and_false, Nat.reduceSub, Nat.sub_self, Nat.le_refl, Nat.zero_le, ge_iff_le, Nat.reduceAdd, Nat.reduceLeDiff, Nat.zero_add, Nat.reduceLT, z_lt, z_le, z_eq, z_l0, z_g0, z_le0, z_ge0, z_e0, z_e1, z_vp, z_nc, z_rem, z_div, i_ltT, i_ltF, i_leT, i_leF, i_eqT, i_eqF, n_ltT, n_ltF, n_leT, n_leF, n_eqT, n_eqF, tn_9, tn_12, tn_14, tn_20, tn_28, tn_44, tn_52, tn_68, tn_84, tn_100, tn_116, tn_132, fu_e, up_eq, ob_0, ob_b, oi_add, oi_sub, oi_mul, oi_neg, Int.add_zero, Int.zero_add, or_true, true_or, or_false, false_or, and_self, z_i2l, z_l2i, lo_nat, lo_add, lo_sub, lo_mul, lo_0, e_rem, c4, mh_L_sends]
      refine z_four hB (by omega) ?_
      simp (disch := omega) only [wp_c, wp_n, jj_n, v_ct, Int.reduceToNat, Int.toNat_natCast, stE, wlE, lgt, lpu, lpw, v_c2, va_s, true_and, and_true, Option.toList, List.nil_append, List.cons_append, List.take, List.drop, List.reverse, List.reverseAux, List.length_cons, List.length_nil, reduceCtorEq, false_implies, true_implies, forall_const, not_true_eq_false, not_false_eq_true, ite_true, ite_false, Bool.false_eq_true, I_I, J_J, Nat.add_left_cancel_iff, Nat.reduceEqDiff, Nat.add_eq_left, Nat.left_eq_add, false_and, and_false, Nat.reduceSub, Nat.sub_self, Nat.le_refl, Nat.zero_le, ge_iff_le, Nat.reduceAdd, Nat.reduceLeDiff, Nat.zero_add, Nat.reduceLT, z_lt, z_le, z_eq, z_l0, z_g0, z_le0, z_ge0, z_e0, z_e1, z_vp, z_nc, z_rem, z_div, i_ltT, i_ltF, i_leT, i_leF, i_eqT, i_eqF, n_ltT, n_ltF, n_leT, n_leF, n_eqT, n_eqF, tn_9, tn_12, tn_14, tn_20, tn_28, tn_44, tn_52, tn_68, tn_84, tn_100, tn_116, tn_132, fu_e, up_eq, ob_0, ob_b, oi_add, oi_sub, oi_mul, oi_neg, Int.add_zero, Int.zero_add, or_true, true_or, or_false, false_or, and_self, z_i2l, z_l2i, lo_nat, lo_add, lo_sub, lo_mul, lo_0, e_rem, c8, mh_L_sends]
      refine z_four hB (by omega) ?_
      simp (disch := omega) only [wp_c, wp_n, jj_n, v_ct, Int.reduceToNat, Int.toNat_natCast, stE, wlE, lgt, lpu, lpw, v_c2, va_s, true_and, and_true, Option.toList, List.nil_append, List.cons_append, List.take, List.drop, List.reverse, List.reverseAux, List.length_cons, List.length_nil, reduceCtorEq, false_implies, true_implies, forall_const, not_true_eq_false, not_false_eq_true, ite_true, ite_false, Bool.false_eq_true, I_I, J_J, Nat.add_left_cancel_iff, Nat.reduceEqDiff, Nat.add_eq_left, Nat.left_eq_add, false_and, and_false, Nat.reduceSub, Nat.sub_self, Nat.le_refl, Nat.zero_le, ge_iff_le, Nat.reduceAdd, Nat.reduceLeDiff, Nat.zero_add, Nat.reduceLT, z_lt, z_le, z_eq, z_l0, z_g0, z_le0, z_ge0, z_e0, z_e1, z_vp, z_nc, z_rem, z_div, i_ltT, i_ltF, i_leT, i_leF, i_eqT, i_eqF, n_ltT, n_ltF, n_leT, n_leF, n_eqT, n_eqF, tn_9, tn_12, tn_14, tn_20, tn_28, tn_44, tn_52, tn_68, tn_84, tn_100, tn_116, tn_132, fu_e, up_eq, ob_0, ob_b, oi_add, oi_sub, oi_mul, oi_neg, Int.add_zero, Int.zero_add, or_true, true_or, or_false, false_or, and_self, z_i2l, z_l2i, lo_nat, lo_add, lo_sub, lo_mul, lo_0, e_rem, c12, mh_L_sends]
      refine z_four hB (by omega) ?_
      simp (disch := omega) only [wp_c, wp_n, jj_n, v_ct, Int.reduceToNat, Int.toNat_natCast, stE, wlE, lgt, lpu, lpw, v_c2, va_s, true_and, and_true, Option.toList, List.nil_append, List.cons_append, List.take, List.drop, List.reverse, List.reverseAux, List.length_cons, List.length_nil, reduceCtorEq, false_implies, true_implies, forall_const, not_true_eq_false, not_false_eq_true, ite_true, ite_false, Bool.false_eq_true, I_I, J_J, Nat.add_left_cancel_iff, Nat.reduceEqDiff, Nat.add_eq_left, Nat.left_eq_add, false_and, and_false, Nat.reduceSub, Nat.sub_self, Nat.le_refl, Nat.zero_le, ge_iff_le, Nat.reduceAdd, Nat.reduceLeDiff, Nat.zero_add, Nat.reduceLT, z_lt, z_le, z_eq, z_l0, z_g0, z_le0, z_ge0, z_e0, z_e1, z_vp, z_nc, z_rem, z_div, i_ltT, i_ltF, i_leT, i_leF, i_eqT, i_eqF, n_ltT, n_ltF, n_leT, n_leF, n_eqT, n_eqF, tn_9, tn_12, tn_14, tn_20, tn_28, tn_44, tn_52, tn_68, tn_84, tn_100, tn_116, tn_132, fu_e, up_eq, ob_0, ob_b, oi_add, oi_sub, oi_mul, oi_neg, Int.add_zero, Int.zero_add, or_true, true_or, or_false, false_or, and_self, z_i2l, z_l2i, lo_nat, lo_add, lo_sub, lo_mul, lo_0, e_rem, c16, mh_L_sends]
      refine z_four hB (by omega) ?_
      simp (disch := omega) only [wp_c, wp_n, jj_n, v_ct, Int.reduceToNat, Int.toNat_natCast, stE, wlE, lgt, lpu, lpw, v_c2, va_s, true_and, and_true, Option.toList, List.nil_append, List.cons_append, List.take, List.drop, List.reverse, List.reverseAux, List.length_cons, List.length_nil, reduceCtorEq, false_implies, true_implies, forall_const, not_true_eq_false, not_false_eq_true, ite_true, ite_false, Bool.false_eq_true, I_I, J_J, Nat.add_left_cancel_iff, Nat.reduceEqDiff, Nat.add_eq_left, Nat.left_eq_add, false_and, and_false, Nat.reduceSub, Nat.sub_self, Nat.le_refl, Nat.zero_le, ge_iff_le, Nat.reduceAdd, Nat.reduceLeDiff, Nat.zero_add, Nat.reduceLT, z_lt, z_le, z_eq, z_l0, z_g0, z_le0, z_ge0, z_e0, z_e1, z_vp, z_nc, z_rem, z_div, i_ltT, i_ltF, i_leT, i_leF, i_eqT, i_eqF, n_ltT, n_ltF, n_leT, n_leF, n_eqT, n_eqF, tn_9, tn_12, tn_14, tn_20, tn_28, tn_44, tn_52, tn_68, tn_84, tn_100, tn_116, tn_132, fu_e, up_eq, ob_0, ob_b, oi_add, oi_sub, oi_mul, oi_neg, Int.add_zero, Int.zero_add, or_true, true_or, or_false, false_or, and_self, z_i2l, z_l2i, lo_nat, lo_add, lo_sub, lo_mul, lo_0, e_rem, s100, mh_L_sends]
      try refine ⟨by omega, by omega, ?_⟩
      refine x_append hS hG (fun z => absurd (show 20 * j + 20 ≤ 900 by omega) z) (fun _ w1 k1 k2 => ?_)
      have hB1 := hB.fx k2
      have s100' := k1.1.1.1
      simp (disch := omega) only [wp_c, wp_n, jj_n, v_ct, Int.reduceToNat, Int.toNat_natCast, stE, wlE, lgt, lpu, lpw, v_c2, va_s, true_and, and_true, Option.toList, List.nil_append, List.cons_append, List.take, List.drop, List.reverse, List.reverseAux, List.length_cons, List.length_nil, reduceCtorEq, false_implies, true_implies, forall_const, not_true_eq_false, not_false_eq_true, ite_true, ite_false, Bool.false_eq_true, I_I, J_J, Nat.add_left_cancel_iff, Nat.reduceEqDiff, Nat.add_eq_left, Nat.left_eq_add, false_and, and_false, Nat.reduceSub, Nat.sub_self, Nat.le_refl, Nat.zero_le, ge_iff_le, Nat.reduceAdd, Nat.reduceLeDiff, Nat.zero_add, Nat.reduceLT, z_lt, z_le, z_eq, z_l0, z_g0, z_le0, z_ge0, z_e0, z_e1, z_vp, z_nc, z_rem, z_div, i_ltT, i_ltF, i_leT, i_leF, i_eqT, i_eqF, n_ltT, n_ltF, n_leT, n_leF, n_eqT, n_eqF, tn_9, tn_12, tn_14, tn_20, tn_28, tn_44, tn_52, tn_68, tn_84, tn_100, tn_116, tn_132, fu_e, up_eq, ob_0, ob_b, oi_add, oi_sub, oi_mul, oi_neg, Int.add_zero, Int.zero_add, or_true, true_or, or_false, false_or, and_self, z_i2l, z_l2i, lo_nat, lo_add, lo_sub, lo_mul, lo_0, e_rem, hB1.2.1, oi_nat, c20, mh_L_sends]
      refine c_min ⟨by omega, by omega⟩ ⟨by omega, by omega⟩ ?_
      obtain ⟨v, hv⟩ : ∃ v : Nat, min l.length (20 * j + 20) = v := ⟨_, rfl⟩
      have emin : (if (l.length : Int) ≤ ((20 * j + 20 : Nat) : Int) then (l.length : Int) else ((20 * j + 20 : Nat) : Int)) = (v : Int) := by split <;> omega
      simp (disch := omega) only [wp_c, wp_n, jj_n, v_ct, Int.reduceToNat, Int.toNat_natCast, stE, wlE, lgt, lpu, lpw, v_c2, va_s, true_and, and_true, Option.toList, List.nil_append, List.cons_append, List.take, List.drop, List.reverse, List.reverseAux, List.length_cons, List.length_nil, reduceCtorEq, false_implies, true_implies, forall_const, not_true_eq_false, not_false_eq_true, ite_true, ite_false, Bool.false_eq_true, I_I, J_J, Nat.add_left_cancel_iff, Nat.reduceEqDiff, Nat.add_eq_left, Nat.left_eq_add, false_and, and_false, Nat.reduceSub, Nat.sub_self, Nat.le_refl, Nat.zero_le, ge_iff_le, Nat.reduceAdd, Nat.reduceLeDiff, Nat.zero_add, Nat.reduceLT, z_lt, z_le, z_eq, z_l0, z_g0, z_le0, z_ge0, z_e0, z_e1, z_vp, z_nc, z_rem, z_div, i_ltT, i_ltF, i_leT, i_leF, i_eqT, i_eqF, n_ltT, n_ltF, n_leT, n_leF, n_eqT, n_eqF, tn_9, tn_12, tn_14, tn_20, tn_28, tn_44, tn_52, tn_68, tn_84, tn_100, tn_116, tn_132, fu_e, up_eq, ob_0, ob_b, oi_add, oi_sub, oi_mul, oi_neg, Int.add_zero, Int.zero_add, or_true, true_or, or_false, false_or, and_self, z_i2l, z_l2i, lo_nat, lo_add, lo_sub, lo_mul, lo_0, e_rem, emin, s100', mh_L_sends]
      try refine ⟨by omega, by omega, ?_⟩
      refine x_truncate ⟨by omega, by omega⟩ k1 hG (fun z => absurd (show 0 ≤ (v : Int) ∧ (v : Int) ≤ ((20 * j + 20 : Nat) : Int) by omega) z) (fun _ w2 m1 m2 => ?_)
      have g1 : 100 - 2 * j - 1 - 1 = 100 - 2 * (j + 1) := by omega
      have g2 : 600 - 12 * j - 6 - 6 = 600 - 12 * (j + 1) := by omega
      simp (disch := omega) only [wp_c, wp_n, jj_n, v_ct, Int.reduceToNat, Int.toNat_natCast, stE, wlE, lgt, lpu, lpw, v_c2, va_s, true_and, and_true, Option.toList, List.nil_append, List.cons_append, List.take, List.drop, List.reverse, List.reverseAux, List.length_cons, List.length_nil, reduceCtorEq, false_implies, true_implies, forall_const, not_true_eq_false, not_false_eq_true, ite_true, ite_false, Bool.false_eq_true, I_I, J_J, Nat.add_left_cancel_iff, Nat.reduceEqDiff, Nat.add_eq_left, Nat.left_eq_add, false_and, and_false, Nat.reduceSub, Nat.sub_self, Nat.le_refl, Nat.zero_le, ge_iff_le, Nat.reduceAdd, Nat.reduceLeDiff, Nat.zero_add, Nat.reduceLT, z_lt, z_le, z_eq, z_l0, z_g0, z_le0, z_ge0, z_e0, z_e1, z_vp, z_nc, z_rem, z_div, i_ltT, i_ltF, i_leT, i_leF, i_eqT, i_eqF, n_ltT, n_ltF, n_leT, n_leF, n_eqT, n_eqF, tn_9, tn_12, tn_14, tn_20, tn_28, tn_44, tn_52, tn_68, tn_84, tn_100, tn_116, tn_132, fu_e, up_eq, ob_0, ob_b, oi_add, oi_sub, oi_mul, oi_neg, Int.add_zero, Int.zero_add, or_true, true_or, or_false, false_or, and_self, z_i2l, z_l2i, lo_nat, lo_add, lo_sub, lo_mul, lo_0, e_rem, g1, g2]
      refine rt_L_sends_81 ?_
      have c20' : (((20 * j : Nat) : Int) + 20) = ((20 * (j + 1) : Nat) : Int) := by omega
      simp (disch := omega) only [wp_c, wp_n, jj_n, v_ct, Int.reduceToNat, Int.toNat_natCast, stE, wlE, lgt, lpu, lpw, v_c2, va_s, true_and, and_true, Option.toList, List.nil_append, List.cons_append, List.take, List.drop, List.reverse, List.reverseAux, List.length_cons, List.length_nil, reduceCtorEq, false_implies, true_implies, forall_const, not_true_eq_false, not_false_eq_true, ite_true, ite_false, Bool.false_eq_true, I_I, J_J, Nat.add_left_cancel_iff, Nat.reduceEqDiff, Nat.add_eq_left, Nat.left_eq_add, false_and, and_false, Nat.reduceSub, Nat.sub_self, Nat.le_refl, Nat.zero_le, ge_iff_le, Nat.reduceAdd, Nat.reduceLeDiff, Nat.zero_add, Nat.reduceLT, z_lt, z_le, z_eq, z_l0, z_g0, z_le0, z_ge0, z_e0, z_e1, z_vp, z_nc, z_rem, z_div, i_ltT, i_ltF, i_leT, i_leF, i_eqT, i_eqF, n_ltT, n_ltF, n_leT, n_leF, n_eqT, n_eqF, tn_9, tn_12, tn_14, tn_20, tn_28, tn_44, tn_52, tn_68, tn_84, tn_100, tn_116, tn_132, fu_e, up_eq, ob_0, ob_b, oi_add, oi_sub, oi_mul, oi_neg, Int.add_zero, Int.zero_add, or_true, true_or, or_false, false_or, and_self, z_i2l, z_l2i, lo_nat, lo_add, lo_sub, lo_mul, lo_0, e_rem, c20']
      have ev : min l.length (20 * (j + 1)) = v := by omega
      refine ih (j + 1) 0 _ w2 (by omega) (by omega) (by rw [ev]; exact m1) (fun i hi => ?_) (hB1.fx m2) (hF.trans (k2.trans m2))
      rw [ev] at hi
      have e20 := ap20_at hB f (20 * j) i
      refine Eq.trans e20 ?_
      by_cases z : 20 * j ≤ i ∧ i < 20 * j + 20
      · rw [if_pos z]
        unfold cc
        rw [if_pos (by omega)]
      · rw [if_neg z]
        exact hf i (by omega)
    · have em : min l.length (20 * j) = l.length := by omega
      rw [em] at hS hf
      simp (disch := omega) only [wp_c, wp_n, jj_n, v_ct, Int.reduceToNat, Int.toNat_natCast, stE, wlE, lgt, lpu, lpw, v_c2, va_s, true_and, and_true, Option.toList, List.nil_append, List.cons_append, List.take, List.drop, List.reverse, List.reverseAux, List.length_cons, List.length_nil, reduceCtorEq, false_implies, true_implies, forall_const, not_true_eq_false, not_false_eq_true, ite_true, ite_false, Bool.false_eq_true, I_I, J_J, Nat.add_left_cancel_iff, Nat.reduceEqDiff, Nat.add_eq_left, Nat.left_eq_add, false_and, and_false, Nat.reduceSub, Nat.sub_self, Nat.le_refl, Nat.zero_le, ge_iff_le, Nat.reduceAdd, Nat.reduceLeDiff, Nat.zero_add, Nat.reduceLT, z_lt, z_le, z_eq, z_l0, z_g0, z_le0, z_ge0, z_e0, z_e1, z_vp, z_nc, z_rem, z_div, i_ltT, i_ltF, i_leT, i_leF, i_eqT, i_eqF, n_ltT, n_ltF, n_leT, n_leF, n_eqT, n_eqF, tn_9, tn_12, tn_14, tn_20, tn_28, tn_44, tn_52, tn_68, tn_84, tn_100, tn_116, tn_132, fu_e, up_eq, ob_0, ob_b, oi_add, oi_sub, oi_mul, oi_neg, Int.add_zero, Int.zero_add, or_true, true_or, or_false, false_or, and_self, z_i2l, z_l2i, lo_nat, lo_add, lo_sub, lo_mul, lo_0, e_rem, hB.2.1, oi_nat]
      refine rt_L_sends_87 ?_
      simp (disch := omega) only [wp_c, wp_n, jj_n, v_ct, Int.reduceToNat, Int.toNat_natCast, stE, wlE, lgt, lpu, lpw, v_c2, va_s, true_and, and_true, Option.toList, List.nil_append, List.cons_append, List.take, List.drop, List.reverse, List.reverseAux, List.length_cons, List.length_nil, reduceCtorEq, false_implies, true_implies, forall_const, not_true_eq_false, not_false_eq_true, ite_true, ite_false, Bool.false_eq_true, I_I, J_J, Nat.add_left_cancel_iff, Nat.reduceEqDiff, Nat.add_eq_left, Nat.left_eq_add, false_and, and_false, Nat.reduceSub, Nat.sub_self, Nat.le_refl, Nat.zero_le, ge_iff_le, Nat.reduceAdd, Nat.reduceLeDiff, Nat.zero_add, Nat.reduceLT, z_lt, z_le, z_eq, z_l0, z_g0, z_le0, z_ge0, z_e0, z_e1, z_vp, z_nc, z_rem, z_div, i_ltT, i_ltF, i_leT, i_leF, i_eqT, i_eqF, n_ltT, n_ltF, n_leT, n_leF, n_eqT, n_eqF, tn_9, tn_12, tn_14, tn_20, tn_28, tn_44, tn_52, tn_68, tn_84, tn_100, tn_116, tn_132, fu_e, up_eq, ob_0, ob_b, oi_add, oi_sub, oi_mul, oi_neg, Int.add_zero, Int.zero_add, or_true, true_or, or_false, false_or, and_self, z_i2l, z_l2i, lo_nat, lo_add, lo_sub, lo_mul, lo_0, e_rem, mr_L_sends]
      first | exact hq w f hS hf hF | exact ⟨Or.inr rfl, hq w f hS hf hF⟩
theorem z_sends {a : Nat} {A : Row} {Z : Zx} {Y : Yx} {X : Xx} {U : Ux} {l : List Int} {w : mW} {Q : mW → mO → Prop} (hS : CS w A Z Y X U) (hG : GR A) (hB : BY w a l)
  (hq : ∀ w' f, CS w' A (f, l.length, Z.2.2) Y X U → (∀ i, i < l.length → f i = l.getD i 0) → FX CL w w' → Q w' (.inl (some (.int (Int32.ofInt 1))))) : CT n_L_sends [.ref 100, .ref a] w Q := by
  have s100 := hS.1.1.1
  have hl := hB.2.2.1
  refine ct_L_sends (rt_L_sends_0 ?_)
  simp (disch := omega) only [wp_c, wp_n, jj_n, v_ct, Int.reduceToNat, Int.toNat_natCast, stE, wlE, lgt, lpu, lpw, v_c2, va_s, true_and, and_true, Option.toList, List.nil_append, List.cons_append, List.take, List.drop, List.reverse, List.reverseAux, List.length_cons, List.length_nil, reduceCtorEq, false_implies, true_implies, forall_const, not_true_eq_false, not_false_eq_true, ite_true, ite_false, Bool.false_eq_true, I_I, J_J, Nat.add_left_cancel_iff, Nat.reduceEqDiff, Nat.add_eq_left, Nat.left_eq_add, false_and, and_false, Nat.reduceSub, Nat.sub_self, Nat.le_refl, Nat.zero_le, ge_iff_le, Nat.reduceAdd, Nat.reduceLeDiff, Nat.zero_add, Nat.reduceLT, z_lt, z_le, z_eq, z_l0, z_g0, z_le0, z_ge0, z_e0, z_e1, z_vp, z_nc, z_rem, z_div, i_ltT, i_ltF, i_leT, i_leF, i_eqT, i_eqF, n_ltT, n_ltF, n_leT, n_leF, n_eqT, n_eqF, tn_9, tn_12, tn_14, tn_20, tn_28, tn_44, tn_52, tn_68, tn_84, tn_100, tn_116, tn_132, fu_e, up_eq, ob_0, ob_b, oi_add, oi_sub, oi_mul, oi_neg, Int.add_zero, Int.zero_add, or_true, true_or, or_false, false_or, and_self, z_i2l, z_l2i, lo_nat, lo_add, lo_sub, lo_mul, lo_0, e_rem, s100, mh_L_sends]
  refine x_truncate (v0 := 0) ⟨by omega, by omega⟩ hS hG (fun z => absurd (show (0 : Int) ≤ 0 ∧ (0 : Int) ≤ (Z.2.1 : Int) by omega) z) (fun _ w2 m1 m2 => ?_)
  simp (disch := omega) only [wp_c, wp_n, jj_n, v_ct, Int.reduceToNat, Int.toNat_natCast, stE, wlE, lgt, lpu, lpw, v_c2, va_s, true_and, and_true, Option.toList, List.nil_append, List.cons_append, List.take, List.drop, List.reverse, List.reverseAux, List.length_cons, List.length_nil, reduceCtorEq, false_implies, true_implies, forall_const, not_true_eq_false, not_false_eq_true, ite_true, ite_false, Bool.false_eq_true, I_I, J_J, Nat.add_left_cancel_iff, Nat.reduceEqDiff, Nat.add_eq_left, Nat.left_eq_add, false_and, and_false, Nat.reduceSub, Nat.sub_self, Nat.le_refl, Nat.zero_le, ge_iff_le, Nat.reduceAdd, Nat.reduceLeDiff, Nat.zero_add, Nat.reduceLT, z_lt, z_le, z_eq, z_l0, z_g0, z_le0, z_ge0, z_e0, z_e1, z_vp, z_nc, z_rem, z_div, i_ltT, i_ltF, i_leT, i_leF, i_eqT, i_eqF, n_ltT, n_ltF, n_leT, n_leF, n_eqT, n_eqF, tn_9, tn_12, tn_14, tn_20, tn_28, tn_44, tn_52, tn_68, tn_84, tn_100, tn_116, tn_132, fu_e, up_eq, ob_0, ob_b, oi_add, oi_sub, oi_mul, oi_neg, Int.add_zero, Int.zero_add, or_true, true_or, or_false, false_or, and_self, z_i2l, z_l2i, lo_nat, lo_add, lo_sub, lo_mul, lo_0, e_rem]
  refine rt_L_sends_10 ?_
  simp (disch := omega) only [wp_c, wp_n, jj_n, v_ct, Int.reduceToNat, Int.toNat_natCast, stE, wlE, lgt, lpu, lpw, v_c2, va_s, true_and, and_true, Option.toList, List.nil_append, List.cons_append, List.take, List.drop, List.reverse, List.reverseAux, List.length_cons, List.length_nil, reduceCtorEq, false_implies, true_implies, forall_const, not_true_eq_false, not_false_eq_true, ite_true, ite_false, Bool.false_eq_true, I_I, J_J, Nat.add_left_cancel_iff, Nat.reduceEqDiff, Nat.add_eq_left, Nat.left_eq_add, false_and, and_false, Nat.reduceSub, Nat.sub_self, Nat.le_refl, Nat.zero_le, ge_iff_le, Nat.reduceAdd, Nat.reduceLeDiff, Nat.zero_add, Nat.reduceLT, z_lt, z_le, z_eq, z_l0, z_g0, z_le0, z_ge0, z_e0, z_e1, z_vp, z_nc, z_rem, z_div, i_ltT, i_ltF, i_leT, i_leF, i_eqT, i_eqF, n_ltT, n_ltF, n_leT, n_leF, n_eqT, n_eqF, tn_9, tn_12, tn_14, tn_20, tn_28, tn_44, tn_52, tn_68, tn_84, tn_100, tn_116, tn_132, fu_e, up_eq, ob_0, ob_b, oi_add, oi_sub, oi_mul, oi_neg, Int.add_zero, Int.zero_add, or_true, true_or, or_false, false_or, and_self, z_i2l, z_l2i, lo_nat, lo_add, lo_sub, lo_mul, lo_0, e_rem]
  have := z_sends_12 (a := a) (e := Z.2.2) (w0 := w) (Q := Q) (l := l) hG hq 21 0 0 Z.1 w2 (by omega) (by omega) (by rw [show min l.length (20 * 0) = 0 by omega]; exact m1) (fun i hi => absurd hi (by omega)) (hB.fx m2) m2
  exact this
theorem fo_of_fb {b : Nat} {w w' : mW} (h : FB (100 + w_n w) w w') : LO w w' ∨ 100 + w_n w < 309 := by
  by_cases q : 309 ≤ 100 + w_n w
  · exact Or.inl (h.lo q)
  · exact Or.inr (by omega)
theorem z_type {s p : Nat} {A : Row} {Z : Zx} {Y : Yx} {X : Xx} {U : Ux} {l : List Int} {w : mW} {Q : mW → mO → Prop} (hS : CS w A Z Y X U) (hG : GR A) (hT : STR w s p l) (h3 : 309 ≤ 100 + w_n w)
  (hq : ∀ w1 w' f, FB (100 + w_n w) w w1 → FX CL w1 w' → CS w1 A Z Y X U → CS w' A (f, l.length, Z.2.2) Y X U → (∀ i, i < l.length → f i = l.getD i 0) → Q w' (.inl (some (.int (Int32.ofInt 1))))) : CT n_L_type [.ref 100, .ref s] w Q := by
  have hl := hT.2.2.2.2.1
  refine ct_L_type (rt_L_type_0 ?_)
  simp (disch := omega) only [wp_c, wp_n, jj_n, v_ct, Int.reduceToNat, Int.toNat_natCast, stE, wlE, lgt, lpu, lpw, v_c2, va_s, true_and, and_true, Option.toList, List.nil_append, List.cons_append, List.take, List.drop, List.reverse, List.reverseAux, List.length_cons, List.length_nil, reduceCtorEq, false_implies, true_implies, forall_const, not_true_eq_false, not_false_eq_true, ite_true, ite_false, Bool.false_eq_true, I_I, J_J, Nat.add_left_cancel_iff, Nat.reduceEqDiff, Nat.add_eq_left, Nat.left_eq_add, false_and, and_false, Nat.reduceSub, Nat.sub_self, Nat.le_refl, Nat.zero_le, ge_iff_le, Nat.reduceAdd, Nat.reduceLeDiff, Nat.zero_add, Nat.reduceLT, z_lt, z_le, z_eq, z_l0, z_g0, z_le0, z_ge0, z_e0, z_e1, z_vp, z_nc, z_rem, z_div, i_ltT, i_ltF, i_leT, i_leF, i_eqT, i_eqF, n_ltT, n_ltF, n_leT, n_leF, n_eqT, n_eqF, tn_9, tn_12, tn_14, tn_20, tn_28, tn_44, tn_52, tn_68, tn_84, tn_100, tn_116, tn_132, fu_e, up_eq, ob_0, ob_b, oi_add, oi_sub, oi_mul, oi_neg, Int.add_zero, Int.zero_add, or_true, true_or, or_false, false_or, and_self, z_i2l, z_l2i, lo_nat, lo_add, lo_sub, lo_mul, lo_0, e_rem, hT.1.1, hT.1.2.1, mh_L_type]
  try refine ⟨by omega, ?_⟩
  refine c_lenS hT ?_
  have hc : (Int32.ofInt (l.length : Int)).toNatClampNeg = l.length := by rw [oi_nc ⟨by omega, by omega⟩]; omega
  simp (disch := omega) only [wp_c, wp_n, jj_n, v_ct, Int.reduceToNat, Int.toNat_natCast, stE, wlE, lgt, lpu, lpw, v_c2, va_s, true_and, and_true, Option.toList, List.nil_append, List.cons_append, List.take, List.drop, List.reverse, List.reverseAux, List.length_cons, List.length_nil, reduceCtorEq, false_implies, true_implies, forall_const, not_true_eq_false, not_false_eq_true, ite_true, ite_false, Bool.false_eq_true, I_I, J_J, Nat.add_left_cancel_iff, Nat.reduceEqDiff, Nat.add_eq_left, Nat.left_eq_add, false_and, and_false, Nat.reduceSub, Nat.sub_self, Nat.le_refl, Nat.zero_le, ge_iff_le, Nat.reduceAdd, Nat.reduceLeDiff, Nat.zero_add, Nat.reduceLT, z_lt, z_le, z_eq, z_l0, z_g0, z_le0, z_ge0, z_e0, z_e1, z_vp, z_nc, z_rem, z_div, i_ltT, i_ltF, i_leT, i_leF, i_eqT, i_eqF, n_ltT, n_ltF, n_leT, n_leF, n_eqT, n_eqF, tn_9, tn_12, tn_14, tn_20, tn_28, tn_44, tn_52, tn_68, tn_84, tn_100, tn_116, tn_132, fu_e, up_eq, ob_0, ob_b, oi_add, oi_sub, oi_mul, oi_neg, Int.add_zero, Int.zero_add, or_true, true_or, or_false, false_or, and_self, z_i2l, z_l2i, lo_nat, lo_add, lo_sub, lo_mul, lo_0, e_rem, hc]
  intro q hq0
  have ns : ¬ s = 100 + q := by have := hT.1.2.2; omega
  have np : ¬ p = 100 + q := by have := hT.2.1.2.2; omega
  have hf0 : FB (100 + w_n w) w (s_N (s_K w q) (3, l.length)) := (FB.refl _ _).N hq0 (Nat.le_refl _)
  have hT0 : STR (s_N (s_K w q) (3, l.length)) s p l := by
    obtain ⟨⟨t1, t2, t3⟩, ⟨t4, t5, t6⟩, t7, t8, t9, t10⟩ := hT
    exact ⟨⟨by rw [NK_shn ns]; exact t1, t2, by show s < 100 + (q + 1); omega⟩, ⟨by rw [NK_Rn ns]; exact t4, t5, by show p < 100 + (q + 1); omega⟩, by rw [N_Ic, K_n, if_neg ns, K_I]; exact t7, by rw [NK_shn np]; exact t8, t9, fun i hi => by rw [N_Ic, K_n, if_neg np, K_I]; exact t10 i hi⟩
  have hs0 : w_sh (s_N (s_K w q) (3, l.length)) (100 + q) = (3, l.length) := NK_sh _ _ _
  have hn0 : w_n (s_N (s_K w q) (3, l.length)) = q + 1 := rfl
  generalize s_N (s_K w q) (3, l.length) = w0 at hf0 hT0 hs0 hn0 ⊢
  have hI8 : ∀ c : Int, 0 ≤ c ∧ c ≤ 127 → (Int32.ofInt c).toInt8.toInt32 = Int32.ofInt c := by
    intro c hc0
    have h128 : (Int32.ofInt c).toInt8 = Int8.ofInt c := Int32.toInt8_ofInt
    rw [h128, ← Int32.toInt_inj, Int8.toInt_toInt32, oi_to ⟨by omega, by omega⟩, Int8.toInt_ofInt_of_le (by omega) (by omega)]
  have hnar : ∀ c : Int, 0 ≤ c ∧ c ≤ 127 → vp_nar .byte (Int32.ofInt c) = Int32.ofInt c := hI8
  have loop : ∀ (m k : Nat) (w1 : mW), k + m = l.length → FB (100 + w_n w) w w1 → STR w1 s p l → w_sh w1 (100 + q) = (3, l.length) → w_n w1 = q + 1 → (∀ i, i < k → w_I w1 (100 + q) i = Int32.ofInt (l.getD i 0)) → RT n_L_type 9 [.ref 100, .ref s, .ref (100 + q), .int (Int32.ofInt (k : Int))] [] w1 (101, 1606 - l.length, false) Q := by
    intro m
    induction m with
    | zero =>
      intro k w1 hk g1 g2 g3 g4 g5
      refine rt_L_type_9 ?_
      simp (disch := omega) only [wp_c, wp_n, jj_n, v_ct, Int.reduceToNat, Int.toNat_natCast, stE, wlE, lgt, lpu, lpw, v_c2, va_s, true_and, and_true, Option.toList, List.nil_append, List.cons_append, List.take, List.drop, List.reverse, List.reverseAux, List.length_cons, List.length_nil, reduceCtorEq, false_implies, true_implies, forall_const, not_true_eq_false, not_false_eq_true, ite_true, ite_false, Bool.false_eq_true, I_I, J_J, Nat.add_left_cancel_iff, Nat.reduceEqDiff, Nat.add_eq_left, Nat.left_eq_add, false_and, and_false, Nat.reduceSub, Nat.sub_self, Nat.le_refl, Nat.zero_le, ge_iff_le, Nat.reduceAdd, Nat.reduceLeDiff, Nat.zero_add, Nat.reduceLT, z_lt, z_le, z_eq, z_l0, z_g0, z_le0, z_ge0, z_e0, z_e1, z_vp, z_nc, z_rem, z_div, i_ltT, i_ltF, i_leT, i_leF, i_eqT, i_eqF, n_ltT, n_ltF, n_leT, n_leF, n_eqT, n_eqF, tn_9, tn_12, tn_14, tn_20, tn_28, tn_44, tn_52, tn_68, tn_84, tn_100, tn_116, tn_132, fu_e, up_eq, ob_0, ob_b, oi_add, oi_sub, oi_mul, oi_neg, Int.add_zero, Int.zero_add, or_true, true_or, or_false, false_or, and_self, z_i2l, z_l2i, lo_nat, lo_add, lo_sub, lo_mul, lo_0, e_rem, g3, oi_nat]
      refine rt_L_type_30 ?_
      have hS1 := hS.lo (g1.lo h3)
      have hB : BY w1 (100 + q) l := ⟨⟨by omega, by omega⟩, g3, hl, fun i hi => ⟨g5 i (by omega), (g2.2.2.2.2.2 i hi).2⟩⟩
      simp (disch := omega) only [wp_c, wp_n, jj_n, v_ct, Int.reduceToNat, Int.toNat_natCast, stE, wlE, lgt, lpu, lpw, v_c2, va_s, true_and, and_true, Option.toList, List.nil_append, List.cons_append, List.take, List.drop, List.reverse, List.reverseAux, List.length_cons, List.length_nil, reduceCtorEq, false_implies, true_implies, forall_const, not_true_eq_false, not_false_eq_true, ite_true, ite_false, Bool.false_eq_true, I_I, J_J, Nat.add_left_cancel_iff, Nat.reduceEqDiff, Nat.add_eq_left, Nat.left_eq_add, false_and, and_false, Nat.reduceSub, Nat.sub_self, Nat.le_refl, Nat.zero_le, ge_iff_le, Nat.reduceAdd, Nat.reduceLeDiff, Nat.zero_add, Nat.reduceLT, z_lt, z_le, z_eq, z_l0, z_g0, z_le0, z_ge0, z_e0, z_e1, z_vp, z_nc, z_rem, z_div, i_ltT, i_ltF, i_leT, i_leF, i_eqT, i_eqF, n_ltT, n_ltF, n_leT, n_leF, n_eqT, n_eqF, tn_9, tn_12, tn_14, tn_20, tn_28, tn_44, tn_52, tn_68, tn_84, tn_100, tn_116, tn_132, fu_e, up_eq, ob_0, ob_b, oi_add, oi_sub, oi_mul, oi_neg, Int.add_zero, Int.zero_add, or_true, true_or, or_false, false_or, and_self, z_i2l, z_l2i, lo_nat, lo_add, lo_sub, lo_mul, lo_0, e_rem, mh_L_type]
      refine z_sends hS1 hG hB (fun w' f k1 k2 k3 => ?_)
      simp (disch := omega) only [wp_c, wp_n, jj_n, v_ct, Int.reduceToNat, Int.toNat_natCast, stE, wlE, lgt, lpu, lpw, v_c2, va_s, true_and, and_true, Option.toList, List.nil_append, List.cons_append, List.take, List.drop, List.reverse, List.reverseAux, List.length_cons, List.length_nil, reduceCtorEq, false_implies, true_implies, forall_const, not_true_eq_false, not_false_eq_true, ite_true, ite_false, Bool.false_eq_true, I_I, J_J, Nat.add_left_cancel_iff, Nat.reduceEqDiff, Nat.add_eq_left, Nat.left_eq_add, false_and, and_false, Nat.reduceSub, Nat.sub_self, Nat.le_refl, Nat.zero_le, ge_iff_le, Nat.reduceAdd, Nat.reduceLeDiff, Nat.zero_add, Nat.reduceLT, z_lt, z_le, z_eq, z_l0, z_g0, z_le0, z_ge0, z_e0, z_e1, z_vp, z_nc, z_rem, z_div, i_ltT, i_ltF, i_leT, i_leF, i_eqT, i_eqF, n_ltT, n_ltF, n_leT, n_leF, n_eqT, n_eqF, tn_9, tn_12, tn_14, tn_20, tn_28, tn_44, tn_52, tn_68, tn_84, tn_100, tn_116, tn_132, fu_e, up_eq, ob_0, ob_b, oi_add, oi_sub, oi_mul, oi_neg, Int.add_zero, Int.zero_add, or_true, true_or, or_false, false_or, and_self, z_i2l, z_l2i, lo_nat, lo_add, lo_sub, lo_mul, lo_0, e_rem, mr_L_type]
      first | exact hq w1 w' f g1 k3 hS1 k1 k2 | exact ⟨Or.inr rfl, hq w1 w' f g1 k3 hS1 k1 k2⟩
    | succ m ih =>
      intro k w1 hk g1 g2 g3 g4 g5
      have hc0 := (g2.2.2.2.2.2 k (by omega)).2
      have hl9 := g2.1.1
      refine rt_L_type_9 ?_
      simp (disch := omega) only [wp_c, wp_n, jj_n, v_ct, Int.reduceToNat, Int.toNat_natCast, stE, wlE, lgt, lpu, lpw, v_c2, va_s, true_and, and_true, Option.toList, List.nil_append, List.cons_append, List.take, List.drop, List.reverse, List.reverseAux, List.length_cons, List.length_nil, reduceCtorEq, false_implies, true_implies, forall_const, not_true_eq_false, not_false_eq_true, ite_true, ite_false, Bool.false_eq_true, I_I, J_J, Nat.add_left_cancel_iff, Nat.reduceEqDiff, Nat.add_eq_left, Nat.left_eq_add, false_and, and_false, Nat.reduceSub, Nat.sub_self, Nat.le_refl, Nat.zero_le, ge_iff_le, Nat.reduceAdd, Nat.reduceLeDiff, Nat.zero_add, Nat.reduceLT, z_lt, z_le, z_eq, z_l0, z_g0, z_le0, z_ge0, z_e0, z_e1, z_vp, z_nc, z_rem, z_div, i_ltT, i_ltF, i_leT, i_leF, i_eqT, i_eqF, n_ltT, n_ltF, n_leT, n_leF, n_eqT, n_eqF, tn_9, tn_12, tn_14, tn_20, tn_28, tn_44, tn_52, tn_68, tn_84, tn_100, tn_116, tn_132, fu_e, up_eq, ob_0, ob_b, oi_add, oi_sub, oi_mul, oi_neg, Int.add_zero, Int.zero_add, or_true, true_or, or_false, false_or, and_self, z_i2l, z_l2i, lo_nat, lo_add, lo_sub, lo_mul, lo_0, e_rem, g3, g2.1.1, g2.1.2.1, oi_nat, mh_L_type]
      try refine ⟨by omega, ?_⟩
      refine c_chS g2 ⟨by omega, by omega⟩ ?_
      simp (disch := omega) only [wp_c, wp_n, jj_n, v_ct, Int.reduceToNat, Int.toNat_natCast, stE, wlE, lgt, lpu, lpw, v_c2, va_s, true_and, and_true, Option.toList, List.nil_append, List.cons_append, List.take, List.drop, List.reverse, List.reverseAux, List.length_cons, List.length_nil, reduceCtorEq, false_implies, true_implies, forall_const, not_true_eq_false, not_false_eq_true, ite_true, ite_false, Bool.false_eq_true, I_I, J_J, Nat.add_left_cancel_iff, Nat.reduceEqDiff, Nat.add_eq_left, Nat.left_eq_add, false_and, and_false, Nat.reduceSub, Nat.sub_self, Nat.le_refl, Nat.zero_le, ge_iff_le, Nat.reduceAdd, Nat.reduceLeDiff, Nat.zero_add, Nat.reduceLT, z_lt, z_le, z_eq, z_l0, z_g0, z_le0, z_ge0, z_e0, z_e1, z_vp, z_nc, z_rem, z_div, i_ltT, i_ltF, i_leT, i_leF, i_eqT, i_eqF, n_ltT, n_ltF, n_leT, n_leF, n_eqT, n_eqF, tn_9, tn_12, tn_14, tn_20, tn_28, tn_44, tn_52, tn_68, tn_84, tn_100, tn_116, tn_132, fu_e, up_eq, ob_0, ob_b, oi_add, oi_sub, oi_mul, oi_neg, Int.add_zero, Int.zero_add, or_true, true_or, or_false, false_or, and_self, z_i2l, z_l2i, lo_nat, lo_add, lo_sub, lo_mul, lo_0, e_rem, g3, hI8, hnar]
      have ek : (k : Int) + 1 = ((k + 1 : Nat) : Int) := by omega
      try rw [ek]
      refine ih (k + 1) _ (by omega) (g1.I' ⟨by omega, Or.inl fun z => z.2 (by rw [g3])⟩) ?_ (by rw [sh_I]; exact g3) g4 (fun i hi => ?_)
      · obtain ⟨⟨t1, t2, t3⟩, ⟨t4, t5, t6⟩, t7, t8, t9, t10⟩ := g2
        exact ⟨⟨by rw [sh_I]; exact t1, t2, t3⟩, ⟨by rw [R_I]; exact t4, t5, t6⟩, by rw [I_I, if_neg (fun z => ns z.1)]; exact t7, by rw [sh_I]; exact t8, t9, fun i hi => by rw [I_I, if_neg (fun z => np z.1)]; exact t10 i hi⟩
      · rw [I_I]
        by_cases e : i = k
        · rw [if_pos ⟨rfl, e⟩, e]
        · rw [if_neg (fun z => e z.2)]; exact g5 i (by omega)
  exact loop l.length 0 w0 (by omega) hf0 hT0 hs0 hn0 (fun i hi => absurd hi (by omega))
