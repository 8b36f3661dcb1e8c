/-! a turn's end -/
def o_lg (D : Row) (s : Nat) (r : Int) : Row := up (up (up (up (up (up D 1011 ((s : Int) + 1)) (132 + 4 * s) (D 7)) (132 + 4 * s + 1) (D 4)) (132 + 4 * s + 2) (p_num D)) (132 + 4 * s + 3) r) 18 ((s : Int) + 1)
theorem lg_at (D : Row) (s : Nat) (r : Int) (j : Nat) : o_lg D s r j = if j = 18 then (s : Int) + 1 else if j = 132 + 4 * s + 3 then r else if j = 132 + 4 * s + 2 then p_num D else if j = 132 + 4 * s + 1 then D 4 else if j = 132 + 4 * s then D 7 else if j = 1011 then (s : Int) + 1 else D j := by
  simp only [o_lg, up_eq]
theorem num_u {A B : Row} (h0 : B 0 = A 0) (h8 : A 0 ≤ 8) (h : ∀ j, j < 8 → B (20 + j) = A (20 + j)) : p_num B = p_num A := by
  unfold p_num
  rw [h0]
  exact hn_c _ _ (fun i hi => h i (by omega))
theorem OS.e {A B : Row} (h : OS A) (e : ∀ j, (j < 5 ∨ (20 ≤ j ∧ j < 44) ∨ (68 ≤ j ∧ j < 84)) → B j = A j) : OS B := by
  obtain ⟨h0, h1, h2, h3⟩ := h
  refine ⟨by rw [e 0 (by omega), e 1 (by omega), e 2 (by omega), e 3 (by omega), e 4 (by omega)]; exact h0, fun j hj => ?_, fun j hj => ?_, fun j hj => ?_⟩
  · rw [e _ (by omega)]; exact h1 j hj
  · rw [e _ (by omega)]; exact h2 j hj
  · rw [e _ (by omega)]; exact h3 j hj
theorem z_end_479 {b o s : Nat} {P : Nat → Nat} {D : Row} {x1 x2 : Int32} {v3 v4 v5 : Value} {w : mW} {Q : mW → mO → Prop} (h : OW w b o P D) (hS : OS D) (hs : (D 18 = s ∧ s < 30 ∧ D 1011 = s) ∨ (D 18 = 30 ∧ s = 29 ∧ D 1011 = 30)) (hr : inR (D 14) ∧ inR (D 1042))
  (hq : ∀ w', OW w' b o P (o_lg D s (if D 1042 < D 14 then 1 else 0)) → FO b w w' → Q w' (.inl (some (.int (Int32.ofInt 1))))) : RT n_X10_goOn 479 [.ref o, .int x1, .int x2, v3, v4, v5] [] w (1, 4, false) Q := by
  have hF := h.F
  have hV := h.V
  have hE := h.E
  have hg := h.ge
  have hl := h.lt
  have h0 := hS.1
  have hb0 := h.1.2.1
  refine rt_X10_goOn_479 ?_
  simp (disch := omega) only [wp_c, wp_n, jj_n, v_ct, Int.reduceToNat, Int.toNat_natCast, stE, wlE, lgt, lpu, lpw, v_c2, va_s, true_and, and_true, Option.toList, List.nil_append, List.cons_append, List.take, List.drop, List.reverse, List.reverseAux, List.length_cons, List.length_nil, reduceCtorEq, false_implies, true_implies, forall_const, not_true_eq_false, not_false_eq_true, ite_true, ite_false, Bool.false_eq_true, I_I, J_J, Nat.add_left_cancel_iff, Nat.reduceEqDiff, Nat.add_eq_left, Nat.left_eq_add, false_and, and_false, Nat.reduceSub, Nat.sub_self, Nat.le_refl, Nat.zero_le, ge_iff_le, Nat.reduceAdd, Nat.reduceLeDiff, Nat.zero_add, Nat.reduceLT, z_lt, z_le, z_eq, z_l0, z_g0, z_le0, z_ge0, z_e0, z_e1, z_vp, z_nc, z_rem, z_div, i_ltT, i_ltF, i_leT, i_leF, i_eqT, i_eqF, n_ltT, n_ltF, n_leT, n_leF, n_eqT, n_eqF, tn_9, tn_12, tn_14, tn_20, tn_28, tn_44, tn_52, tn_68, tn_84, tn_100, tn_116, tn_132, fu_e, up_eq, ob_0, ob_b, oi_add, oi_sub, oi_mul, oi_neg, Int.add_zero, Int.zero_add, or_true, true_or, or_false, false_or, and_self, z_i2l, z_l2i, lo_nat, lo_add, lo_sub, lo_mul, lo_0, e_rem, hF, hV, mh_X10_goOn]
  refine c_min ⟨by omega, by omega⟩ (by rcases hs with q | q <;> constructor <;> omega) ?_
  have em : (if (29 : Int) ≤ D 1011 then 29 else D 1011) = s := by rcases hs with q | q <;> split <;> omega
  have h1 := h.slogs (v := (s : Int) + 1)
  have hF1 := h1.F
  have hV1 := h1.V
  have f1 : ∀ j, ¬ j = 1011 → up D 1011 ((s : Int) + 1) j = D j := fun j hj => by rw [up_eq, if_neg hj]
  have e1011 : up D 1011 ((s : Int) + 1) 1011 = (s : Int) + 1 := by rw [up_eq, if_pos rfl]
  have hl1 := h1.lt
  have hs1 : ((s : Int) + 1 - 1) = s := by omega
  simp (disch := omega) only [wp_c, wp_n, jj_n, v_ct, Int.reduceToNat, Int.toNat_natCast, stE, wlE, lgt, lpu, lpw, v_c2, va_s, true_and, and_true, Option.toList, List.nil_append, List.cons_append, List.take, List.drop, List.reverse, List.reverseAux, List.length_cons, List.length_nil, reduceCtorEq, false_implies, true_implies, forall_const, not_true_eq_false, not_false_eq_true, ite_true, ite_false, Bool.false_eq_true, I_I, J_J, Nat.add_left_cancel_iff, Nat.reduceEqDiff, Nat.add_eq_left, Nat.left_eq_add, false_and, and_false, Nat.reduceSub, Nat.sub_self, Nat.le_refl, Nat.zero_le, ge_iff_le, Nat.reduceAdd, Nat.reduceLeDiff, Nat.zero_add, Nat.reduceLT, z_lt, z_le, z_eq, z_l0, z_g0, z_le0, z_ge0, z_e0, z_e1, z_vp, z_nc, z_rem, z_div, i_ltT, i_ltF, i_leT, i_leF, i_eqT, i_eqF, n_ltT, n_ltF, n_leT, n_leF, n_eqT, n_eqF, tn_9, tn_12, tn_14, tn_20, tn_28, tn_44, tn_52, tn_68, tn_84, tn_100, tn_116, tn_132, fu_e, up_eq, ob_0, ob_b, oi_add, oi_sub, oi_mul, oi_neg, Int.add_zero, Int.zero_add, or_true, true_or, or_false, false_or, and_self, z_i2l, z_l2i, lo_nat, lo_add, lo_sub, lo_mul, lo_0, e_rem, em, hF, hF1, hV1.1, e1011, hs1]
  have h4 : (Int32.ofInt 4).toNatClampNeg = 4 := by decide
  try simp only [h4]
  intro q hq0
  have hn : w_n (s_I w o 11 (Int32.ofInt ((s : Int) + 1))) = w_n w := rfl
  rw [hn] at hl1
  have nF : ∀ g, 15 ≤ g → g ≤ 24 → (P g = 100 + q) = False := fun g g1 g2 => eq_false (by have := hl.2 g g1 g2; omega)
  have no : (o = 100 + q) = False := eq_false (by have := hl.1; omega)
  have nq : (100 + q = o) = False := eq_false (by have := hl.1; omega)
  have nQ : ∀ g, 15 ≤ g → g ≤ 24 → (100 + q = P g) = False := fun g g1 g2 => eq_false (by have := hl.2 g g1 g2; omega)
  have i0 : vp_in (Int32.ofInt 0) 4 = True := z_vp (by omega) (by omega) (by omega) (by omega)
  have i1 : vp_in (Int32.ofInt 1) 4 = True := z_vp (by omega) (by omega) (by omega) (by omega)
  have i2 : vp_in (Int32.ofInt 2) 4 = True := z_vp (by omega) (by omega) (by omega) (by omega)
  have i3 : vp_in (Int32.ofInt 3) 4 = True := z_vp (by omega) (by omega) (by omega) (by omega)
  have i2' : vp_in (Int32.ofInt 2) 6 = True := z_vp (by omega) (by omega) (by omega) (by omega)
  have c0 : (Int32.ofInt 0).toNatClampNeg = 0 := by decide
  have c1 : (Int32.ofInt 1).toNatClampNeg = 1 := by decide
  have c2 : (Int32.ofInt 2).toNatClampNeg = 2 := by decide
  have c3 : (Int32.ofInt 3).toNatClampNeg = 3 := by decide
  have hFO : FO (100 + w_n w) w (s_I w o 11 (Int32.ofInt ((s : Int) + 1))) → True := fun _ => trivial
  simp (disch := omega) only [wp_c, wp_n, jj_n, v_ct, Int.reduceToNat, Int.toNat_natCast, stE, wlE, lgt, lpu, lpw, v_c2, va_s, true_and, and_true, Option.toList, List.nil_append, List.cons_append, List.take, List.drop, List.reverse, List.reverseAux, List.length_cons, List.length_nil, reduceCtorEq, false_implies, true_implies, forall_const, not_true_eq_false, not_false_eq_true, ite_true, ite_false, Bool.false_eq_true, I_I, J_J, Nat.add_left_cancel_iff, Nat.reduceEqDiff, Nat.add_eq_left, Nat.left_eq_add, false_and, and_false, Nat.reduceSub, Nat.sub_self, Nat.le_refl, Nat.zero_le, ge_iff_le, Nat.reduceAdd, Nat.reduceLeDiff, Nat.zero_add, Nat.reduceLT, K_n, K_sh, K_I, K_R, N_sh, N_Rj, N_Ij, N_n, sh_I, R_I, N_I, hF1, hV1.1, nF, no, nq, nQ, hF, i0, i1, i2, i3, c0, c1, c2, c3, f1]
  generalize hw1 : s_I w o 11 (Int32.ofInt ((s : Int) + 1)) = w1 at h1 hF1 hV1 hl1 hn ⊢
  have b1 : FO b w w1 := by rw [← hw1]; exact (FO.refl _ _).I hg.1
  have k0 : FO (100 + w_n w1) w1 (s_N (s_K w1 q) (1, 4)) := (FO.refl _ _).N (by omega) (Nat.le_refl _)
  have k2 : FO (100 + w_n w1) w1 (s_I (s_I (s_N (s_K w1 q) (1, 4)) (100 + q) 0 (Int32.ofInt (D 7))) (100 + q) 1 (Int32.ofInt (D 4))) := (k0.I ⟨by omega, Or.inr (by omega)⟩).I ⟨by omega, Or.inr (by omega)⟩
  have h2 := h1.ext k2
  have hS1 : OS (up D 1011 ((s : Int) + 1)) := hS.e (fun j hj => f1 j (by omega))
  have ep : p_num (up D 1011 ((s : Int) + 1)) = p_num D := num_u (f1 0 (by omega)) (by omega) (fun j hj => f1 _ (by omega))
  refine z_pins h2 hS1 ?_
  rw [ep]
  have hl2 := h2.lt
  have hV2 := h2.V
  have hF2 := h2.F
  have e14 := hV2.2.2.2.2.2.2.2.2.1 2 (by omega)
  have e1042 := hV2.2.2.2.2.2.2.2.2.2.2 2 (by omega)
  rw [f1 _ (by omega)] at e14 e1042
  have k3 : FO (100 + w_n w1) w1 (s_I (s_I (s_I (s_N (s_K w1 q) (1, 4)) (100 + q) 0 (Int32.ofInt (D 7))) (100 + q) 1 (Int32.ofInt (D 4))) (100 + q) 2 (Int32.ofInt (p_num D))) := k2.I ⟨by omega, Or.inr (by omega)⟩
  have hlast : ∀ r : Int, r = (if D 1042 < D 14 then 1 else 0) → RT n_X10_goOn 550 [.ref o, .int x1, .int x2, v3, v4, v5] [.int (Int32.ofInt r), .int (Int32.ofInt 3), .ref (100 + q), .ref (100 + q), .int (Int32.ofInt s), .ref (P 24)] (s_I (s_I (s_I (s_N (s_K w1 q) (1, 4)) (100 + q) 0 (Int32.ofInt (D 7))) (100 + q) 1 (Int32.ofInt (D 4))) (100 + q) 2 (Int32.ofInt (p_num D))) (0, 0, false) Q := by
    intro r hr0
    refine rt_X10_goOn_550 ?_
    have hv30 : vp_in (Int32.ofInt (s : Int)) 30 = True := eq_true ((vp_oi ⟨by omega, by omega⟩).mpr ⟨by omega, by omega⟩)
    have hc30 : (Int32.ofInt (s : Int)).toNatClampNeg = s := by rw [oi_nc ⟨by omega, by omega⟩]; omega
    simp (disch := omega) only [wp_c, wp_n, jj_n, v_ct, Int.reduceToNat, Int.toNat_natCast, stE, wlE, lgt, lpu, lpw, v_c2, va_s, true_and, and_true, Option.toList, List.nil_append, List.cons_append, List.take, List.drop, List.reverse, List.reverseAux, List.length_cons, List.length_nil, reduceCtorEq, false_implies, true_implies, forall_const, not_true_eq_false, not_false_eq_true, ite_true, ite_false, Bool.false_eq_true, I_I, J_J, Nat.add_left_cancel_iff, Nat.reduceEqDiff, Nat.add_eq_left, Nat.left_eq_add, false_and, and_false, Nat.reduceSub, Nat.sub_self, Nat.le_refl, Nat.zero_le, ge_iff_le, Nat.reduceAdd, Nat.reduceLeDiff, Nat.zero_add, Nat.reduceLT, K_n, K_sh, K_I, K_R, N_sh, N_Rj, N_Ij, N_n, sh_I, R_I, N_I, hF1, nF, no, nq, nQ, hF, i3, c3, hv30, hc30, mr_X10_goOn]
    refine ⟨Or.inr rfl, ?_⟩
    have k4 : FO (100 + w_n w1) w1 (s_I (s_I (s_I (s_I (s_N (s_K w1 q) (1, 4)) (100 + q) 0 (Int32.ofInt (D 7))) (100 + q) 1 (Int32.ofInt (D 4))) (100 + q) 2 (Int32.ofInt (p_num D))) (100 + q) 3 (Int32.ofInt r)) := k3.I ⟨by omega, Or.inr (by omega)⟩
    have h4 := h1.ext k4
    subst hr0
    refine hq _ (h4.slog (q := 100 + q) (C := o_lg D s (if D 1042 < D 14 then 1 else 0)) (i := s) (by omega) ?_ ?_ (fun k hk => ?_) (fun j hj hj2 => ?_) ?_) ((b1.trans (k4.low (by omega))).R (hg.2 24 (by omega) (by omega)))
    · simp only [sh_I, N_sh, K_n, ite_true]
    · show 100 + q < 100 + (q + 1)
      omega
    · rw [lg_at, if_neg (show ¬ 132 + 4 * s + k = 18 by omega)]
      simp only [I_I]
      rcases (show k = 0 ∨ k = 1 ∨ k = 2 ∨ k = 3 by omega) with rfl | rfl | rfl | rfl <;> simp
    · simp only [o_lg, up_eq]
      rw [if_neg hj2, if_neg (by omega), if_neg (by omega), if_neg (by omega), if_neg (by omega)]
    · have e18 : o_lg D s (if D 1042 < D 14 then 1 else 0) 18 = (s : Int) + 1 := by rw [o_lg, up_eq, if_pos rfl]
      rw [e18, f1 18 (by omega)]
      rcases hs with z | z <;> omega
  simp (disch := omega) only [wp_c, wp_n, jj_n, v_ct, Int.reduceToNat, Int.toNat_natCast, stE, wlE, lgt, lpu, lpw, v_c2, va_s, true_and, and_true, Option.toList, List.nil_append, List.cons_append, List.take, List.drop, List.reverse, List.reverseAux, List.length_cons, List.length_nil, reduceCtorEq, false_implies, true_implies, forall_const, not_true_eq_false, not_false_eq_true, ite_true, ite_false, Bool.false_eq_true, I_I, J_J, Nat.add_left_cancel_iff, Nat.reduceEqDiff, Nat.add_eq_left, Nat.left_eq_add, false_and, and_false, Nat.reduceSub, Nat.sub_self, Nat.le_refl, Nat.zero_le, ge_iff_le, Nat.reduceAdd, Nat.reduceLeDiff, Nat.zero_add, Nat.reduceLT, z_lt, z_le, z_eq, z_l0, z_g0, z_le0, z_ge0, z_e0, z_e1, z_vp, z_nc, z_rem, z_div, i_ltT, i_ltF, i_leT, i_leF, i_eqT, i_eqF, n_ltT, n_ltF, n_leT, n_leF, n_eqT, n_eqF, tn_9, tn_12, tn_14, tn_20, tn_28, tn_44, tn_52, tn_68, tn_84, tn_100, tn_116, tn_132, fu_e, up_eq, ob_0, ob_b, oi_add, oi_sub, oi_mul, oi_neg, Int.add_zero, Int.zero_add, or_true, true_or, or_false, false_or, and_self, z_i2l, z_l2i, lo_nat, lo_add, lo_sub, lo_mul, lo_0, e_rem, K_n, K_sh, K_I, K_R, N_sh, N_Rj, N_Ij, N_n, sh_I, R_I, N_I, hF1, hF2, nF, no, nq, nQ, hF, i2, i2', c2, e14, e1042]
  have hr1 := hr.1
  have hr2 := hr.2
  unfold inR at hr1 hr2
  by_cases hb : D 1042 < D 14
  · simp (disch := omega) only [wp_c, wp_n, jj_n, v_ct, Int.reduceToNat, Int.toNat_natCast, stE, wlE, lgt, lpu, lpw, v_c2, va_s, true_and, and_true, Option.toList, List.nil_append, List.cons_append, List.take, List.drop, List.reverse, List.reverseAux, List.length_cons, List.length_nil, reduceCtorEq, false_implies, true_implies, forall_const, not_true_eq_false, not_false_eq_true, ite_true, ite_false, Bool.false_eq_true, I_I, J_J, Nat.add_left_cancel_iff, Nat.reduceEqDiff, Nat.add_eq_left, Nat.left_eq_add, false_and, and_false, Nat.reduceSub, Nat.sub_self, Nat.le_refl, Nat.zero_le, ge_iff_le, Nat.reduceAdd, Nat.reduceLeDiff, Nat.zero_add, Nat.reduceLT, z_lt, z_le, z_eq, z_l0, z_g0, z_le0, z_ge0, z_e0, z_e1, z_vp, z_nc, z_rem, z_div, i_ltT, i_ltF, i_leT, i_leF, i_eqT, i_eqF, n_ltT, n_ltF, n_leT, n_leF, n_eqT, n_eqF, tn_9, tn_12, tn_14, tn_20, tn_28, tn_44, tn_52, tn_68, tn_84, tn_100, tn_116, tn_132, fu_e, up_eq, ob_0, ob_b, oi_add, oi_sub, oi_mul, oi_neg, Int.add_zero, Int.zero_add, or_true, true_or, or_false, false_or, and_self, z_i2l, z_l2i, lo_nat, lo_add, lo_sub, lo_mul, lo_0, e_rem]
    exact hlast 1 (by rw [if_pos hb])
  · simp (disch := omega) only [wp_c, wp_n, jj_n, v_ct, Int.reduceToNat, Int.toNat_natCast, stE, wlE, lgt, lpu, lpw, v_c2, va_s, true_and, and_true, Option.toList, List.nil_append, List.cons_append, List.take, List.drop, List.reverse, List.reverseAux, List.length_cons, List.length_nil, reduceCtorEq, false_implies, true_implies, forall_const, not_true_eq_false, not_false_eq_true, ite_true, ite_false, Bool.false_eq_true, I_I, J_J, Nat.add_left_cancel_iff, Nat.reduceEqDiff, Nat.add_eq_left, Nat.left_eq_add, false_and, and_false, Nat.reduceSub, Nat.sub_self, Nat.le_refl, Nat.zero_le, ge_iff_le, Nat.reduceAdd, Nat.reduceLeDiff, Nat.zero_add, Nat.reduceLT, z_lt, z_le, z_eq, z_l0, z_g0, z_le0, z_ge0, z_e0, z_e1, z_vp, z_nc, z_rem, z_div, i_ltT, i_ltF, i_leT, i_leF, i_eqT, i_eqF, n_ltT, n_ltF, n_leT, n_leF, n_eqT, n_eqF, tn_9, tn_12, tn_14, tn_20, tn_28, tn_44, tn_52, tn_68, tn_84, tn_100, tn_116, tn_132, fu_e, up_eq, ob_0, ob_b, oi_add, oi_sub, oi_mul, oi_neg, Int.add_zero, Int.zero_add, or_true, true_or, or_false, false_or, and_self, z_i2l, z_l2i, lo_nat, lo_add, lo_sub, lo_mul, lo_0, e_rem]
    refine rt_X10_goOn_549 ?_
    simp only [wp_c, wp_n, jj_n, v_ct, Int.reduceToNat, Int.toNat_natCast, stE, wlE, lgt, lpu, lpw, v_c2, va_s, true_and, and_true, Option.toList, List.nil_append, List.cons_append, List.take, List.drop, List.reverse, List.reverseAux, List.length_cons, List.length_nil, reduceCtorEq, false_implies, true_implies, forall_const, not_true_eq_false, not_false_eq_true, ite_true, ite_false, Bool.false_eq_true, I_I, J_J, Nat.add_left_cancel_iff, Nat.reduceEqDiff, Nat.add_eq_left, Nat.left_eq_add, false_and, and_false, Nat.reduceSub, Nat.sub_self, Nat.le_refl, Nat.zero_le, ge_iff_le, Nat.reduceAdd, Nat.reduceLeDiff, Nat.zero_add, Nat.reduceLT]
    exact hlast 0 (by rw [if_neg hb])
def o_sh (B : Row) (i : Nat) : Row := fun j => if 132 ≤ j ∧ j < 132 + 4 * i then B (j + 4) else B j
theorem z_end_444 {b o : Nat} {P : Nat → Nat} {B : Row} {x1 x2 : Int32} {v4 v5 : Value} {w0 : mW} {Q : mW → mO → Prop} (h18 : B 18 = 30) (h11 : B 1011 = 30)
  (hq : ∀ w' v3, OW w' b o P (o_sh B 29) → FO b w0 w' → RT n_X10_goOn 479 [.ref o, .int x1, .int x2, v3, v4, v5] [] w' (1, 4, false) Q) : ∀ (n i : Nat) (w : mW), i + n = 29 → OW w b o P (o_sh B i) → FO b w0 w → RT n_X10_goOn 444 [.ref o, .int x1, .int x2, .int (Int32.ofInt i), v4, v5] [] w (1, 4, false) Q := by
  intro n
  induction n with
  | zero =>
    intro i w hi h hf
    have e : i = 29 := by omega
    subst e
    refine rt_X10_goOn_444 ?_
    simp (disch := omega) only [wp_c, wp_n, jj_n, v_ct, Int.reduceToNat, Int.toNat_natCast, stE, wlE, lgt, lpu, lpw, v_c2, va_s, true_and, and_true, Option.toList, List.nil_append, List.cons_append, List.take, List.drop, List.reverse, List.reverseAux, List.length_cons, List.length_nil, reduceCtorEq, false_implies, true_implies, forall_const, not_true_eq_false, not_false_eq_true, ite_true, ite_false, Bool.false_eq_true, I_I, J_J, Nat.add_left_cancel_iff, Nat.reduceEqDiff, Nat.add_eq_left, Nat.left_eq_add, false_and, and_false, Nat.reduceSub, Nat.sub_self, Nat.le_refl, Nat.zero_le, ge_iff_le, Nat.reduceAdd, Nat.reduceLeDiff, Nat.zero_add, Nat.reduceLT, z_lt, z_le, z_eq, z_l0, z_g0, z_le0, z_ge0, z_e0, z_e1, z_vp, z_nc, z_rem, z_div, i_ltT, i_ltF, i_leT, i_leF, i_eqT, i_eqF, n_ltT, n_ltF, n_leT, n_leF, n_eqT, n_eqF, tn_9, tn_12, tn_14, tn_20, tn_28, tn_44, tn_52, tn_68, tn_84, tn_100, tn_116, tn_132, fu_e, up_eq, ob_0, ob_b, oi_add, oi_sub, oi_mul, oi_neg, Int.add_zero, Int.zero_add, or_true, true_or, or_false, false_or, and_self, z_i2l, z_l2i, lo_nat, lo_add, lo_sub, lo_mul, lo_0, e_rem]
    exact hq w _ h hf
  | succ n ih =>
    intro i w hi h hf
    have hF := h.F
    have hV := h.V
    have hg := h.ge
    have e11 : o_sh B i 1011 = 30 := by unfold o_sh; rw [if_neg (by omega)]; exact h11
    have e18 : o_sh B i 18 = 30 := by unfold o_sh; rw [if_neg (by omega)]; exact h18
    obtain ⟨q, q1, q2, q3, q4⟩ := h.2.2.2 (i + 1) (by omega)
    refine rt_X10_goOn_444 ?_
    have hc1 : ((i : Int) + 1) = ((i + 1 : Nat) : Int) := by omega
    simp (disch := omega) only [wp_c, wp_n, jj_n, v_ct, Int.reduceToNat, Int.toNat_natCast, stE, wlE, lgt, lpu, lpw, v_c2, va_s, true_and, and_true, Option.toList, List.nil_append, List.cons_append, List.take, List.drop, List.reverse, List.reverseAux, List.length_cons, List.length_nil, reduceCtorEq, false_implies, true_implies, forall_const, not_true_eq_false, not_false_eq_true, ite_true, ite_false, Bool.false_eq_true, I_I, J_J, Nat.add_left_cancel_iff, Nat.reduceEqDiff, Nat.add_eq_left, Nat.left_eq_add, false_and, and_false, Nat.reduceSub, Nat.sub_self, Nat.le_refl, Nat.zero_le, ge_iff_le, Nat.reduceAdd, Nat.reduceLeDiff, Nat.zero_add, Nat.reduceLT, z_lt, z_le, z_eq, z_l0, z_g0, z_le0, z_ge0, z_e0, z_e1, z_vp, z_nc, z_rem, z_div, i_ltT, i_ltF, i_leT, i_leF, i_eqT, i_eqF, n_ltT, n_ltF, n_leT, n_leF, n_eqT, n_eqF, tn_9, tn_12, tn_14, tn_20, tn_28, tn_44, tn_52, tn_68, tn_84, tn_100, tn_116, tn_132, fu_e, up_eq, ob_0, ob_b, oi_add, oi_sub, oi_mul, oi_neg, Int.add_zero, Int.zero_add, or_true, true_or, or_false, false_or, and_self, z_i2l, z_l2i, lo_nat, lo_add, lo_sub, lo_mul, lo_0, e_rem, hF, hV.1, e11, hc1, q1, q2]
    refine ih (i + 1) _ (by omega) (h.slog (q := q) (by omega) q2 q3 (fun k hk => ?_) (fun j hj hj2 => ?_) ?_) (hf.R' (hg.2 24 (by omega) (by omega)))
    · rw [q4 k hk]
      unfold o_sh
      rw [if_neg (by omega), if_pos (by omega), show 132 + 4 * i + k + 4 = 132 + 4 * (i + 1) + k by omega]
    · unfold o_sh
      by_cases z : 132 ≤ j ∧ j < 132 + 4 * i
      · rw [if_pos (by omega), if_pos z]
      · rw [if_neg (by omega), if_neg z]
    · have : o_sh B (i + 1) 18 = 30 := by unfold o_sh; rw [if_neg (by omega)]; exact h18
      omega
/-- the book's new row -/
def o_book (B : Row) (r : Int) : Row := if B 18 = 30 then o_lg (o_sh B 29) 29 r else o_lg B (B 18).toNat r
theorem z_end_442 {b o : Nat} {P : Nat → Nat} {B : Row} {x1 x2 : Int32} {v4 v5 : Value} {w : mW} {Q : mW → mO → Prop} (h : OW w b o P B) (hS : OS B) (h11 : B 1011 = B 18) (hr : inR (B 14) ∧ inR (B 1042))
  (hq : ∀ w', OW w' b o P (o_book B (if B 1042 < B 14 then 1 else 0)) → FO b w w' → Q w' (.inl (some (.int (Int32.ofInt 1))))) : RT n_X10_goOn 444 [.ref o, .int x1, .int x2, .int (Int32.ofInt 0), v4, v5] [] w (1, 4, false) Q := by
  have h18 := h.2.2.1
  by_cases e : B 18 = 30
  · have z : o_sh B 0 = B := by funext j; unfold o_sh; rw [if_neg (by omega)]
    have f : ∀ j, (j < 132 ∨ 248 ≤ j) → o_sh B 29 j = B j := fun j hj => by unfold o_sh; rw [if_neg (by omega)]
    refine z_end_444 (B := B) (w0 := w) e (by omega) (fun w1 v3 k1 k2 => ?_) 29 0 w (by omega) (by rw [z]; exact h) (FO.refl _ _)
    refine z_end_479 (s := 29) k1 (hS.e (fun j hj => f j (by omega))) (Or.inr ⟨by rw [f _ (by omega)]; exact e, rfl, by rw [f _ (by omega)]; omega⟩) (by rw [f _ (by omega), f _ (by omega)]; exact hr) fun w2 m1 m2 => ?_
    rw [f _ (by omega), f _ (by omega)] at m1
    refine hq w2 ?_ (k2.trans m2)
    unfold o_book
    rw [if_pos e]
    exact m1
  · have hF := h.F
    have hV := h.V
    refine rt_X10_goOn_444 ?_
    simp (disch := omega) only [wp_c, wp_n, jj_n, v_ct, Int.reduceToNat, Int.toNat_natCast, stE, wlE, lgt, lpu, lpw, v_c2, va_s, true_and, and_true, Option.toList, List.nil_append, List.cons_append, List.take, List.drop, List.reverse, List.reverseAux, List.length_cons, List.length_nil, reduceCtorEq, false_implies, true_implies, forall_const, not_true_eq_false, not_false_eq_true, ite_true, ite_false, Bool.false_eq_true, I_I, J_J, Nat.add_left_cancel_iff, Nat.reduceEqDiff, Nat.add_eq_left, Nat.left_eq_add, false_and, and_false, Nat.reduceSub, Nat.sub_self, Nat.le_refl, Nat.zero_le, ge_iff_le, Nat.reduceAdd, Nat.reduceLeDiff, Nat.zero_add, Nat.reduceLT, z_lt, z_le, z_eq, z_l0, z_g0, z_le0, z_ge0, z_e0, z_e1, z_vp, z_nc, z_rem, z_div, i_ltT, i_ltF, i_leT, i_leF, i_eqT, i_eqF, n_ltT, n_ltF, n_leT, n_leF, n_eqT, n_eqF, tn_9, tn_12, tn_14, tn_20, tn_28, tn_44, tn_52, tn_68, tn_84, tn_100, tn_116, tn_132, fu_e, up_eq, ob_0, ob_b, oi_add, oi_sub, oi_mul, oi_neg, Int.add_zero, Int.zero_add, or_true, true_or, or_false, false_or, and_self, z_i2l, z_l2i, lo_nat, lo_add, lo_sub, lo_mul, lo_0, e_rem, hF, hV.1]
    refine z_end_479 (s := (B 18).toNat) h hS (Or.inl ⟨by omega, by omega, by omega⟩) hr fun w2 m1 m2 => ?_
    refine hq w2 ?_ m2
    unfold o_book
    rw [if_neg e]
    exact m1
def o_sg (B : Row) : Int := if 0 < B 8 then -B 7 else B 7
def o_c (B : Row) : Int := if B 4 < B 2 then (B 1013 + o_sg B * 10 ^ (B 4).toNat) % 10 ^ (B 2).toNat else B 1013
def o_d (B : Row) : Int := (B 1014 + B 7 * (p_num B * 10 ^ (B 4).toNat)) % 10 ^ (B 1).toNat
def o_cts (B : Row) : Row := up (up B 12 (B 12 + 1)) 13 (B 13 + (if B 7 < 0 then 1 else 0))
def o_end (B : Row) : Row := o_book (o_cts (up (up B 1013 (o_c B)) 1014 (o_d B))) (if B 1042 < B 14 then 1 else 0)
theorem p8 (n : Nat) (h : n ≤ 8) : 0 < (10 : Int) ^ n ∧ (10 : Int) ^ n ≤ 100000000 := by
  rcases (show n = 0 ∨ n = 1 ∨ n = 2 ∨ n = 3 ∨ n = 4 ∨ n = 5 ∨ n = 6 ∨ n = 7 ∨ n = 8 by omega) with rfl | rfl | rfl | rfl | rfl | rfl | rfl | rfl | rfl <;> decide
theorem p_os {B : Row} (hS : OS B) : 0 ≤ p_num B ∧ p_num B < 100000000 := by
  have h0 := hS.1
  have h := hn_b (fun i => B (20 + i)) (B 0).toNat 0 (fun i hi => hS.2.1 i (by omega)) (by omega)
  have hp := p8 (B 0).toNat (by omega)
  unfold p_num
  omega
theorem z_end_374 {b o : Nat} {P : Nat → Nat} {B : Row} {x1 x2 : Int32} {v3 v4 v5 : Value} {w : mW} {Q : mW → mO → Prop} (h : OW w b o P B) (hS : OS B) (h7 : B 7 = 1 ∨ B 7 = -1) (h11 : B 1011 = B 18) (hr : inR (B 14) ∧ inR (B 1042)) (hd : 0 ≤ B 1014 ∧ B 1014 < 10000000000000000)
  (hq : ∀ w', OW w' b o P (o_book (o_cts (up B 1014 (o_d B))) (if B 1042 < B 14 then 1 else 0)) → FO b w w' → Q w' (.inl (some (.int (Int32.ofInt 1))))) : RT n_X10_goOn 374 [.ref o, .int x1, .int x2, v3, v4, v5] [] w (1, 4, false) Q := by
  have hF := h.F
  have hV := h.V
  have hg := h.ge
  have h0 := hS.1
  have hp := p_os hS
  have p4 := p16 (B 4).toNat (by omega)
  have p1 := p16 (B 1).toNat (by omega)
  have g21 := hg.2 21 (by omega) (by omega)
  refine rt_X10_goOn_374 ?_
  simp (disch := omega) only [wp_c, wp_n, jj_n, v_ct, Int.reduceToNat, Int.toNat_natCast, stE, wlE, lgt, lpu, lpw, v_c2, va_s, true_and, and_true, Option.toList, List.nil_append, List.cons_append, List.take, List.drop, List.reverse, List.reverseAux, List.length_cons, List.length_nil, reduceCtorEq, false_implies, true_implies, forall_const, not_true_eq_false, not_false_eq_true, ite_true, ite_false, Bool.false_eq_true, I_I, J_J, Nat.add_left_cancel_iff, Nat.reduceEqDiff, Nat.add_eq_left, Nat.left_eq_add, false_and, and_false, Nat.reduceSub, Nat.sub_self, Nat.le_refl, Nat.zero_le, ge_iff_le, Nat.reduceAdd, Nat.reduceLeDiff, Nat.zero_add, Nat.reduceLT, z_lt, z_le, z_eq, z_l0, z_g0, z_le0, z_ge0, z_e0, z_e1, z_vp, z_nc, z_rem, z_div, i_ltT, i_ltF, i_leT, i_leF, i_eqT, i_eqF, n_ltT, n_ltF, n_leT, n_leF, n_eqT, n_eqF, tn_9, tn_12, tn_14, tn_20, tn_28, tn_44, tn_52, tn_68, tn_84, tn_100, tn_116, tn_132, fu_e, up_eq, ob_0, ob_b, oi_add, oi_sub, oi_mul, oi_neg, Int.add_zero, Int.zero_add, or_true, true_or, or_false, false_or, and_self, z_i2l, z_l2i, lo_nat, lo_add, lo_sub, lo_mul, lo_0, e_rem, hF, hV.1, hV.2.1, mh_X10_goOn]
  refine z_pins h hS ?_
  have hb : -100000000 < B 7 * p_num B ∧ B 7 * p_num B < 100000000 := by rcases h7 with e | e <;> rw [e] <;> constructor <;> omega
  simp (disch := omega) only [wp_c, wp_n, jj_n, v_ct, Int.reduceToNat, Int.toNat_natCast, stE, wlE, lgt, lpu, lpw, v_c2, va_s, true_and, and_true, Option.toList, List.nil_append, List.cons_append, List.take, List.drop, List.reverse, List.reverseAux, List.length_cons, List.length_nil, reduceCtorEq, false_implies, true_implies, forall_const, not_true_eq_false, not_false_eq_true, ite_true, ite_false, Bool.false_eq_true, I_I, J_J, Nat.add_left_cancel_iff, Nat.reduceEqDiff, Nat.add_eq_left, Nat.left_eq_add, false_and, and_false, Nat.reduceSub, Nat.sub_self, Nat.le_refl, Nat.zero_le, ge_iff_le, Nat.reduceAdd, Nat.reduceLeDiff, Nat.zero_add, Nat.reduceLT, z_lt, z_le, z_eq, z_l0, z_g0, z_le0, z_ge0, z_e0, z_e1, z_vp, z_nc, z_rem, z_div, i_ltT, i_ltF, i_leT, i_leF, i_eqT, i_eqF, n_ltT, n_ltF, n_leT, n_leF, n_eqT, n_eqF, tn_9, tn_12, tn_14, tn_20, tn_28, tn_44, tn_52, tn_68, tn_84, tn_100, tn_116, tn_132, fu_e, up_eq, ob_0, ob_b, oi_add, oi_sub, oi_mul, oi_neg, Int.add_zero, Int.zero_add, or_true, true_or, or_false, false_or, and_self, z_i2l, z_l2i, lo_nat, lo_add, lo_sub, lo_mul, lo_0, e_rem, hF, hV.1, hV.2.1, mh_X10_goOn]
  refine z_ten ⟨by omega, by omega⟩ ?_
  simp (disch := omega) only [wp_c, wp_n, jj_n, v_ct, Int.reduceToNat, Int.toNat_natCast, stE, wlE, lgt, lpu, lpw, v_c2, va_s, true_and, and_true, Option.toList, List.nil_append, List.cons_append, List.take, List.drop, List.reverse, List.reverseAux, List.length_cons, List.length_nil, reduceCtorEq, false_implies, true_implies, forall_const, not_true_eq_false, not_false_eq_true, ite_true, ite_false, Bool.false_eq_true, I_I, J_J, Nat.add_left_cancel_iff, Nat.reduceEqDiff, Nat.add_eq_left, Nat.left_eq_add, false_and, and_false, Nat.reduceSub, Nat.sub_self, Nat.le_refl, Nat.zero_le, ge_iff_le, Nat.reduceAdd, Nat.reduceLeDiff, Nat.zero_add, Nat.reduceLT, z_lt, z_le, z_eq, z_l0, z_g0, z_le0, z_ge0, z_e0, z_e1, z_vp, z_nc, z_rem, z_div, i_ltT, i_ltF, i_leT, i_leF, i_eqT, i_eqF, n_ltT, n_ltF, n_leT, n_leF, n_eqT, n_eqF, tn_9, tn_12, tn_14, tn_20, tn_28, tn_44, tn_52, tn_68, tn_84, tn_100, tn_116, tn_132, fu_e, up_eq, ob_0, ob_b, oi_add, oi_sub, oi_mul, oi_neg, Int.add_zero, Int.zero_add, or_true, true_or, or_false, false_or, and_self, z_i2l, z_l2i, lo_nat, lo_add, lo_sub, lo_mul, lo_0, e_rem, hF, hV.1, hV.2.1, mh_X10_goOn]
  refine z_ten ⟨by omega, by omega⟩ ?_
  simp (disch := omega) only [wp_c, wp_n, jj_n, v_ct, Int.reduceToNat, Int.toNat_natCast, stE, wlE, lgt, lpu, lpw, v_c2, va_s, true_and, and_true, Option.toList, List.nil_append, List.cons_append, List.take, List.drop, List.reverse, List.reverseAux, List.length_cons, List.length_nil, reduceCtorEq, false_implies, true_implies, forall_const, not_true_eq_false, not_false_eq_true, ite_true, ite_false, Bool.false_eq_true, I_I, J_J, Nat.add_left_cancel_iff, Nat.reduceEqDiff, Nat.add_eq_left, Nat.left_eq_add, false_and, and_false, Nat.reduceSub, Nat.sub_self, Nat.le_refl, Nat.zero_le, ge_iff_le, Nat.reduceAdd, Nat.reduceLeDiff, Nat.zero_add, Nat.reduceLT, z_lt, z_le, z_eq, z_l0, z_g0, z_le0, z_ge0, z_e0, z_e1, z_vp, z_nc, z_rem, z_div, i_ltT, i_ltF, i_leT, i_leF, i_eqT, i_eqF, n_ltT, n_ltF, n_leT, n_leF, n_eqT, n_eqF, tn_9, tn_12, tn_14, tn_20, tn_28, tn_44, tn_52, tn_68, tn_84, tn_100, tn_116, tn_132, fu_e, up_eq, ob_0, ob_b, oi_add, oi_sub, oi_mul, oi_neg, Int.add_zero, Int.zero_add, or_true, true_or, or_false, false_or, and_self, z_i2l, z_l2i, lo_nat, lo_add, lo_sub, lo_mul, lo_0, e_rem, hF, hV.1, hV.2.1, mh_X10_goOn]
  have p4' : (10 : Int) ^ (B 4).toNat * p_num B < 10000000000000000 := by
    have e := Int.pow_add (10 : Int) (B 4).toNat (B 0).toNat
    have hpn := hn_b (fun i => B (20 + i)) (B 0).toNat 0 (fun i hi => hS.2.1 i (by omega)) (by omega)
    have hpn2 : p_num B < 10 ^ (B 0).toNat := by unfold p_num; omega
    have := Int.mul_lt_mul_of_pos_left hpn2 p4.1
    have h16 := p16 ((B 4).toNat + (B 0).toNat) (by omega)
    omega
  have p4'' : 0 ≤ (10 : Int) ^ (B 4).toNat * p_num B := Int.mul_nonneg (Int.le_of_lt p4.1) hp.1
  have em : B 7 * p_num B * 10 ^ (B 4).toNat = B 7 * (10 ^ (B 4).toNat * p_num B) := by rw [Int.mul_assoc, Int.mul_comm (p_num B)]
  have hin : inL (B 1014 + B 7 * p_num B * 10 ^ (B 4).toNat) := by
    rw [em]
    generalize (10 : Int) ^ (B 4).toNat * p_num B = z at p4' p4''
    rcases h7 with e | e <;> rw [e] <;> constructor <;> omega
  refine z_within hin ⟨p1.1, by omega⟩ ?_
  have ed : (B 1014 + B 7 * p_num B * 10 ^ (B 4).toNat) % 10 ^ (B 1).toNat = o_d B := by unfold o_d; rw [Int.mul_assoc]
  rw [ed]
  have h1 := h.sdue (v := o_d B)
  have f1 : ∀ j, ¬ j = 1014 → up B 1014 (o_d B) j = B j := fun j hj => by rw [up_eq, if_neg hj]
  have h2 := h1.scts (j := 0) (v := B 12 + 1) (by omega)
  have hV1 := h1.V
  have hF1 := h1.F
  have hV2 := h2.V
  have hF2 := h2.F
  have e12 := hV1.2.2.2.2.2.2.2.2.1 0 (by omega)
  rw [f1 _ (by omega)] at e12
  have e13 := hV2.2.2.2.2.2.2.2.2.1 1 (by omega)
  rw [up_eq, if_neg (by omega), f1 _ (by omega)] at e13
  have i0 : vp_in (Int32.ofInt 0) 6 = True := z_vp (by omega) (by omega) (by omega) (by omega)
  have i1 : vp_in (Int32.ofInt 1) 6 = True := z_vp (by omega) (by omega) (by omega) (by omega)
  have c0 : (Int32.ofInt 0).toNatClampNeg = 0 := by decide
  have c1 : (Int32.ofInt 1).toNatClampNeg = 1 := by decide
  have F2 : FO b w (s_I (s_J w o 14 (Int64.ofInt (o_d B))) (P 21) 0 (Int32.ofInt (B 12 + 1))) := ((FO.refl _ _).J hg.1).I g21
  have h440 : ∀ z : Int, z = (if B 7 < 0 then 1 else 0) → RT n_X10_goOn 440 [.ref o, .int x1, .int x2, v3, v4, v5] [.int (Int32.ofInt z), .int (Int32.ofInt (B 13)), .int (Int32.ofInt 1), .ref (P 21)] (s_I (s_J w o 14 (Int64.ofInt (o_d B))) (P 21) 0 (Int32.ofInt (B 12 + 1))) (1, 4, false) Q := by
    intro z hz
    have h3 := h2.scts (j := 1) (v := B 13 + z) (by omega)
    refine rt_X10_goOn_440 ?_
    simp (disch := omega) only [wp_c, wp_n, jj_n, v_ct, Int.reduceToNat, Int.toNat_natCast, stE, wlE, lgt, lpu, lpw, v_c2, va_s, true_and, and_true, Option.toList, List.nil_append, List.cons_append, List.take, List.drop, List.reverse, List.reverseAux, List.length_cons, List.length_nil, reduceCtorEq, false_implies, true_implies, forall_const, not_true_eq_false, not_false_eq_true, ite_true, ite_false, Bool.false_eq_true, I_I, J_J, Nat.add_left_cancel_iff, Nat.reduceEqDiff, Nat.add_eq_left, Nat.left_eq_add, false_and, and_false, Nat.reduceSub, Nat.sub_self, Nat.le_refl, Nat.zero_le, ge_iff_le, Nat.reduceAdd, Nat.reduceLeDiff, Nat.zero_add, Nat.reduceLT, z_lt, z_le, z_eq, z_l0, z_g0, z_le0, z_ge0, z_e0, z_e1, z_vp, z_nc, z_rem, z_div, i_ltT, i_ltF, i_leT, i_leF, i_eqT, i_eqF, n_ltT, n_ltF, n_leT, n_leF, n_eqT, n_eqF, tn_9, tn_12, tn_14, tn_20, tn_28, tn_44, tn_52, tn_68, tn_84, tn_100, tn_116, tn_132, fu_e, up_eq, ob_0, ob_b, oi_add, oi_sub, oi_mul, oi_neg, Int.add_zero, Int.zero_add, or_true, true_or, or_false, false_or, and_self, z_i2l, z_l2i, lo_nat, lo_add, lo_sub, lo_mul, lo_0, e_rem, hF2, i1, c1]
    subst hz
    have ec : o_cts (up B 1014 (o_d B)) = up (up (up B 1014 (o_d B)) (12 + 0) (B 12 + 1)) (12 + 1) (B 13 + (if B 7 < 0 then 1 else 0)) := by
      unfold o_cts
      rw [f1 12 (by omega), f1 13 (by omega), f1 7 (by omega)]
    rw [← ec] at h3
    have g : ∀ j, ¬ j = 1014 → ¬ j = 12 → ¬ j = 13 → o_cts (up B 1014 (o_d B)) j = B j := by
      intro j k1 k2 k3
      rw [ec, up_eq, if_neg (by omega), up_eq, if_neg (by omega), f1 _ k1]
    refine z_end_442 h3 (hS.e (fun j hj => g j (by omega) (by omega) (by omega))) (by rw [g _ (by omega) (by omega) (by omega), g _ (by omega) (by omega) (by omega)]; exact h11) (by rw [g _ (by omega) (by omega) (by omega), g _ (by omega) (by omega) (by omega)]; exact hr) fun w4 m1 m2 => ?_
    rw [g _ (by omega) (by omega) (by omega), g _ (by omega) (by omega) (by omega)] at m1
    exact hq w4 m1 ((F2.I g21).trans m2)
  have v8 : w_I w o 8 = Int32.ofInt (B 7) := hV.1.2.2.2.2.2.2.2.2.1
  have e12' : w_I w (P 21) 0 = Int32.ofInt (B 12) := hV.2.2.2.2.2.2.2.2.1 0 (by omega)
  have e13' : w_I w (P 21) 1 = Int32.ofInt (B 13) := hV.2.2.2.2.2.2.2.2.1 1 (by omega)
  rcases h7 with e | e
  · have l7 : ¬ B 7 < 0 := by omega
    simp (disch := omega) only [wp_c, wp_n, jj_n, v_ct, Int.reduceToNat, Int.toNat_natCast, stE, wlE, lgt, lpu, lpw, v_c2, va_s, true_and, and_true, Option.toList, List.nil_append, List.cons_append, List.take, List.drop, List.reverse, List.reverseAux, List.length_cons, List.length_nil, reduceCtorEq, false_implies, true_implies, forall_const, not_true_eq_false, not_false_eq_true, ite_true, ite_false, Bool.false_eq_true, I_I, J_J, Nat.add_left_cancel_iff, Nat.reduceEqDiff, Nat.add_eq_left, Nat.left_eq_add, false_and, and_false, Nat.reduceSub, Nat.sub_self, Nat.le_refl, Nat.zero_le, ge_iff_le, Nat.reduceAdd, Nat.reduceLeDiff, Nat.zero_add, Nat.reduceLT, z_lt, z_le, z_eq, z_l0, z_g0, z_le0, z_ge0, z_e0, z_e1, z_vp, z_nc, z_rem, z_div, i_ltT, i_ltF, i_leT, i_leF, i_eqT, i_eqF, n_ltT, n_ltF, n_leT, n_leF, n_eqT, n_eqF, tn_9, tn_12, tn_14, tn_20, tn_28, tn_44, tn_52, tn_68, tn_84, tn_100, tn_116, tn_132, fu_e, up_eq, ob_0, ob_b, oi_add, oi_sub, oi_mul, oi_neg, Int.add_zero, Int.zero_add, or_true, true_or, or_false, false_or, and_self, z_i2l, z_l2i, lo_nat, lo_add, lo_sub, lo_mul, lo_0, e_rem, hF, hF1, hF2, hV1.1, hV2.1, e12, e13, i0, i1, c0, c1, J_I, I_J, sh_J, R_J, f1, v8, e12', e13', e]
    refine rt_X10_goOn_439 ?_
    simp only [wp_c, wp_n, jj_n, v_ct, Int.reduceToNat, Int.toNat_natCast, stE, wlE, lgt, lpu, lpw, v_c2, va_s, true_and, and_true, Option.toList, List.nil_append, List.cons_append, List.take, List.drop, List.reverse, List.reverseAux, List.length_cons, List.length_nil, reduceCtorEq, false_implies, true_implies, forall_const, not_true_eq_false, not_false_eq_true, ite_true, ite_false, Bool.false_eq_true, I_I, J_J, Nat.add_left_cancel_iff, Nat.reduceEqDiff, Nat.add_eq_left, Nat.left_eq_add, false_and, and_false, Nat.reduceSub, Nat.sub_self, Nat.le_refl, Nat.zero_le, ge_iff_le, Nat.reduceAdd, Nat.reduceLeDiff, Nat.zero_add, Nat.reduceLT]
    have := h440 0 (by rw [if_neg l7])
    exact this
  · have l7 : B 7 < 0 := by omega
    simp (disch := omega) only [wp_c, wp_n, jj_n, v_ct, Int.reduceToNat, Int.toNat_natCast, stE, wlE, lgt, lpu, lpw, v_c2, va_s, true_and, and_true, Option.toList, List.nil_append, List.cons_append, List.take, List.drop, List.reverse, List.reverseAux, List.length_cons, List.length_nil, reduceCtorEq, false_implies, true_implies, forall_const, not_true_eq_false, not_false_eq_true, ite_true, ite_false, Bool.false_eq_true, I_I, J_J, Nat.add_left_cancel_iff, Nat.reduceEqDiff, Nat.add_eq_left, Nat.left_eq_add, false_and, and_false, Nat.reduceSub, Nat.sub_self, Nat.le_refl, Nat.zero_le, ge_iff_le, Nat.reduceAdd, Nat.reduceLeDiff, Nat.zero_add, Nat.reduceLT, z_lt, z_le, z_eq, z_l0, z_g0, z_le0, z_ge0, z_e0, z_e1, z_vp, z_nc, z_rem, z_div, i_ltT, i_ltF, i_leT, i_leF, i_eqT, i_eqF, n_ltT, n_ltF, n_leT, n_leF, n_eqT, n_eqF, tn_9, tn_12, tn_14, tn_20, tn_28, tn_44, tn_52, tn_68, tn_84, tn_100, tn_116, tn_132, fu_e, up_eq, ob_0, ob_b, oi_add, oi_sub, oi_mul, oi_neg, Int.add_zero, Int.zero_add, or_true, true_or, or_false, false_or, and_self, z_i2l, z_l2i, lo_nat, lo_add, lo_sub, lo_mul, lo_0, e_rem, hF, hF1, hF2, hV1.1, hV2.1, e12, e13, i0, i1, c0, c1, J_I, I_J, sh_J, R_J, f1, v8, e12', e13', e]
    exact h440 1 (by rw [if_pos l7])
theorem z_end {b o : Nat} {P : Nat → Nat} {B : Row} {x1 x2 : Int32} {v3 v4 v5 : Value} {w : mW} {Q : mW → mO → Prop} (h : OW w b o P B) (hS : OS B) (h7 : B 7 = 1 ∨ B 7 = -1) (h8 : B 8 = 0 ∨ B 8 = 1) (h11 : B 1011 = B 18) (hr : inR (B 14) ∧ inR (B 1042)) (hd : 0 ≤ B 1014 ∧ B 1014 < 10000000000000000) (hc : 0 ≤ B 1013 ∧ B 1013 < 100000000)
  (hq : ∀ w', OW w' b o P (o_end B) → FO b w w' → Q w' (.inl (some (.int (Int32.ofInt 1))))) : RT n_X10_goOn 307 [.ref o, .int x1, .int x2, v3, v4, v5] [] w (1, 4, false) Q := by
  have hF := h.F
  have hV := h.V
  have hg := h.ge
  have h0 := hS.1
  have p4 := p16 (B 4).toNat (by omega)
  have p2 := p16 (B 2).toNat (by omega)
  have h374 : ∀ w1, OW w1 b o P (up B 1013 (o_c B)) → FO b w w1 → RT n_X10_goOn 374 [.ref o, .int x1, .int x2, v3, v4, v5] [] w1 (1, 4, false) Q := by
    intro w1 k1 k2
    have f1 : ∀ j, ¬ j = 1013 → up B 1013 (o_c B) j = B j := fun j hj => by rw [up_eq, if_neg hj]
    have ep : p_num (up B 1013 (o_c B)) = p_num B := num_u (f1 0 (by omega)) (by omega) (fun j hj => f1 _ (by omega))
    have ed : o_d (up B 1013 (o_c B)) = o_d B := by
      unfold o_d
      rw [ep, f1 _ (by omega), f1 _ (by omega), f1 _ (by omega), f1 _ (by omega)]
    refine z_end_374 k1 (hS.e (fun j hj => f1 j (by omega))) (by rw [f1 _ (by omega)]; exact h7) (by rw [f1 _ (by omega), f1 _ (by omega)]; exact h11) (by rw [f1 _ (by omega), f1 _ (by omega)]; exact hr) (by rw [f1 _ (by omega)]; exact hd) fun w2 m1 m2 => ?_
    rw [ed, f1 _ (by omega), f1 _ (by omega)] at m1
    exact hq w2 m1 (k2.trans m2)
  refine rt_X10_goOn_307 ?_
  simp (disch := omega) only [wp_c, wp_n, jj_n, v_ct, Int.reduceToNat, Int.toNat_natCast, stE, wlE, lgt, lpu, lpw, v_c2, va_s, true_and, and_true, Option.toList, List.nil_append, List.cons_append, List.take, List.drop, List.reverse, List.reverseAux, List.length_cons, List.length_nil, reduceCtorEq, false_implies, true_implies, forall_const, not_true_eq_false, not_false_eq_true, ite_true, ite_false, Bool.false_eq_true, I_I, J_J, Nat.add_left_cancel_iff, Nat.reduceEqDiff, Nat.add_eq_left, Nat.left_eq_add, false_and, and_false, Nat.reduceSub, Nat.sub_self, Nat.le_refl, Nat.zero_le, ge_iff_le, Nat.reduceAdd, Nat.reduceLeDiff, Nat.zero_add, Nat.reduceLT, z_lt, z_le, z_eq, z_l0, z_g0, z_le0, z_ge0, z_e0, z_e1, z_vp, z_nc, z_rem, z_div, i_ltT, i_ltF, i_leT, i_leF, i_eqT, i_eqF, n_ltT, n_ltF, n_leT, n_leF, n_eqT, n_eqF, tn_9, tn_12, tn_14, tn_20, tn_28, tn_44, tn_52, tn_68, tn_84, tn_100, tn_116, tn_132, fu_e, up_eq, ob_0, ob_b, oi_add, oi_sub, oi_mul, oi_neg, Int.add_zero, Int.zero_add, or_true, true_or, or_false, false_or, and_self, z_i2l, z_l2i, lo_nat, lo_add, lo_sub, lo_mul, lo_0, e_rem, hF, hV.1, hV.2.1]
  by_cases hck : B 4 < B 2
  · simp (disch := omega) only [wp_c, wp_n, jj_n, v_ct, Int.reduceToNat, Int.toNat_natCast, stE, wlE, lgt, lpu, lpw, v_c2, va_s, true_and, and_true, Option.toList, List.nil_append, List.cons_append, List.take, List.drop, List.reverse, List.reverseAux, List.length_cons, List.length_nil, reduceCtorEq, false_implies, true_implies, forall_const, not_true_eq_false, not_false_eq_true, ite_true, ite_false, Bool.false_eq_true, I_I, J_J, Nat.add_left_cancel_iff, Nat.reduceEqDiff, Nat.add_eq_left, Nat.left_eq_add, false_and, and_false, Nat.reduceSub, Nat.sub_self, Nat.le_refl, Nat.zero_le, ge_iff_le, Nat.reduceAdd, Nat.reduceLeDiff, Nat.zero_add, Nat.reduceLT, z_lt, z_le, z_eq, z_l0, z_g0, z_le0, z_ge0, z_e0, z_e1, z_vp, z_nc, z_rem, z_div, i_ltT, i_ltF, i_leT, i_leF, i_eqT, i_eqF, n_ltT, n_ltF, n_leT, n_leF, n_eqT, n_eqF, tn_9, tn_12, tn_14, tn_20, tn_28, tn_44, tn_52, tn_68, tn_84, tn_100, tn_116, tn_132, fu_e, up_eq, ob_0, ob_b, oi_add, oi_sub, oi_mul, oi_neg, Int.add_zero, Int.zero_add, or_true, true_or, or_false, false_or, and_self, z_i2l, z_l2i, lo_nat, lo_add, lo_sub, lo_mul, lo_0, e_rem]
    have h360 : RT n_X10_goOn 360 [.ref o, .int x1, .int x2, v3, v4, v5] [.long (Int64.ofInt (o_sg B * 10 ^ (B 4).toNat)), .long (Int64.ofInt (B 1013)), .ref o] w (1, 4, false) Q := by
      have h8' := p8 (B 4).toNat (by omega)
      have hs : o_sg B = 1 ∨ o_sg B = -1 := by unfold o_sg; rcases h7 with e | e <;> rw [e] <;> split <;> simp
      refine rt_X10_goOn_360 ?_
      simp (disch := omega) only [wp_c, wp_n, jj_n, v_ct, Int.reduceToNat, Int.toNat_natCast, stE, wlE, lgt, lpu, lpw, v_c2, va_s, true_and, and_true, Option.toList, List.nil_append, List.cons_append, List.take, List.drop, List.reverse, List.reverseAux, List.length_cons, List.length_nil, reduceCtorEq, false_implies, true_implies, forall_const, not_true_eq_false, not_false_eq_true, ite_true, ite_false, Bool.false_eq_true, I_I, J_J, Nat.add_left_cancel_iff, Nat.reduceEqDiff, Nat.add_eq_left, Nat.left_eq_add, false_and, and_false, Nat.reduceSub, Nat.sub_self, Nat.le_refl, Nat.zero_le, ge_iff_le, Nat.reduceAdd, Nat.reduceLeDiff, Nat.zero_add, Nat.reduceLT, z_lt, z_le, z_eq, z_l0, z_g0, z_le0, z_ge0, z_e0, z_e1, z_vp, z_nc, z_rem, z_div, i_ltT, i_ltF, i_leT, i_leF, i_eqT, i_eqF, n_ltT, n_ltF, n_leT, n_leF, n_eqT, n_eqF, tn_9, tn_12, tn_14, tn_20, tn_28, tn_44, tn_52, tn_68, tn_84, tn_100, tn_116, tn_132, fu_e, up_eq, ob_0, ob_b, oi_add, oi_sub, oi_mul, oi_neg, Int.add_zero, Int.zero_add, or_true, true_or, or_false, false_or, and_self, z_i2l, z_l2i, lo_nat, lo_add, lo_sub, lo_mul, lo_0, e_rem, hF, hV.1, hV.2.1, mh_X10_goOn]
      refine z_ten ⟨by omega, by omega⟩ ?_
      simp (disch := omega) only [wp_c, wp_n, jj_n, v_ct, Int.reduceToNat, Int.toNat_natCast, stE, wlE, lgt, lpu, lpw, v_c2, va_s, true_and, and_true, Option.toList, List.nil_append, List.cons_append, List.take, List.drop, List.reverse, List.reverseAux, List.length_cons, List.length_nil, reduceCtorEq, false_implies, true_implies, forall_const, not_true_eq_false, not_false_eq_true, ite_true, ite_false, Bool.false_eq_true, I_I, J_J, Nat.add_left_cancel_iff, Nat.reduceEqDiff, Nat.add_eq_left, Nat.left_eq_add, false_and, and_false, Nat.reduceSub, Nat.sub_self, Nat.le_refl, Nat.zero_le, ge_iff_le, Nat.reduceAdd, Nat.reduceLeDiff, Nat.zero_add, Nat.reduceLT, z_lt, z_le, z_eq, z_l0, z_g0, z_le0, z_ge0, z_e0, z_e1, z_vp, z_nc, z_rem, z_div, i_ltT, i_ltF, i_leT, i_leF, i_eqT, i_eqF, n_ltT, n_ltF, n_leT, n_leF, n_eqT, n_eqF, tn_9, tn_12, tn_14, tn_20, tn_28, tn_44, tn_52, tn_68, tn_84, tn_100, tn_116, tn_132, fu_e, up_eq, ob_0, ob_b, oi_add, oi_sub, oi_mul, oi_neg, Int.add_zero, Int.zero_add, or_true, true_or, or_false, false_or, and_self, z_i2l, z_l2i, lo_nat, lo_add, lo_sub, lo_mul, lo_0, e_rem, hF, hV.1, hV.2.1, mh_X10_goOn]
      refine z_within (by generalize (10 : Int) ^ (B 4).toNat = z at *; rcases hs with e | e <;> rw [e] <;> constructor <;> omega) ⟨p2.1, by omega⟩ ?_
      simp (disch := omega) only [wp_c, wp_n, jj_n, v_ct, Int.reduceToNat, Int.toNat_natCast, stE, wlE, lgt, lpu, lpw, v_c2, va_s, true_and, and_true, Option.toList, List.nil_append, List.cons_append, List.take, List.drop, List.reverse, List.reverseAux, List.length_cons, List.length_nil, reduceCtorEq, false_implies, true_implies, forall_const, not_true_eq_false, not_false_eq_true, ite_true, ite_false, Bool.false_eq_true, I_I, J_J, Nat.add_left_cancel_iff, Nat.reduceEqDiff, Nat.add_eq_left, Nat.left_eq_add, false_and, and_false, Nat.reduceSub, Nat.sub_self, Nat.le_refl, Nat.zero_le, ge_iff_le, Nat.reduceAdd, Nat.reduceLeDiff, Nat.zero_add, Nat.reduceLT, z_lt, z_le, z_eq, z_l0, z_g0, z_le0, z_ge0, z_e0, z_e1, z_vp, z_nc, z_rem, z_div, i_ltT, i_ltF, i_leT, i_leF, i_eqT, i_eqF, n_ltT, n_ltF, n_leT, n_leF, n_eqT, n_eqF, tn_9, tn_12, tn_14, tn_20, tn_28, tn_44, tn_52, tn_68, tn_84, tn_100, tn_116, tn_132, fu_e, up_eq, ob_0, ob_b, oi_add, oi_sub, oi_mul, oi_neg, Int.add_zero, Int.zero_add, or_true, true_or, or_false, false_or, and_self, z_i2l, z_l2i, lo_nat, lo_add, lo_sub, lo_mul, lo_0, e_rem, hF, hV.1, hV.2.1]
      refine h374 _ ?_ ((FO.refl _ _).J hg.1)
      have := h.sctr (v := o_c B)
      unfold o_c at this ⊢
      rw [if_pos hck] at this ⊢
      exact this
    have h335 : ∀ z : Int, z = (if 0 < B 7 then 1 else 0) → RT n_X10_goOn 335 [.ref o, .int x1, .int x2, v3, v4, v5] [.int (Int32.ofInt z), .long (Int64.ofInt (B 1013)), .ref o] w (1, 4, false) Q := by
      intro z hz
      refine rt_X10_goOn_335 ?_
      simp (disch := omega) only [wp_c, wp_n, jj_n, v_ct, Int.reduceToNat, Int.toNat_natCast, stE, wlE, lgt, lpu, lpw, v_c2, va_s, true_and, and_true, Option.toList, List.nil_append, List.cons_append, List.take, List.drop, List.reverse, List.reverseAux, List.length_cons, List.length_nil, reduceCtorEq, false_implies, true_implies, forall_const, not_true_eq_false, not_false_eq_true, ite_true, ite_false, Bool.false_eq_true, I_I, J_J, Nat.add_left_cancel_iff, Nat.reduceEqDiff, Nat.add_eq_left, Nat.left_eq_add, false_and, and_false, Nat.reduceSub, Nat.sub_self, Nat.le_refl, Nat.zero_le, ge_iff_le, Nat.reduceAdd, Nat.reduceLeDiff, Nat.zero_add, Nat.reduceLT, z_lt, z_le, z_eq, z_l0, z_g0, z_le0, z_ge0, z_e0, z_e1, z_vp, z_nc, z_rem, z_div, i_ltT, i_ltF, i_leT, i_leF, i_eqT, i_eqF, n_ltT, n_ltF, n_leT, n_leF, n_eqT, n_eqF, tn_9, tn_12, tn_14, tn_20, tn_28, tn_44, tn_52, tn_68, tn_84, tn_100, tn_116, tn_132, fu_e, up_eq, ob_0, ob_b, oi_add, oi_sub, oi_mul, oi_neg, Int.add_zero, Int.zero_add, or_true, true_or, or_false, false_or, and_self, z_i2l, z_l2i, lo_nat, lo_add, lo_sub, lo_mul, lo_0, e_rem, hF, hV.1, mh_X10_goOn]
      by_cases e : z = B 8
      · simp (disch := omega) only [wp_c, wp_n, jj_n, v_ct, Int.reduceToNat, Int.toNat_natCast, stE, wlE, lgt, lpu, lpw, v_c2, va_s, true_and, and_true, Option.toList, List.nil_append, List.cons_append, List.take, List.drop, List.reverse, List.reverseAux, List.length_cons, List.length_nil, reduceCtorEq, false_implies, true_implies, forall_const, not_true_eq_false, not_false_eq_true, ite_true, ite_false, Bool.false_eq_true, I_I, J_J, Nat.add_left_cancel_iff, Nat.reduceEqDiff, Nat.add_eq_left, Nat.left_eq_add, false_and, and_false, Nat.reduceSub, Nat.sub_self, Nat.le_refl, Nat.zero_le, ge_iff_le, Nat.reduceAdd, Nat.reduceLeDiff, Nat.zero_add, Nat.reduceLT, z_lt, z_le, z_eq, z_l0, z_g0, z_le0, z_ge0, z_e0, z_e1, z_vp, z_nc, z_rem, z_div, i_ltT, i_ltF, i_leT, i_leF, i_eqT, i_eqF, n_ltT, n_ltF, n_leT, n_leF, n_eqT, n_eqF, tn_9, tn_12, tn_14, tn_20, tn_28, tn_44, tn_52, tn_68, tn_84, tn_100, tn_116, tn_132, fu_e, up_eq, ob_0, ob_b, oi_add, oi_sub, oi_mul, oi_neg, Int.add_zero, Int.zero_add, or_true, true_or, or_false, false_or, and_self, z_i2l, z_l2i, lo_nat, lo_add, lo_sub, lo_mul, lo_0, e_rem]
        refine rt_X10_goOn_352 ?_
        simp (disch := omega) only [wp_c, wp_n, jj_n, v_ct, Int.reduceToNat, Int.toNat_natCast, stE, wlE, lgt, lpu, lpw, v_c2, va_s, true_and, and_true, Option.toList, List.nil_append, List.cons_append, List.take, List.drop, List.reverse, List.reverseAux, List.length_cons, List.length_nil, reduceCtorEq, false_implies, true_implies, forall_const, not_true_eq_false, not_false_eq_true, ite_true, ite_false, Bool.false_eq_true, I_I, J_J, Nat.add_left_cancel_iff, Nat.reduceEqDiff, Nat.add_eq_left, Nat.left_eq_add, false_and, and_false, Nat.reduceSub, Nat.sub_self, Nat.le_refl, Nat.zero_le, ge_iff_le, Nat.reduceAdd, Nat.reduceLeDiff, Nat.zero_add, Nat.reduceLT, z_lt, z_le, z_eq, z_l0, z_g0, z_le0, z_ge0, z_e0, z_e1, z_vp, z_nc, z_rem, z_div, i_ltT, i_ltF, i_leT, i_leF, i_eqT, i_eqF, n_ltT, n_ltF, n_leT, n_leF, n_eqT, n_eqF, tn_9, tn_12, tn_14, tn_20, tn_28, tn_44, tn_52, tn_68, tn_84, tn_100, tn_116, tn_132, fu_e, up_eq, ob_0, ob_b, oi_add, oi_sub, oi_mul, oi_neg, Int.add_zero, Int.zero_add, or_true, true_or, or_false, false_or, and_self, z_i2l, z_l2i, lo_nat, lo_add, lo_sub, lo_mul, lo_0, e_rem, hF, hV.1, mh_X10_goOn]
        refine z_ten ⟨by omega, by omega⟩ ?_
        have es : o_sg B = -1 := by
          unfold o_sg
          rcases h7 with q | q <;> rcases h8 with r | r <;> rw [q] at hz ⊢ <;> rw [r] at e ⊢ <;> simp at hz ⊢ <;> omega
        have el : -Int64.ofInt (10 ^ (B 4).toNat) = Int64.ofInt (o_sg B * 10 ^ (B 4).toNat) := by rw [es, ← Int64.ofInt_neg, Int.neg_mul, Int.one_mul]
        simp (disch := omega) only [wp_c, wp_n, jj_n, v_ct, Int.reduceToNat, Int.toNat_natCast, stE, wlE, lgt, lpu, lpw, v_c2, va_s, true_and, and_true, Option.toList, List.nil_append, List.cons_append, List.take, List.drop, List.reverse, List.reverseAux, List.length_cons, List.length_nil, reduceCtorEq, false_implies, true_implies, forall_const, not_true_eq_false, not_false_eq_true, ite_true, ite_false, Bool.false_eq_true, I_I, J_J, Nat.add_left_cancel_iff, Nat.reduceEqDiff, Nat.add_eq_left, Nat.left_eq_add, false_and, and_false, Nat.reduceSub, Nat.sub_self, Nat.le_refl, Nat.zero_le, ge_iff_le, Nat.reduceAdd, Nat.reduceLeDiff, Nat.zero_add, Nat.reduceLT, el]
        exact h360
      · simp (disch := omega) only [wp_c, wp_n, jj_n, v_ct, Int.reduceToNat, Int.toNat_natCast, stE, wlE, lgt, lpu, lpw, v_c2, va_s, true_and, and_true, Option.toList, List.nil_append, List.cons_append, List.take, List.drop, List.reverse, List.reverseAux, List.length_cons, List.length_nil, reduceCtorEq, false_implies, true_implies, forall_const, not_true_eq_false, not_false_eq_true, ite_true, ite_false, Bool.false_eq_true, I_I, J_J, Nat.add_left_cancel_iff, Nat.reduceEqDiff, Nat.add_eq_left, Nat.left_eq_add, false_and, and_false, Nat.reduceSub, Nat.sub_self, Nat.le_refl, Nat.zero_le, ge_iff_le, Nat.reduceAdd, Nat.reduceLeDiff, Nat.zero_add, Nat.reduceLT, z_lt, z_le, z_eq, z_l0, z_g0, z_le0, z_ge0, z_e0, z_e1, z_vp, z_nc, z_rem, z_div, i_ltT, i_ltF, i_leT, i_leF, i_eqT, i_eqF, n_ltT, n_ltF, n_leT, n_leF, n_eqT, n_eqF, tn_9, tn_12, tn_14, tn_20, tn_28, tn_44, tn_52, tn_68, tn_84, tn_100, tn_116, tn_132, fu_e, up_eq, ob_0, ob_b, oi_add, oi_sub, oi_mul, oi_neg, Int.add_zero, Int.zero_add, or_true, true_or, or_false, false_or, and_self, z_i2l, z_l2i, lo_nat, lo_add, lo_sub, lo_mul, lo_0, e_rem]
        refine z_ten ⟨by omega, by omega⟩ ?_
        have es : o_sg B = 1 := by
          unfold o_sg
          rcases h7 with q | q <;> rcases h8 with r | r <;> rw [q] at hz ⊢ <;> rw [r] at e ⊢ <;> simp at hz ⊢ <;> omega
        have el : Int64.ofInt (10 ^ (B 4).toNat) = Int64.ofInt (o_sg B * 10 ^ (B 4).toNat) := by rw [es, Int.one_mul]
        simp (disch := omega) only [wp_c, wp_n, jj_n, v_ct, Int.reduceToNat, Int.toNat_natCast, stE, wlE, lgt, lpu, lpw, v_c2, va_s, true_and, and_true, Option.toList, List.nil_append, List.cons_append, List.take, List.drop, List.reverse, List.reverseAux, List.length_cons, List.length_nil, reduceCtorEq, false_implies, true_implies, forall_const, not_true_eq_false, not_false_eq_true, ite_true, ite_false, Bool.false_eq_true, I_I, J_J, Nat.add_left_cancel_iff, Nat.reduceEqDiff, Nat.add_eq_left, Nat.left_eq_add, false_and, and_false, Nat.reduceSub, Nat.sub_self, Nat.le_refl, Nat.zero_le, ge_iff_le, Nat.reduceAdd, Nat.reduceLeDiff, Nat.zero_add, Nat.reduceLT]
        rw [el]
        exact h360
    rcases h7 with e | e
    · simp (disch := omega) only [wp_c, wp_n, jj_n, v_ct, Int.reduceToNat, Int.toNat_natCast, stE, wlE, lgt, lpu, lpw, v_c2, va_s, true_and, and_true, Option.toList, List.nil_append, List.cons_append, List.take, List.drop, List.reverse, List.reverseAux, List.length_cons, List.length_nil, reduceCtorEq, false_implies, true_implies, forall_const, not_true_eq_false, not_false_eq_true, ite_true, ite_false, Bool.false_eq_true, I_I, J_J, Nat.add_left_cancel_iff, Nat.reduceEqDiff, Nat.add_eq_left, Nat.left_eq_add, false_and, and_false, Nat.reduceSub, Nat.sub_self, Nat.le_refl, Nat.zero_le, ge_iff_le, Nat.reduceAdd, Nat.reduceLeDiff, Nat.zero_add, Nat.reduceLT, z_lt, z_le, z_eq, z_l0, z_g0, z_le0, z_ge0, z_e0, z_e1, z_vp, z_nc, z_rem, z_div, i_ltT, i_ltF, i_leT, i_leF, i_eqT, i_eqF, n_ltT, n_ltF, n_leT, n_leF, n_eqT, n_eqF, tn_9, tn_12, tn_14, tn_20, tn_28, tn_44, tn_52, tn_68, tn_84, tn_100, tn_116, tn_132, fu_e, up_eq, ob_0, ob_b, oi_add, oi_sub, oi_mul, oi_neg, Int.add_zero, Int.zero_add, or_true, true_or, or_false, false_or, and_self, z_i2l, z_l2i, lo_nat, lo_add, lo_sub, lo_mul, lo_0, e_rem, e]
      exact h335 1 (by rw [e]; rfl)
    · simp (disch := omega) only [wp_c, wp_n, jj_n, v_ct, Int.reduceToNat, Int.toNat_natCast, stE, wlE, lgt, lpu, lpw, v_c2, va_s, true_and, and_true, Option.toList, List.nil_append, List.cons_append, List.take, List.drop, List.reverse, List.reverseAux, List.length_cons, List.length_nil, reduceCtorEq, false_implies, true_implies, forall_const, not_true_eq_false, not_false_eq_true, ite_true, ite_false, Bool.false_eq_true, I_I, J_J, Nat.add_left_cancel_iff, Nat.reduceEqDiff, Nat.add_eq_left, Nat.left_eq_add, false_and, and_false, Nat.reduceSub, Nat.sub_self, Nat.le_refl, Nat.zero_le, ge_iff_le, Nat.reduceAdd, Nat.reduceLeDiff, Nat.zero_add, Nat.reduceLT, z_lt, z_le, z_eq, z_l0, z_g0, z_le0, z_ge0, z_e0, z_e1, z_vp, z_nc, z_rem, z_div, i_ltT, i_ltF, i_leT, i_leF, i_eqT, i_eqF, n_ltT, n_ltF, n_leT, n_leF, n_eqT, n_eqF, tn_9, tn_12, tn_14, tn_20, tn_28, tn_44, tn_52, tn_68, tn_84, tn_100, tn_116, tn_132, fu_e, up_eq, ob_0, ob_b, oi_add, oi_sub, oi_mul, oi_neg, Int.add_zero, Int.zero_add, or_true, true_or, or_false, false_or, and_self, z_i2l, z_l2i, lo_nat, lo_add, lo_sub, lo_mul, lo_0, e_rem, e]
      refine rt_X10_goOn_334 ?_
      simp only [wp_c, wp_n, jj_n, v_ct, Int.reduceToNat, Int.toNat_natCast, stE, wlE, lgt, lpu, lpw, v_c2, va_s, true_and, and_true, Option.toList, List.nil_append, List.cons_append, List.take, List.drop, List.reverse, List.reverseAux, List.length_cons, List.length_nil, reduceCtorEq, false_implies, true_implies, forall_const, not_true_eq_false, not_false_eq_true, ite_true, ite_false, Bool.false_eq_true, I_I, J_J, Nat.add_left_cancel_iff, Nat.reduceEqDiff, Nat.add_eq_left, Nat.left_eq_add, false_and, and_false, Nat.reduceSub, Nat.sub_self, Nat.le_refl, Nat.zero_le, ge_iff_le, Nat.reduceAdd, Nat.reduceLeDiff, Nat.zero_add, Nat.reduceLT]
      exact h335 0 (by rw [e]; rfl)
  · simp (disch := omega) only [wp_c, wp_n, jj_n, v_ct, Int.reduceToNat, Int.toNat_natCast, stE, wlE, lgt, lpu, lpw, v_c2, va_s, true_and, and_true, Option.toList, List.nil_append, List.cons_append, List.take, List.drop, List.reverse, List.reverseAux, List.length_cons, List.length_nil, reduceCtorEq, false_implies, true_implies, forall_const, not_true_eq_false, not_false_eq_true, ite_true, ite_false, Bool.false_eq_true, I_I, J_J, Nat.add_left_cancel_iff, Nat.reduceEqDiff, Nat.add_eq_left, Nat.left_eq_add, false_and, and_false, Nat.reduceSub, Nat.sub_self, Nat.le_refl, Nat.zero_le, ge_iff_le, Nat.reduceAdd, Nat.reduceLeDiff, Nat.zero_add, Nat.reduceLT, z_lt, z_le, z_eq, z_l0, z_g0, z_le0, z_ge0, z_e0, z_e1, z_vp, z_nc, z_rem, z_div, i_ltT, i_ltF, i_leT, i_leF, i_eqT, i_eqF, n_ltT, n_ltF, n_leT, n_leF, n_eqT, n_eqF, tn_9, tn_12, tn_14, tn_20, tn_28, tn_44, tn_52, tn_68, tn_84, tn_100, tn_116, tn_132, fu_e, up_eq, ob_0, ob_b, oi_add, oi_sub, oi_mul, oi_neg, Int.add_zero, Int.zero_add, or_true, true_or, or_false, false_or, and_self, z_i2l, z_l2i, lo_nat, lo_add, lo_sub, lo_mul, lo_0, e_rem]
    refine h374 w ?_ (FO.refl _ _)
    refine h.cg ?_
    unfold o_c
    rw [if_neg hck]
    funext j; rw [up_eq]; split
    · rename_i e; rw [e]
    · rfl
