/-! a copy of an own machine -/
theorem UB.new {b a : Nat} {w : mW} (h : b ≤ a) (h2 : 100 + w_n w ≤ a) : UB b w a := ⟨h, Or.inr h2⟩
def o_cp (B : Row) : Row := fun j => if j < 5 ∨ (12 ≤ j ∧ j < 18) ∨ (20 ≤ j ∧ j < 44) ∨ (52 ≤ j ∧ j < 84) ∨ (100 ≤ j ∧ j < 116) ∨ j = 1013 ∨ j = 1014 then B j else 0
theorem OW.from {W : mW} {b b' o o' f q : Nat} {P P' : Nat → Nat} {B B' : Row} (h : OW W b' o' P' B') (h0 : OW W b o P B) (hf : 15 ≤ f ∧ f ≤ 23) (hq : w_n W ≤ q) :
    OW (s_R (s_C (s_K W q) (P f)) o' f (some (100 + q))) b' o' (fun k => if k = f then 100 + q else P' k) (fun j => if oi f 0 ≤ j ∧ j < oi f 0 + olen f then B j else B' j) := by
  obtain ⟨c1, c2, c3, c4, c5⟩ := C_at (w := W) (a := P f) (q := q)
  have := h.arr' (q := 100 + q) (g := fun i => B (oi f 0 + i)) hf ((FO.refl _ _).C hq (Nat.le_refl _)) (by omega) (by rw [c5]; omega) (by rw [c1, if_pos rfl, h0.1.2.2.1 f hf.1 hf.2]) (fun i hi => by rw [c2, if_pos rfl, h0.2.1.2.2 f i hf.1 hf.2 hi, oi_base f i hf])
  refine this.cg ?_
  funext j
  by_cases e : oi f 0 ≤ j ∧ j < oi f 0 + olen f
  · rw [if_pos e, if_pos e, show oi f 0 + (j - oi f 0) = j by omega]
  · rw [if_neg e, if_neg e]
def cpr (f : Nat) (B B' : Row) : Row := fun j => if oi f 0 ≤ j ∧ j < oi f 0 + olen f then B j else B' j
def cp7 (B : Row) : Row := up (up (up (up (up (up (up n_row 0 (B 0)) 1 (B 1)) 2 (B 2)) 3 (B 3)) 4 (B 4)) 1013 (B 1013)) 1014 (B 1014)
theorem cp7_at (B : Row) (j : Nat) : cp7 B j = if j < 5 ∨ j = 1013 ∨ j = 1014 then B j else 0 := by
  unfold cp7
  simp only [up_eq]
  repeat' split
  all_goals first | (subst_vars; rfl) | (exfalso; omega) | (exact n_row0 j (by omega))
theorem cp_row (B : Row) : o_cp B = cpr 21 B (cpr 19 B (cpr 18 B (cpr 17 B (cpr 16 B (cpr 15 B (cp7 B)))))) := by
  funext j
  show o_cp B j = if 12 ≤ j ∧ j < 12 + 6 then B j else if 100 ≤ j ∧ j < 100 + 16 then B j else if 52 ≤ j ∧ j < 52 + 16 then B j else if 68 ≤ j ∧ j < 68 + 16 then B j else if 28 ≤ j ∧ j < 28 + 16 then B j else if 20 ≤ j ∧ j < 20 + 8 then B j else cp7 B j
  rw [cp7_at]
  unfold o_cp
  repeat' split
  all_goals first | rfl | (exfalso; omega)
set_option maxHeartbeats 3000000 in
theorem z_copy {b o : Nat} {P : Nat → Nat} {B : Row} {w : mW} {Q : mW → mO → Prop} (hO : OW w b o P B) (hq : ∀ w' o' P', OW w' (100 + w_n w) o' P' (o_cp B) → FO (100 + w_n w) w w' → Q w' (.inl (some (.ref o')))) : CT n_X10_copy [.ref o] w Q := by
  have hlt := hO.lt
  refine ct_X10_copy (rt_X10_copy_0 ?_)
  have cl10 : (m_cl 10).2.2 = 25 := by decide
  simp (disch := omega) only [wp_c, wp_n, jj_n, v_ct, Int.reduceToNat, Int.toNat_natCast, stE, wlE, lgt, lpu, lpw, v_c2, va_s, true_and, and_true, Option.toList, List.nil_append, List.cons_append, List.take, List.drop, List.reverse, List.reverseAux, List.length_cons, List.length_nil, reduceCtorEq, false_implies, true_implies, forall_const, not_true_eq_false, not_false_eq_true, ite_true, ite_false, Bool.false_eq_true, I_I, J_J, Nat.add_left_cancel_iff, Nat.reduceEqDiff, Nat.add_eq_left, Nat.left_eq_add, false_and, and_false, Nat.reduceSub, Nat.sub_self, Nat.le_refl, Nat.zero_le, ge_iff_le, Nat.reduceAdd, Nat.reduceLeDiff, Nat.zero_add, Nat.reduceLT, z_lt, z_le, z_eq, z_l0, z_g0, z_le0, z_ge0, z_e0, z_e1, z_vp, z_nc, z_rem, z_div, i_ltT, i_ltF, i_leT, i_leF, i_eqT, i_eqF, n_ltT, n_ltF, n_leT, n_leF, n_eqT, n_eqF, tn_9, tn_12, tn_14, tn_20, tn_28, tn_44, tn_52, tn_68, tn_84, tn_100, tn_116, tn_132, fu_e, up_eq, ob_0, ob_b, oi_add, oi_sub, oi_mul, oi_neg, Int.add_zero, Int.zero_add, or_true, true_or, or_false, false_or, and_self, z_i2l, z_l2i, lo_nat, lo_add, lo_sub, lo_mul, lo_0, e_rem, cl10]
  intro q hq0
  have hW1n : w_n (s_N (s_K w q) (0, 10)) = q + 1 := rfl
  have f1 : FO (100 + w_n w) w (s_N (s_K w q) (0, 10)) := (FO.refl _ _).N hq0 (Nat.le_refl _)
  have hsh1 : w_sh (s_N (s_K w q) (0, 10)) (100 + q) = (0, 10) := NK_sh _ _ _
  generalize hW1 : s_N (s_K w q) (0, 10) = W1 at hW1n f1 hsh1 ⊢
  try simp (disch := omega) only [wp_c, wp_n, jj_n, v_ct, Int.reduceToNat, Int.toNat_natCast, stE, wlE, lgt, lpu, lpw, v_c2, va_s, true_and, and_true, Option.toList, List.nil_append, List.cons_append, List.take, List.drop, List.reverse, List.reverseAux, List.length_cons, List.length_nil, reduceCtorEq, false_implies, true_implies, forall_const, not_true_eq_false, not_false_eq_true, ite_true, ite_false, Bool.false_eq_true, I_I, J_J, Nat.add_left_cancel_iff, Nat.reduceEqDiff, Nat.add_eq_left, Nat.left_eq_add, false_and, and_false, Nat.reduceSub, Nat.sub_self, Nat.le_refl, Nat.zero_le, ge_iff_le, Nat.reduceAdd, Nat.reduceLeDiff, Nat.zero_add, Nat.reduceLT, z_lt, z_le, z_eq, z_l0, z_g0, z_le0, z_ge0, z_e0, z_e1, z_vp, z_nc, z_rem, z_div, i_ltT, i_ltF, i_leT, i_leF, i_eqT, i_eqF, n_ltT, n_ltF, n_leT, n_leF, n_eqT, n_eqF, tn_9, tn_12, tn_14, tn_20, tn_28, tn_44, tn_52, tn_68, tn_84, tn_100, tn_116, tn_132, fu_e, up_eq, ob_0, ob_b, oi_add, oi_sub, oi_mul, oi_neg, Int.add_zero, Int.zero_add, or_true, true_or, or_false, false_or, and_self, z_i2l, z_l2i, lo_nat, lo_add, lo_sub, lo_mul, lo_0, e_rem, hW1n]
  intro q' hq1
  have hI0 : w_I (s_K W1 q') (100 + q) = fun _ => 0 := by rw [K_I, ← hW1, N_Ic, K_n, if_pos rfl]
  have hJ0 : w_J (s_K W1 q') (100 + q) = fun _ => 0 := by rw [K_J, ← hW1, N_Jc, K_n, if_pos rfl]
  refine z_init (by rw [K_sh]; exact hsh1) (by rw [K_n]; omega) hI0 hJ0 ?_
  intro W2 k2
  have fK : FO (100 + w_n w) w (s_K W1 q') := f1.K (by omega)
  have hU : UB (100 + w_n w) (s_K W1 q') (100 + q) := ⟨by omega, Or.inl fun z => z.1 (by rw [K_sh]; exact hsh1)⟩
  have hn2 : w_n W2 = q' + 10 := k2.1
  have h2 := k2.ow (b := 100 + w_n w) (by rw [K_n]; omega) (by omega)
  have f2 : FO (100 + w_n w) w W2 := fK.trans (k2.fo hU (by rw [K_n]; omega))
  have g2 := hO.ext f2
  have F2 := h2.F
  have G2 := g2.F
  have V2 := g2.V
  have ge2 := h2.ge
  have hoo : (o = 100 + q) = False := eq_false (by omega)
  try simp (disch := omega) only [wp_c, wp_n, jj_n, v_ct, Int.reduceToNat, Int.toNat_natCast, stE, wlE, lgt, lpu, lpw, v_c2, va_s, true_and, and_true, Option.toList, List.nil_append, List.cons_append, List.take, List.drop, List.reverse, List.reverseAux, List.length_cons, List.length_nil, reduceCtorEq, false_implies, true_implies, forall_const, not_true_eq_false, not_false_eq_true, ite_true, ite_false, Bool.false_eq_true, I_I, J_J, Nat.add_left_cancel_iff, Nat.reduceEqDiff, Nat.add_eq_left, Nat.left_eq_add, false_and, and_false, Nat.reduceSub, Nat.sub_self, Nat.le_refl, Nat.zero_le, ge_iff_le, Nat.reduceAdd, Nat.reduceLeDiff, Nat.zero_add, Nat.reduceLT, z_lt, z_le, z_eq, z_l0, z_g0, z_le0, z_ge0, z_e0, z_e1, z_vp, z_nc, z_rem, z_div, i_ltT, i_ltF, i_leT, i_leF, i_eqT, i_eqF, n_ltT, n_ltF, n_leT, n_leF, n_eqT, n_eqF, tn_9, tn_12, tn_14, tn_20, tn_28, tn_44, tn_52, tn_68, tn_84, tn_100, tn_116, tn_132, fu_e, up_eq, ob_0, ob_b, oi_add, oi_sub, oi_mul, oi_neg, Int.add_zero, Int.zero_add, or_true, true_or, or_false, false_or, and_self, z_i2l, z_l2i, lo_nat, lo_add, lo_sub, lo_mul, lo_0, e_rem, F2.1]
  refine rt_X10_copy_7 ?_
  simp (disch := omega) only [wp_c, wp_n, jj_n, v_ct, Int.reduceToNat, Int.toNat_natCast, stE, wlE, lgt, lpu, lpw, v_c2, va_s, true_and, and_true, Option.toList, List.nil_append, List.cons_append, List.take, List.drop, List.reverse, List.reverseAux, List.length_cons, List.length_nil, reduceCtorEq, false_implies, true_implies, forall_const, not_true_eq_false, not_false_eq_true, ite_true, ite_false, Bool.false_eq_true, I_I, J_J, Nat.add_left_cancel_iff, Nat.reduceEqDiff, Nat.add_eq_left, Nat.left_eq_add, false_and, and_false, Nat.reduceSub, Nat.sub_self, Nat.le_refl, Nat.zero_le, ge_iff_le, Nat.reduceAdd, Nat.reduceLeDiff, Nat.zero_add, Nat.reduceLT, z_lt, z_le, z_eq, z_l0, z_g0, z_le0, z_ge0, z_e0, z_e1, z_vp, z_nc, z_rem, z_div, i_ltT, i_ltF, i_leT, i_leF, i_eqT, i_eqF, n_ltT, n_ltF, n_leT, n_leF, n_eqT, n_eqF, tn_9, tn_12, tn_14, tn_20, tn_28, tn_44, tn_52, tn_68, tn_84, tn_100, tn_116, tn_132, fu_e, up_eq, ob_0, ob_b, oi_add, oi_sub, oi_mul, oi_neg, Int.add_zero, Int.zero_add, or_true, true_or, or_false, false_or, and_self, z_i2l, z_l2i, lo_nat, lo_add, lo_sub, lo_mul, lo_0, e_rem, F2.1, G2, V2, hoo]
  have h3 := (((((h2.sn (v := B 0)).sm (v := B 1)).sk (v := B 2)).srch (v := B 3)).sc (v := B 4)).sctr (v := B 1013) |>.sdue (v := B 1014)
  have hU2 : UB (100 + w_n w) W2 (100 + q) := ge2.1
  have f3 : FO (100 + w_n w) w (s_J (s_J (s_I (s_I (s_I (s_I (s_I W2 (100 + q) 1 (Int32.ofInt (B 0))) (100 + q) 2 (Int32.ofInt (B 1))) (100 + q) 3 (Int32.ofInt (B 2))) (100 + q) 4 (Int32.ofInt (B 3))) (100 + q) 5 (Int32.ofInt (B 4))) (100 + q) 13 (Int64.ofInt (B 1013))) (100 + q) 14 (Int64.ofInt (B 1014))) := f2.trans (((((((FO.refl _ _).I hU2).I hU2).I hU2).I hU2).I hU2).J hU2 |>.J hU2)
  generalize hW3 : s_J (s_J (s_I (s_I (s_I (s_I (s_I W2 (100 + q) 1 (Int32.ofInt (B 0))) (100 + q) 2 (Int32.ofInt (B 1))) (100 + q) 3 (Int32.ofInt (B 2))) (100 + q) 4 (Int32.ofInt (B 3))) (100 + q) 5 (Int32.ofInt (B 4))) (100 + q) 13 (Int64.ofInt (B 1013))) (100 + q) 14 (Int64.ofInt (B 1014)) = W3 at h3 f3 ⊢
  have hn3 : w_n W3 = q' + 10 := by rw [← hW3]; exact hn2
  have G4 := (hO.ext f3).F
  have L4 := h3.lt
  have O4 := (hO.ext f3).lt
  refine rt_X10_copy_64 ?_
  simp (disch := omega) only [wp_c, wp_n, jj_n, v_ct, Int.reduceToNat, Int.toNat_natCast, stE, wlE, lgt, lpu, lpw, v_c2, va_s, true_and, and_true, Option.toList, List.nil_append, List.cons_append, List.take, List.drop, List.reverse, List.reverseAux, List.length_cons, List.length_nil, reduceCtorEq, false_implies, true_implies, forall_const, not_true_eq_false, not_false_eq_true, ite_true, ite_false, Bool.false_eq_true, I_I, J_J, Nat.add_left_cancel_iff, Nat.reduceEqDiff, Nat.add_eq_left, Nat.left_eq_add, false_and, and_false, Nat.reduceSub, Nat.sub_self, Nat.le_refl, Nat.zero_le, ge_iff_le, Nat.reduceAdd, Nat.reduceLeDiff, Nat.zero_add, Nat.reduceLT, z_lt, z_le, z_eq, z_l0, z_g0, z_le0, z_ge0, z_e0, z_e1, z_vp, z_nc, z_rem, z_div, i_ltT, i_ltF, i_leT, i_leF, i_eqT, i_eqF, n_ltT, n_ltF, n_leT, n_leF, n_eqT, n_eqF, tn_9, tn_12, tn_14, tn_20, tn_28, tn_44, tn_52, tn_68, tn_84, tn_100, tn_116, tn_132, fu_e, up_eq, ob_0, ob_b, oi_add, oi_sub, oi_mul, oi_neg, Int.add_zero, Int.zero_add, or_true, true_or, or_false, false_or, and_self, z_i2l, z_l2i, lo_nat, lo_add, lo_sub, lo_mul, lo_0, e_rem, G4, h3.F.1]
  intro r4 hr4
  have no4 : ¬ 100 + q = 100 + r4 := by omega
  have nq4 : ¬ o = 100 + r4 := by omega
  have h4 := h3.from (hO.ext f3) (q := r4) (f := 15) (by omega) (by omega)
  have f4 : FO (100 + w_n w) w (s_R (s_C (s_K W3 r4) (P 15)) (100 + q) 15 (some (100 + r4))) := (f3.C (by omega) (by have := f3.2; omega)).R (UB.new (by omega) (by omega))
  refine rt_X10_copy_72 ?_
  simp (disch := omega) only [wp_c, wp_n, jj_n, v_ct, Int.reduceToNat, Int.toNat_natCast, stE, wlE, lgt, lpu, lpw, v_c2, va_s, true_and, and_true, Option.toList, List.nil_append, List.cons_append, List.take, List.drop, List.reverse, List.reverseAux, List.length_cons, List.length_nil, reduceCtorEq, false_implies, true_implies, forall_const, not_true_eq_false, not_false_eq_true, ite_true, ite_false, Bool.false_eq_true, I_I, J_J, Nat.add_left_cancel_iff, Nat.reduceEqDiff, Nat.add_eq_left, Nat.left_eq_add, false_and, and_false, Nat.reduceSub, Nat.sub_self, Nat.le_refl, Nat.zero_le, ge_iff_le, Nat.reduceAdd, Nat.reduceLeDiff, Nat.zero_add, Nat.reduceLT, z_lt, z_le, z_eq, z_l0, z_g0, z_le0, z_ge0, z_e0, z_e1, z_vp, z_nc, z_rem, z_div, i_ltT, i_ltF, i_leT, i_leF, i_eqT, i_eqF, n_ltT, n_ltF, n_leT, n_leF, n_eqT, n_eqF, tn_9, tn_12, tn_14, tn_20, tn_28, tn_44, tn_52, tn_68, tn_84, tn_100, tn_116, tn_132, fu_e, up_eq, ob_0, ob_b, oi_add, oi_sub, oi_mul, oi_neg, Int.add_zero, Int.zero_add, or_true, true_or, or_false, false_or, and_self, z_i2l, z_l2i, lo_nat, lo_add, lo_sub, lo_mul, lo_0, e_rem, CK_sh, CK_shn no4, CK_shn nq4, G4, h3.F.1]
  generalize hW4 : s_R (s_C (s_K W3 r4) (P 15)) (100 + q) 15 (some (100 + r4)) = W4 at h4 f4 ⊢
  have hn4 : w_n W4 = r4 + 1 := by rw [← hW4]; rfl
  clear h3 f3 G4 L4 O4 no4 nq4 hW4
  have G5 := (hO.ext f4).F
  have L5 := h4.lt
  have O5 := (hO.ext f4).lt
  refine rt_X10_copy_78 ?_
  simp (disch := omega) only [wp_c, wp_n, jj_n, v_ct, Int.reduceToNat, Int.toNat_natCast, stE, wlE, lgt, lpu, lpw, v_c2, va_s, true_and, and_true, Option.toList, List.nil_append, List.cons_append, List.take, List.drop, List.reverse, List.reverseAux, List.length_cons, List.length_nil, reduceCtorEq, false_implies, true_implies, forall_const, not_true_eq_false, not_false_eq_true, ite_true, ite_false, Bool.false_eq_true, I_I, J_J, Nat.add_left_cancel_iff, Nat.reduceEqDiff, Nat.add_eq_left, Nat.left_eq_add, false_and, and_false, Nat.reduceSub, Nat.sub_self, Nat.le_refl, Nat.zero_le, ge_iff_le, Nat.reduceAdd, Nat.reduceLeDiff, Nat.zero_add, Nat.reduceLT, z_lt, z_le, z_eq, z_l0, z_g0, z_le0, z_ge0, z_e0, z_e1, z_vp, z_nc, z_rem, z_div, i_ltT, i_ltF, i_leT, i_leF, i_eqT, i_eqF, n_ltT, n_ltF, n_leT, n_leF, n_eqT, n_eqF, tn_9, tn_12, tn_14, tn_20, tn_28, tn_44, tn_52, tn_68, tn_84, tn_100, tn_116, tn_132, fu_e, up_eq, ob_0, ob_b, oi_add, oi_sub, oi_mul, oi_neg, Int.add_zero, Int.zero_add, or_true, true_or, or_false, false_or, and_self, z_i2l, z_l2i, lo_nat, lo_add, lo_sub, lo_mul, lo_0, e_rem, G5, h4.F.1]
  intro r5 hr5
  have no5 : ¬ 100 + q = 100 + r5 := by omega
  have nq5 : ¬ o = 100 + r5 := by omega
  have h5 := h4.from (hO.ext f4) (q := r5) (f := 16) (by omega) (by omega)
  have f5 : FO (100 + w_n w) w (s_R (s_C (s_K W4 r5) (P 16)) (100 + q) 16 (some (100 + r5))) := (f4.C (by omega) (by have := f4.2; omega)).R (UB.new (by omega) (by omega))
  refine rt_X10_copy_86 ?_
  simp (disch := omega) only [wp_c, wp_n, jj_n, v_ct, Int.reduceToNat, Int.toNat_natCast, stE, wlE, lgt, lpu, lpw, v_c2, va_s, true_and, and_true, Option.toList, List.nil_append, List.cons_append, List.take, List.drop, List.reverse, List.reverseAux, List.length_cons, List.length_nil, reduceCtorEq, false_implies, true_implies, forall_const, not_true_eq_false, not_false_eq_true, ite_true, ite_false, Bool.false_eq_true, I_I, J_J, Nat.add_left_cancel_iff, Nat.reduceEqDiff, Nat.add_eq_left, Nat.left_eq_add, false_and, and_false, Nat.reduceSub, Nat.sub_self, Nat.le_refl, Nat.zero_le, ge_iff_le, Nat.reduceAdd, Nat.reduceLeDiff, Nat.zero_add, Nat.reduceLT, z_lt, z_le, z_eq, z_l0, z_g0, z_le0, z_ge0, z_e0, z_e1, z_vp, z_nc, z_rem, z_div, i_ltT, i_ltF, i_leT, i_leF, i_eqT, i_eqF, n_ltT, n_ltF, n_leT, n_leF, n_eqT, n_eqF, tn_9, tn_12, tn_14, tn_20, tn_28, tn_44, tn_52, tn_68, tn_84, tn_100, tn_116, tn_132, fu_e, up_eq, ob_0, ob_b, oi_add, oi_sub, oi_mul, oi_neg, Int.add_zero, Int.zero_add, or_true, true_or, or_false, false_or, and_self, z_i2l, z_l2i, lo_nat, lo_add, lo_sub, lo_mul, lo_0, e_rem, CK_sh, CK_shn no5, CK_shn nq5, G5, h4.F.1]
  generalize hW5 : s_R (s_C (s_K W4 r5) (P 16)) (100 + q) 16 (some (100 + r5)) = W5 at h5 f5 ⊢
  have hn5 : w_n W5 = r5 + 1 := by rw [← hW5]; rfl
  clear h4 f4 G5 L5 O5 no5 nq5 hW5
  have G6 := (hO.ext f5).F
  have L6 := h5.lt
  have O6 := (hO.ext f5).lt
  refine rt_X10_copy_92 ?_
  simp (disch := omega) only [wp_c, wp_n, jj_n, v_ct, Int.reduceToNat, Int.toNat_natCast, stE, wlE, lgt, lpu, lpw, v_c2, va_s, true_and, and_true, Option.toList, List.nil_append, List.cons_append, List.take, List.drop, List.reverse, List.reverseAux, List.length_cons, List.length_nil, reduceCtorEq, false_implies, true_implies, forall_const, not_true_eq_false, not_false_eq_true, ite_true, ite_false, Bool.false_eq_true, I_I, J_J, Nat.add_left_cancel_iff, Nat.reduceEqDiff, Nat.add_eq_left, Nat.left_eq_add, false_and, and_false, Nat.reduceSub, Nat.sub_self, Nat.le_refl, Nat.zero_le, ge_iff_le, Nat.reduceAdd, Nat.reduceLeDiff, Nat.zero_add, Nat.reduceLT, z_lt, z_le, z_eq, z_l0, z_g0, z_le0, z_ge0, z_e0, z_e1, z_vp, z_nc, z_rem, z_div, i_ltT, i_ltF, i_leT, i_leF, i_eqT, i_eqF, n_ltT, n_ltF, n_leT, n_leF, n_eqT, n_eqF, tn_9, tn_12, tn_14, tn_20, tn_28, tn_44, tn_52, tn_68, tn_84, tn_100, tn_116, tn_132, fu_e, up_eq, ob_0, ob_b, oi_add, oi_sub, oi_mul, oi_neg, Int.add_zero, Int.zero_add, or_true, true_or, or_false, false_or, and_self, z_i2l, z_l2i, lo_nat, lo_add, lo_sub, lo_mul, lo_0, e_rem, G6, h5.F.1]
  intro r6 hr6
  have no6 : ¬ 100 + q = 100 + r6 := by omega
  have nq6 : ¬ o = 100 + r6 := by omega
  have h6 := h5.from (hO.ext f5) (q := r6) (f := 17) (by omega) (by omega)
  have f6 : FO (100 + w_n w) w (s_R (s_C (s_K W5 r6) (P 17)) (100 + q) 17 (some (100 + r6))) := (f5.C (by omega) (by have := f5.2; omega)).R (UB.new (by omega) (by omega))
  refine rt_X10_copy_100 ?_
  simp (disch := omega) only [wp_c, wp_n, jj_n, v_ct, Int.reduceToNat, Int.toNat_natCast, stE, wlE, lgt, lpu, lpw, v_c2, va_s, true_and, and_true, Option.toList, List.nil_append, List.cons_append, List.take, List.drop, List.reverse, List.reverseAux, List.length_cons, List.length_nil, reduceCtorEq, false_implies, true_implies, forall_const, not_true_eq_false, not_false_eq_true, ite_true, ite_false, Bool.false_eq_true, I_I, J_J, Nat.add_left_cancel_iff, Nat.reduceEqDiff, Nat.add_eq_left, Nat.left_eq_add, false_and, and_false, Nat.reduceSub, Nat.sub_self, Nat.le_refl, Nat.zero_le, ge_iff_le, Nat.reduceAdd, Nat.reduceLeDiff, Nat.zero_add, Nat.reduceLT, z_lt, z_le, z_eq, z_l0, z_g0, z_le0, z_ge0, z_e0, z_e1, z_vp, z_nc, z_rem, z_div, i_ltT, i_ltF, i_leT, i_leF, i_eqT, i_eqF, n_ltT, n_ltF, n_leT, n_leF, n_eqT, n_eqF, tn_9, tn_12, tn_14, tn_20, tn_28, tn_44, tn_52, tn_68, tn_84, tn_100, tn_116, tn_132, fu_e, up_eq, ob_0, ob_b, oi_add, oi_sub, oi_mul, oi_neg, Int.add_zero, Int.zero_add, or_true, true_or, or_false, false_or, and_self, z_i2l, z_l2i, lo_nat, lo_add, lo_sub, lo_mul, lo_0, e_rem, CK_sh, CK_shn no6, CK_shn nq6, G6, h5.F.1]
  generalize hW6 : s_R (s_C (s_K W5 r6) (P 17)) (100 + q) 17 (some (100 + r6)) = W6 at h6 f6 ⊢
  have hn6 : w_n W6 = r6 + 1 := by rw [← hW6]; rfl
  clear h5 f5 G6 L6 O6 no6 nq6 hW6
  have G7 := (hO.ext f6).F
  have L7 := h6.lt
  have O7 := (hO.ext f6).lt
  refine rt_X10_copy_106 ?_
  simp (disch := omega) only [wp_c, wp_n, jj_n, v_ct, Int.reduceToNat, Int.toNat_natCast, stE, wlE, lgt, lpu, lpw, v_c2, va_s, true_and, and_true, Option.toList, List.nil_append, List.cons_append, List.take, List.drop, List.reverse, List.reverseAux, List.length_cons, List.length_nil, reduceCtorEq, false_implies, true_implies, forall_const, not_true_eq_false, not_false_eq_true, ite_true, ite_false, Bool.false_eq_true, I_I, J_J, Nat.add_left_cancel_iff, Nat.reduceEqDiff, Nat.add_eq_left, Nat.left_eq_add, false_and, and_false, Nat.reduceSub, Nat.sub_self, Nat.le_refl, Nat.zero_le, ge_iff_le, Nat.reduceAdd, Nat.reduceLeDiff, Nat.zero_add, Nat.reduceLT, z_lt, z_le, z_eq, z_l0, z_g0, z_le0, z_ge0, z_e0, z_e1, z_vp, z_nc, z_rem, z_div, i_ltT, i_ltF, i_leT, i_leF, i_eqT, i_eqF, n_ltT, n_ltF, n_leT, n_leF, n_eqT, n_eqF, tn_9, tn_12, tn_14, tn_20, tn_28, tn_44, tn_52, tn_68, tn_84, tn_100, tn_116, tn_132, fu_e, up_eq, ob_0, ob_b, oi_add, oi_sub, oi_mul, oi_neg, Int.add_zero, Int.zero_add, or_true, true_or, or_false, false_or, and_self, z_i2l, z_l2i, lo_nat, lo_add, lo_sub, lo_mul, lo_0, e_rem, G7, h6.F.1]
  intro r7 hr7
  have no7 : ¬ 100 + q = 100 + r7 := by omega
  have nq7 : ¬ o = 100 + r7 := by omega
  have h7 := h6.from (hO.ext f6) (q := r7) (f := 18) (by omega) (by omega)
  have f7 : FO (100 + w_n w) w (s_R (s_C (s_K W6 r7) (P 18)) (100 + q) 18 (some (100 + r7))) := (f6.C (by omega) (by have := f6.2; omega)).R (UB.new (by omega) (by omega))
  refine rt_X10_copy_114 ?_
  simp (disch := omega) only [wp_c, wp_n, jj_n, v_ct, Int.reduceToNat, Int.toNat_natCast, stE, wlE, lgt, lpu, lpw, v_c2, va_s, true_and, and_true, Option.toList, List.nil_append, List.cons_append, List.take, List.drop, List.reverse, List.reverseAux, List.length_cons, List.length_nil, reduceCtorEq, false_implies, true_implies, forall_const, not_true_eq_false, not_false_eq_true, ite_true, ite_false, Bool.false_eq_true, I_I, J_J, Nat.add_left_cancel_iff, Nat.reduceEqDiff, Nat.add_eq_left, Nat.left_eq_add, false_and, and_false, Nat.reduceSub, Nat.sub_self, Nat.le_refl, Nat.zero_le, ge_iff_le, Nat.reduceAdd, Nat.reduceLeDiff, Nat.zero_add, Nat.reduceLT, z_lt, z_le, z_eq, z_l0, z_g0, z_le0, z_ge0, z_e0, z_e1, z_vp, z_nc, z_rem, z_div, i_ltT, i_ltF, i_leT, i_leF, i_eqT, i_eqF, n_ltT, n_ltF, n_leT, n_leF, n_eqT, n_eqF, tn_9, tn_12, tn_14, tn_20, tn_28, tn_44, tn_52, tn_68, tn_84, tn_100, tn_116, tn_132, fu_e, up_eq, ob_0, ob_b, oi_add, oi_sub, oi_mul, oi_neg, Int.add_zero, Int.zero_add, or_true, true_or, or_false, false_or, and_self, z_i2l, z_l2i, lo_nat, lo_add, lo_sub, lo_mul, lo_0, e_rem, CK_sh, CK_shn no7, CK_shn nq7, G7, h6.F.1]
  generalize hW7 : s_R (s_C (s_K W6 r7) (P 18)) (100 + q) 18 (some (100 + r7)) = W7 at h7 f7 ⊢
  have hn7 : w_n W7 = r7 + 1 := by rw [← hW7]; rfl
  clear h6 f6 G7 L7 O7 no7 nq7 hW7
  have G8 := (hO.ext f7).F
  have L8 := h7.lt
  have O8 := (hO.ext f7).lt
  refine rt_X10_copy_120 ?_
  simp (disch := omega) only [wp_c, wp_n, jj_n, v_ct, Int.reduceToNat, Int.toNat_natCast, stE, wlE, lgt, lpu, lpw, v_c2, va_s, true_and, and_true, Option.toList, List.nil_append, List.cons_append, List.take, List.drop, List.reverse, List.reverseAux, List.length_cons, List.length_nil, reduceCtorEq, false_implies, true_implies, forall_const, not_true_eq_false, not_false_eq_true, ite_true, ite_false, Bool.false_eq_true, I_I, J_J, Nat.add_left_cancel_iff, Nat.reduceEqDiff, Nat.add_eq_left, Nat.left_eq_add, false_and, and_false, Nat.reduceSub, Nat.sub_self, Nat.le_refl, Nat.zero_le, ge_iff_le, Nat.reduceAdd, Nat.reduceLeDiff, Nat.zero_add, Nat.reduceLT, z_lt, z_le, z_eq, z_l0, z_g0, z_le0, z_ge0, z_e0, z_e1, z_vp, z_nc, z_rem, z_div, i_ltT, i_ltF, i_leT, i_leF, i_eqT, i_eqF, n_ltT, n_ltF, n_leT, n_leF, n_eqT, n_eqF, tn_9, tn_12, tn_14, tn_20, tn_28, tn_44, tn_52, tn_68, tn_84, tn_100, tn_116, tn_132, fu_e, up_eq, ob_0, ob_b, oi_add, oi_sub, oi_mul, oi_neg, Int.add_zero, Int.zero_add, or_true, true_or, or_false, false_or, and_self, z_i2l, z_l2i, lo_nat, lo_add, lo_sub, lo_mul, lo_0, e_rem, G8, h7.F.1]
  intro r8 hr8
  have no8 : ¬ 100 + q = 100 + r8 := by omega
  have nq8 : ¬ o = 100 + r8 := by omega
  have h8 := h7.from (hO.ext f7) (q := r8) (f := 19) (by omega) (by omega)
  have f8 : FO (100 + w_n w) w (s_R (s_C (s_K W7 r8) (P 19)) (100 + q) 19 (some (100 + r8))) := (f7.C (by omega) (by have := f7.2; omega)).R (UB.new (by omega) (by omega))
  refine rt_X10_copy_128 ?_
  simp (disch := omega) only [wp_c, wp_n, jj_n, v_ct, Int.reduceToNat, Int.toNat_natCast, stE, wlE, lgt, lpu, lpw, v_c2, va_s, true_and, and_true, Option.toList, List.nil_append, List.cons_append, List.take, List.drop, List.reverse, List.reverseAux, List.length_cons, List.length_nil, reduceCtorEq, false_implies, true_implies, forall_const, not_true_eq_false, not_false_eq_true, ite_true, ite_false, Bool.false_eq_true, I_I, J_J, Nat.add_left_cancel_iff, Nat.reduceEqDiff, Nat.add_eq_left, Nat.left_eq_add, false_and, and_false, Nat.reduceSub, Nat.sub_self, Nat.le_refl, Nat.zero_le, ge_iff_le, Nat.reduceAdd, Nat.reduceLeDiff, Nat.zero_add, Nat.reduceLT, z_lt, z_le, z_eq, z_l0, z_g0, z_le0, z_ge0, z_e0, z_e1, z_vp, z_nc, z_rem, z_div, i_ltT, i_ltF, i_leT, i_leF, i_eqT, i_eqF, n_ltT, n_ltF, n_leT, n_leF, n_eqT, n_eqF, tn_9, tn_12, tn_14, tn_20, tn_28, tn_44, tn_52, tn_68, tn_84, tn_100, tn_116, tn_132, fu_e, up_eq, ob_0, ob_b, oi_add, oi_sub, oi_mul, oi_neg, Int.add_zero, Int.zero_add, or_true, true_or, or_false, false_or, and_self, z_i2l, z_l2i, lo_nat, lo_add, lo_sub, lo_mul, lo_0, e_rem, CK_sh, CK_shn no8, CK_shn nq8, G8, h7.F.1]
  generalize hW8 : s_R (s_C (s_K W7 r8) (P 19)) (100 + q) 19 (some (100 + r8)) = W8 at h8 f8 ⊢
  have hn8 : w_n W8 = r8 + 1 := by rw [← hW8]; rfl
  clear h7 f7 G8 L8 O8 no8 nq8 hW8
  have G9 := (hO.ext f8).F
  have L9 := h8.lt
  have O9 := (hO.ext f8).lt
  refine rt_X10_copy_134 ?_
  simp (disch := omega) only [wp_c, wp_n, jj_n, v_ct, Int.reduceToNat, Int.toNat_natCast, stE, wlE, lgt, lpu, lpw, v_c2, va_s, true_and, and_true, Option.toList, List.nil_append, List.cons_append, List.take, List.drop, List.reverse, List.reverseAux, List.length_cons, List.length_nil, reduceCtorEq, false_implies, true_implies, forall_const, not_true_eq_false, not_false_eq_true, ite_true, ite_false, Bool.false_eq_true, I_I, J_J, Nat.add_left_cancel_iff, Nat.reduceEqDiff, Nat.add_eq_left, Nat.left_eq_add, false_and, and_false, Nat.reduceSub, Nat.sub_self, Nat.le_refl, Nat.zero_le, ge_iff_le, Nat.reduceAdd, Nat.reduceLeDiff, Nat.zero_add, Nat.reduceLT, z_lt, z_le, z_eq, z_l0, z_g0, z_le0, z_ge0, z_e0, z_e1, z_vp, z_nc, z_rem, z_div, i_ltT, i_ltF, i_leT, i_leF, i_eqT, i_eqF, n_ltT, n_ltF, n_leT, n_leF, n_eqT, n_eqF, tn_9, tn_12, tn_14, tn_20, tn_28, tn_44, tn_52, tn_68, tn_84, tn_100, tn_116, tn_132, fu_e, up_eq, ob_0, ob_b, oi_add, oi_sub, oi_mul, oi_neg, Int.add_zero, Int.zero_add, or_true, true_or, or_false, false_or, and_self, z_i2l, z_l2i, lo_nat, lo_add, lo_sub, lo_mul, lo_0, e_rem, G9, h8.F.1]
  intro r9 hr9
  have no9 : ¬ 100 + q = 100 + r9 := by omega
  have nq9 : ¬ o = 100 + r9 := by omega
  have h9 := h8.from (hO.ext f8) (q := r9) (f := 21) (by omega) (by omega)
  have f9 : FO (100 + w_n w) w (s_R (s_C (s_K W8 r9) (P 21)) (100 + q) 21 (some (100 + r9))) := (f8.C (by omega) (by have := f8.2; omega)).R (UB.new (by omega) (by omega))
  refine rt_X10_copy_142 ?_
  simp (disch := omega) only [wp_c, wp_n, jj_n, v_ct, Int.reduceToNat, Int.toNat_natCast, stE, wlE, lgt, lpu, lpw, v_c2, va_s, true_and, and_true, Option.toList, List.nil_append, List.cons_append, List.take, List.drop, List.reverse, List.reverseAux, List.length_cons, List.length_nil, reduceCtorEq, false_implies, true_implies, forall_const, not_true_eq_false, not_false_eq_true, ite_true, ite_false, Bool.false_eq_true, I_I, J_J, Nat.add_left_cancel_iff, Nat.reduceEqDiff, Nat.add_eq_left, Nat.left_eq_add, false_and, and_false, Nat.reduceSub, Nat.sub_self, Nat.le_refl, Nat.zero_le, ge_iff_le, Nat.reduceAdd, Nat.reduceLeDiff, Nat.zero_add, Nat.reduceLT, z_lt, z_le, z_eq, z_l0, z_g0, z_le0, z_ge0, z_e0, z_e1, z_vp, z_nc, z_rem, z_div, i_ltT, i_ltF, i_leT, i_leF, i_eqT, i_eqF, n_ltT, n_ltF, n_leT, n_leF, n_eqT, n_eqF, tn_9, tn_12, tn_14, tn_20, tn_28, tn_44, tn_52, tn_68, tn_84, tn_100, tn_116, tn_132, fu_e, up_eq, ob_0, ob_b, oi_add, oi_sub, oi_mul, oi_neg, Int.add_zero, Int.zero_add, or_true, true_or, or_false, false_or, and_self, z_i2l, z_l2i, lo_nat, lo_add, lo_sub, lo_mul, lo_0, e_rem, CK_sh, CK_shn no9, CK_shn nq9, G9, h8.F.1]
  generalize hW9 : s_R (s_C (s_K W8 r9) (P 21)) (100 + q) 21 (some (100 + r9)) = W9 at h9 f9 ⊢
  have hn9 : w_n W9 = r9 + 1 := by rw [← hW9]; rfl
  clear h8 f8 G9 L9 O9 no9 nq9 hW9
  refine rt_X10_copy_148 ?_
  simp (disch := omega) only [wp_c, wp_n, jj_n, v_ct, Int.reduceToNat, Int.toNat_natCast, stE, wlE, lgt, lpu, lpw, v_c2, va_s, true_and, and_true, Option.toList, List.nil_append, List.cons_append, List.take, List.drop, List.reverse, List.reverseAux, List.length_cons, List.length_nil, reduceCtorEq, false_implies, true_implies, forall_const, not_true_eq_false, not_false_eq_true, ite_true, ite_false, Bool.false_eq_true, I_I, J_J, Nat.add_left_cancel_iff, Nat.reduceEqDiff, Nat.add_eq_left, Nat.left_eq_add, false_and, and_false, Nat.reduceSub, Nat.sub_self, Nat.le_refl, Nat.zero_le, ge_iff_le, Nat.reduceAdd, Nat.reduceLeDiff, Nat.zero_add, Nat.reduceLT, z_lt, z_le, z_eq, z_l0, z_g0, z_le0, z_ge0, z_e0, z_e1, z_vp, z_nc, z_rem, z_div, i_ltT, i_ltF, i_leT, i_leF, i_eqT, i_eqF, n_ltT, n_ltF, n_leT, n_leF, n_eqT, n_eqF, tn_9, tn_12, tn_14, tn_20, tn_28, tn_44, tn_52, tn_68, tn_84, tn_100, tn_116, tn_132, fu_e, up_eq, ob_0, ob_b, oi_add, oi_sub, oi_mul, oi_neg, Int.add_zero, Int.zero_add, or_true, true_or, or_false, false_or, and_self, z_i2l, z_l2i, lo_nat, lo_add, lo_sub, lo_mul, lo_0, e_rem, mr_X10_copy]
  exact hq _ _ _ (h9.cg (cp_row B)) f9
