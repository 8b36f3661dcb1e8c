-- 48.own
theorem CK_sh (w : mW) (q a : Nat) : w_sh (s_C (s_K w q) a) (100 + q) = w_sh w a := by rw [(C_at (w := w) (a := a) (q := q)).1, if_pos rfl]
theorem CK_shn {w : mW} {q a c : Nat} (h : ¬ c = 100 + q) : w_sh (s_C (s_K w q) a) c = w_sh w c := by rw [(C_at (w := w) (a := a) (q := q)).1, if_neg h]
theorem CK_Rn {w : mW} {q a c : Nat} (h : ¬ c = 100 + q) : w_R (s_C (s_K w q) a) c = w_R w c := (C_at (w := w) (a := a) (q := q)).2.2.1 c h
theorem CK_n (w : mW) (q a : Nat) : w_n (s_C (s_K w q) a) = q + 1 := rfl
theorem NK_sh (w : mW) (q : Nat) (z : Nat × Nat) : w_sh (s_N (s_K w q) z) (100 + q) = z := by rw [N_sh, K_n, if_pos rfl]
theorem NK_shn {w : mW} {q c : Nat} {z : Nat × Nat} (h : ¬ c = 100 + q) : w_sh (s_N (s_K w q) z) c = w_sh w c := by rw [N_sh, K_n, if_neg h, K_sh]
theorem NK_Rn {w : mW} {q c : Nat} {z : Nat × Nat} (h : ¬ c = 100 + q) : w_R (s_N (s_K w q) z) c = w_R w c := by rw [N_Rc, K_n, if_neg h, K_R]
theorem beg_at (A : Row) (way : Int) (j : Nat) : a_beg A way j = if j = 7 then way else if (52 ≤ j ∧ j < 68) ∨ (84 ≤ j ∧ j < 100) ∨ (9 ≤ j ∧ j < 12) then 0 else A j := by
  simp only [a_beg, zr, up_eq]
  by_cases h7 : j = 7
  · rw [if_pos h7, if_pos h7]
  · rw [if_neg h7, if_neg h7]
    repeat' split
    all_goals first | rfl | omega
theorem rl_beg {A B : Row} {way dv : Int} (h : RAB A B) : RAB (a_beg A way) (o_beg B way dv) := by
  refine ⟨fun j hj => ?_, fun i hi => ?_⟩
  · have hb := h.1 j hj
    unfold RK at hj
    by_cases z : 52 ≤ j ∧ j < 68
    · rw [beg_at, if_neg (show ¬ j = 7 by omega), if_pos (by omega)]
      unfold o_beg
      rw [if_neg (by omega), if_neg (by omega), if_neg (by omega), if_neg (by omega), if_pos (by omega)]
    · rw [beg_at, if_neg (show ¬ j = 7 by omega), if_neg (by omega), ← hb]
      unfold o_beg
      rw [if_neg (by omega), if_neg (by omega), if_neg (by omega), if_neg (by omega), if_neg (by omega)]
  · have e : a_beg A way (84 + i) = 0 := by rw [beg_at, if_neg (by omega), if_pos (by omega)]
    rw [e, mvd_0]
    unfold o_beg
    rw [if_neg (by omega), if_neg (by omega), if_neg (by omega), if_neg (by omega), if_pos (by omega)]
def bg1 (B : Row) (way dv : Int) : Row := up (up B 7 way) 8 dv
def bg2 (B : Row) (way dv : Int) : Row := fun j => if oi 22 0 ≤ j ∧ j < oi 22 0 + olen 22 then bg1 B way dv (oi 16 0 + (j - oi 22 0)) else bg1 B way dv j
def bg3 (B : Row) (way dv : Int) : Row := fun j => if oi 23 0 ≤ j ∧ j < oi 23 0 + olen 23 then bg2 B way dv (oi 21 0 + (j - oi 23 0)) else bg2 B way dv j
def bg4 (B : Row) (way dv : Int) : Row := fun j => if oi 18 0 ≤ j ∧ j < oi 18 0 + olen 18 then 0 else bg3 B way dv j
def bg5 (B : Row) (way dv : Int) : Row := fun j => if oi 20 0 ≤ j ∧ j < oi 20 0 + olen 20 then 0 else bg4 B way dv j
theorem bg1_at (B : Row) (way dv : Int) (j : Nat) (h : ¬ j = 7 ∧ ¬ j = 8) : bg1 B way dv j = B j := by unfold bg1; rw [up_eq, if_neg h.2, up_eq, if_neg h.1]
theorem bg2_at (B : Row) (way dv : Int) (j : Nat) : bg2 B way dv j = if 1020 ≤ j ∧ j < 1036 then B (28 + (j - 1020)) else bg1 B way dv j := by
  show (if 1020 + 0 ≤ j ∧ j < 1020 + 0 + 16 then bg1 B way dv (28 + 0 + (j - (1020 + 0))) else bg1 B way dv j) = _
  by_cases q : 1020 ≤ j ∧ j < 1036
  · rw [if_pos (by omega), if_pos q, bg1_at _ _ _ _ (by omega)]; congr 1
  · rw [if_neg (by omega), if_neg q]
theorem bg3_at (B : Row) (way dv : Int) (j : Nat) : bg3 B way dv j = if 1040 ≤ j ∧ j < 1046 then B (12 + (j - 1040)) else bg2 B way dv j := by
  show (if 1040 + 0 ≤ j ∧ j < 1040 + 0 + 6 then bg2 B way dv (12 + 0 + (j - (1040 + 0))) else bg2 B way dv j) = _
  by_cases q : 1040 ≤ j ∧ j < 1046
  · rw [if_pos (by omega), if_pos q, bg2_at, if_neg (by omega), bg1_at _ _ _ _ (by omega)]; congr 1
  · rw [if_neg (by omega), if_neg q]
theorem beg_row (B : Row) (way dv : Int) : up (up (bg5 B way dv) 1009 0) 1010 0 = o_beg B way dv := by
  funext j
  have e5 : bg5 B way dv j = if 84 ≤ j ∧ j < 100 then 0 else bg4 B way dv j := rfl
  have e4 : bg4 B way dv j = if 52 ≤ j ∧ j < 68 then 0 else bg3 B way dv j := rfl
  rw [up_eq, up_eq, e5, e4, bg3_at, bg2_at]
  unfold o_beg bg1
  rw [up_eq, up_eq]
  by_cases c7 : j = 7
  · subst c7; rfl
  by_cases c8 : j = 8
  · subst c8; rfl
  rw [if_neg c8, if_neg c7, if_neg c7, if_neg c8]
  by_cases c1 : 1020 ≤ j ∧ j < 1036
  · rw [if_neg (by omega), if_neg (by omega), if_neg (by omega), if_neg (by omega), if_neg (by omega), if_pos c1, if_pos c1]
  by_cases c2 : 1040 ≤ j ∧ j < 1046
  · rw [if_neg (by omega), if_neg (by omega), if_neg (by omega), if_neg (by omega), if_pos c2, if_neg c1, if_pos c2]
  rw [if_neg c1, if_neg c2, if_neg c1, if_neg c2]
  by_cases c3 : j = 1010
  · rw [if_pos c3, if_pos (by omega)]
  by_cases c4 : j = 1009
  · rw [if_neg c3, if_pos c4, if_pos (by omega)]
  rw [if_neg c3, if_neg c4]
  by_cases c5 : 84 ≤ j ∧ j < 100
  · rw [if_pos c5, if_pos (by omega)]
  by_cases c6 : 52 ≤ j ∧ j < 68
  · rw [if_neg c5, if_pos c6, if_pos (by omega)]
  · rw [if_neg c5, if_neg c6, if_neg (by omega)]
set_option maxHeartbeats 4000000 in
theorem z_turn {b o : Nat} {P : Nat → Nat} {A B : Row} {way dv : Int} {w : mW} {Q : mW → mO → Prop} (hO : OW w b o P B) (hJ : TJ A) (h18 : 0 ≤ A 18) (hR : RAB A B) (hk : B 1013 = k_num A) (hdu : B 1014 = du A) (h11 : B 1011 = B 18) (h8 : A 8 = dv) (hdv : dv = 0 ∨ dv = 1) (hw : way = 1 ∨ way = -1) (h14 : 0 ≤ A 14 ∧ A 14 ≤ 1000000000)
  (hq : ∀ w' P' B', OW w' b o P' B' → FO b w w' → RX (a_fin (a_one A way)) B' → (B' 7 = way ∧ B' 8 = dv ∧ B' 1000 = B 1000) → (∀ i, i < 16 → B' (1020 + i) = A (28 + i)) → (∀ i, i < 6 → B' (1040 + i) = A (12 + i)) → (0 < a_fin (a_one A way) 5 → B' 6 = a_fin (a_one A way) 6) → Int32.ofInt (B' 1009) = (a_one A way).2.2 → SV (a_beg A way) (a_fin (a_one A way)) → (LX A B → LX (a_fin (a_one A way)) B') → Q w' (.inl (some (.int (Int32.ofInt (match (a_one A way).2.1 with | none => 1 | some _ => 0)))))) :
  CT n_X10_turn [.ref o, .int (Int32.ofInt way), .int (Int32.ofInt dv)] w Q := by
  have hF := hO.F
  have hge := hO.ge
  have hlt := hO.lt
  have hb0 := hO.1.2.1
  have hI := beg_TI (way := way) hJ.1 hw
  have hz := TJ_sz hJ
  have hM : M0 (a_beg A way) := fun i hi => by rw [beg_at, if_neg (by omega), if_pos (by omega)]; omega
  have h16 : (Int32.ofInt 16).toNatClampNeg = 16 := by decide
  have h1 := (hO.sway (v := way)).soth (v := dv)
  have f1 : FO b w (s_I (s_I w o 8 (Int32.ofInt way)) o 12 (Int32.ofInt dv)) := ((FO.refl _ _).I hge.1).I hge.1
  refine ct_X10_turn (rt_X10_turn_0 ?_)
  simp (disch := omega) only [wp_c, wp_n, jj_n, v_ct, Int.reduceToNat, Int.toNat_natCast, stE, wlE, lgt, lpu, lpw, v_c2, va_s, true_and, and_true, Option.toList, List.nil_append, List.cons_append, List.take, List.drop, List.reverse, List.reverseAux, List.length_cons, List.length_nil, reduceCtorEq, false_implies, true_implies, forall_const, not_true_eq_false, not_false_eq_true, ite_true, ite_false, Bool.false_eq_true, I_I, J_J, Nat.add_left_cancel_iff, Nat.reduceEqDiff, Nat.add_eq_left, Nat.left_eq_add, false_and, and_false, Nat.reduceSub, Nat.sub_self, Nat.le_refl, Nat.zero_le, ge_iff_le, Nat.reduceAdd, Nat.reduceLeDiff, Nat.zero_add, Nat.reduceLT, z_lt, z_le, z_eq, z_l0, z_g0, z_le0, z_ge0, z_e0, z_e1, z_vp, z_nc, z_rem, z_div, i_ltT, i_ltF, i_leT, i_leF, i_eqT, i_eqF, n_ltT, n_ltF, n_leT, n_leF, n_eqT, n_eqF, tn_9, tn_12, tn_14, tn_20, tn_28, tn_44, tn_52, tn_68, tn_84, tn_100, tn_116, tn_132, fu_e, up_eq, ob_0, ob_b, oi_add, oi_sub, oi_mul, oi_neg, Int.add_zero, Int.zero_add, or_true, true_or, or_false, false_or, and_self, z_i2l, z_l2i, lo_nat, lo_add, lo_sub, lo_mul, lo_0, e_rem, hF, hdv]
  generalize hw1 : s_I (s_I w o 8 (Int32.ofInt way)) o 12 (Int32.ofInt dv) = w1 at h1 f1 ⊢
  have hn1 : w_n w1 = w_n w := by rw [← hw1]; rfl
  intro q1 hq1
  have hq1' : w_n w1 ≤ q1 := by omega
  have F1 := h1.F
  have L1 := h1.lt
  have h2 := h1.copy (f := 22) (g := 16) (by omega) (by omega) rfl hq1'
  have f2 : FO b w (s_R (s_C (s_K w1 q1) (P 16)) o 22 (some (100 + q1))) := (f1.C hq1' (by omega)).R hge.1
  have no1 : ¬ o = 100 + q1 := by omega
  generalize hw2 : s_R (s_C (s_K w1 q1) (P 16)) o 22 (some (100 + q1)) = w2 at h2 f2 ⊢
  have hn2 : w_n w2 = q1 + 1 := by rw [← hw2]; rfl
  have F2 := h2.F
  simp only [Nat.reduceEqDiff, ite_true, ite_false] at F2
  simp (disch := omega) only [wp_c, wp_n, jj_n, v_ct, Int.reduceToNat, Int.toNat_natCast, stE, wlE, lgt, lpu, lpw, v_c2, va_s, true_and, and_true, Option.toList, List.nil_append, List.cons_append, List.take, List.drop, List.reverse, List.reverseAux, List.length_cons, List.length_nil, reduceCtorEq, false_implies, true_implies, forall_const, not_true_eq_false, not_false_eq_true, ite_true, ite_false, Bool.false_eq_true, I_I, J_J, Nat.add_left_cancel_iff, Nat.reduceEqDiff, Nat.add_eq_left, Nat.left_eq_add, false_and, and_false, Nat.reduceSub, Nat.sub_self, Nat.le_refl, Nat.zero_le, ge_iff_le, Nat.reduceAdd, Nat.reduceLeDiff, Nat.zero_add, Nat.reduceLT, z_lt, z_le, z_eq, z_l0, z_g0, z_le0, z_ge0, z_e0, z_e1, z_vp, z_nc, z_rem, z_div, i_ltT, i_ltF, i_leT, i_leF, i_eqT, i_eqF, n_ltT, n_ltF, n_leT, n_leF, n_eqT, n_eqF, tn_9, tn_12, tn_14, tn_20, tn_28, tn_44, tn_52, tn_68, tn_84, tn_100, tn_116, tn_132, fu_e, up_eq, ob_0, ob_b, oi_add, oi_sub, oi_mul, oi_neg, Int.add_zero, Int.zero_add, or_true, true_or, or_false, false_or, and_self, z_i2l, z_l2i, lo_nat, lo_add, lo_sub, lo_mul, lo_0, e_rem, CK_sh, CK_shn no1, CK_Rn no1, F1, F2]
  intro q2 hq2
  have hq2' : w_n w2 ≤ q2 := by omega
  have h3 := h2.copy (f := 23) (g := 21) (by omega) (by omega) rfl hq2'
  simp only [Nat.reduceEqDiff, ite_true, ite_false] at h3
  have f3 : FO b w (s_R (s_C (s_K w2 q2) (P 21)) o 23 (some (100 + q2))) := (f2.C hq2' (by omega)).R hge.1
  have no2 : ¬ o = 100 + q2 := by omega
  generalize hw3 : s_R (s_C (s_K w2 q2) (P 21)) o 23 (some (100 + q2)) = w3 at h3 f3 ⊢
  have hn3 : w_n w3 = q2 + 1 := by rw [← hw3]; rfl
  have F3 := h3.F
  simp only [Nat.reduceEqDiff, ite_true, ite_false] at F3
  simp (disch := omega) only [wp_c, wp_n, jj_n, v_ct, Int.reduceToNat, Int.toNat_natCast, stE, wlE, lgt, lpu, lpw, v_c2, va_s, true_and, and_true, Option.toList, List.nil_append, List.cons_append, List.take, List.drop, List.reverse, List.reverseAux, List.length_cons, List.length_nil, reduceCtorEq, false_implies, true_implies, forall_const, not_true_eq_false, not_false_eq_true, ite_true, ite_false, Bool.false_eq_true, I_I, J_J, Nat.add_left_cancel_iff, Nat.reduceEqDiff, Nat.add_eq_left, Nat.left_eq_add, false_and, and_false, Nat.reduceSub, Nat.sub_self, Nat.le_refl, Nat.zero_le, ge_iff_le, Nat.reduceAdd, Nat.reduceLeDiff, Nat.zero_add, Nat.reduceLT, z_lt, z_le, z_eq, z_l0, z_g0, z_le0, z_ge0, z_e0, z_e1, z_vp, z_nc, z_rem, z_div, i_ltT, i_ltF, i_leT, i_leF, i_eqT, i_eqF, n_ltT, n_ltF, n_leT, n_leF, n_eqT, n_eqF, tn_9, tn_12, tn_14, tn_20, tn_28, tn_44, tn_52, tn_68, tn_84, tn_100, tn_116, tn_132, fu_e, up_eq, ob_0, ob_b, oi_add, oi_sub, oi_mul, oi_neg, Int.add_zero, Int.zero_add, or_true, true_or, or_false, false_or, and_self, z_i2l, z_l2i, lo_nat, lo_add, lo_sub, lo_mul, lo_0, e_rem, CK_sh, CK_shn no2, CK_Rn no2, F2, F3, h16]
  intro q3 hq3
  have hq3' : w_n w3 ≤ q3 := by omega
  have h4 := h3.new (f := 18) (n := 16) (by omega) rfl hq3'
  have f4 : FO b w (s_R (s_N (s_K w3 q3) (1, 16)) o 18 (some (100 + q3))) := (f3.N hq3' (by omega)).R hge.1
  have no3 : ¬ o = 100 + q3 := by omega
  generalize hw4 : s_R (s_N (s_K w3 q3) (1, 16)) o 18 (some (100 + q3)) = w4 at h4 f4 ⊢
  have hn4 : w_n w4 = q3 + 1 := by rw [← hw4]; rfl
  have F4 := h4.F
  simp only [Nat.reduceEqDiff, ite_true, ite_false] at F4
  simp (disch := omega) only [wp_c, wp_n, jj_n, v_ct, Int.reduceToNat, Int.toNat_natCast, stE, wlE, lgt, lpu, lpw, v_c2, va_s, true_and, and_true, Option.toList, List.nil_append, List.cons_append, List.take, List.drop, List.reverse, List.reverseAux, List.length_cons, List.length_nil, reduceCtorEq, false_implies, true_implies, forall_const, not_true_eq_false, not_false_eq_true, ite_true, ite_false, Bool.false_eq_true, I_I, J_J, Nat.add_left_cancel_iff, Nat.reduceEqDiff, Nat.add_eq_left, Nat.left_eq_add, false_and, and_false, Nat.reduceSub, Nat.sub_self, Nat.le_refl, Nat.zero_le, ge_iff_le, Nat.reduceAdd, Nat.reduceLeDiff, Nat.zero_add, Nat.reduceLT, z_lt, z_le, z_eq, z_l0, z_g0, z_le0, z_ge0, z_e0, z_e1, z_vp, z_nc, z_rem, z_div, i_ltT, i_ltF, i_leT, i_leF, i_eqT, i_eqF, n_ltT, n_ltF, n_leT, n_leF, n_eqT, n_eqF, tn_9, tn_12, tn_14, tn_20, tn_28, tn_44, tn_52, tn_68, tn_84, tn_100, tn_116, tn_132, fu_e, up_eq, ob_0, ob_b, oi_add, oi_sub, oi_mul, oi_neg, Int.add_zero, Int.zero_add, or_true, true_or, or_false, false_or, and_self, z_i2l, z_l2i, lo_nat, lo_add, lo_sub, lo_mul, lo_0, e_rem, NK_sh, NK_shn no3, NK_Rn no3, F3, F4, h16]
  intro q4 hq4
  have hq4' : w_n w4 ≤ q4 := by omega
  have h5 := h4.new (f := 20) (n := 16) (by omega) rfl hq4'
  have f5 : FO b w (s_R (s_N (s_K w4 q4) (1, 16)) o 20 (some (100 + q4))) := (f4.N hq4' (by omega)).R hge.1
  have no4 : ¬ o = 100 + q4 := by omega
  generalize hw5 : s_R (s_N (s_K w4 q4) (1, 16)) o 20 (some (100 + q4)) = w5 at h5 f5 ⊢
  have F5 := h5.F
  simp (disch := omega) only [wp_c, wp_n, jj_n, v_ct, Int.reduceToNat, Int.toNat_natCast, stE, wlE, lgt, lpu, lpw, v_c2, va_s, true_and, and_true, Option.toList, List.nil_append, List.cons_append, List.take, List.drop, List.reverse, List.reverseAux, List.length_cons, List.length_nil, reduceCtorEq, false_implies, true_implies, forall_const, not_true_eq_false, not_false_eq_true, ite_true, ite_false, Bool.false_eq_true, I_I, J_J, Nat.add_left_cancel_iff, Nat.reduceEqDiff, Nat.add_eq_left, Nat.left_eq_add, false_and, and_false, Nat.reduceSub, Nat.sub_self, Nat.le_refl, Nat.zero_le, ge_iff_le, Nat.reduceAdd, Nat.reduceLeDiff, Nat.zero_add, Nat.reduceLT, z_lt, z_le, z_eq, z_l0, z_g0, z_le0, z_ge0, z_e0, z_e1, z_vp, z_nc, z_rem, z_div, i_ltT, i_ltF, i_leT, i_leF, i_eqT, i_eqF, n_ltT, n_ltF, n_leT, n_leF, n_eqT, n_eqF, tn_9, tn_12, tn_14, tn_20, tn_28, tn_44, tn_52, tn_68, tn_84, tn_100, tn_116, tn_132, fu_e, up_eq, ob_0, ob_b, oi_add, oi_sub, oi_mul, oi_neg, Int.add_zero, Int.zero_add, or_true, true_or, or_false, false_or, and_self, z_i2l, z_l2i, lo_nat, lo_add, lo_sub, lo_mul, lo_0, e_rem, NK_sh, NK_shn no4, NK_Rn no4, F4, F5.1, mh_X10_turn]
  have h6 := (h5.slong (v := 0)).srun (v := 0)
  have f6 : FO b w (s_I (s_I w5 o 9 (Int32.ofInt 0)) o 10 (Int32.ofInt 0)) := (f5.I hge.1).I hge.1
  have h7 := h6.cg (beg_row B way dv).symm
  have ob : ∀ j, (j < 5 ∨ (12 ≤ j ∧ j < 52) ∨ (68 ≤ j ∧ j < 84) ∨ (100 ≤ j ∧ j < 1009) ∨ (1011 ≤ j ∧ j < 1020)) → o_beg B way dv j = B j := fun j hj => by
    unfold o_beg
    rw [if_neg (by omega), if_neg (by omega), if_neg (by omega), if_neg (by omega), if_neg (by omega)]
  have ab : ∀ j, (j < 7 ∨ j = 8 ∨ (12 ≤ j ∧ j < 52) ∨ (68 ≤ j ∧ j < 84) ∨ 100 ≤ j) → a_beg A way j = A j := fun j hj => by
    rw [beg_at, if_neg (by omega), if_neg (by omega)]
  have a9 : a_beg A way 9 = 0 := by rw [beg_at, if_neg (by omega), if_pos (by omega)]
  have b7 : o_beg B way dv 7 = way := by unfold o_beg; rw [if_pos rfl]
  have b8 : o_beg B way dv 8 = dv := by unfold o_beg; rw [if_neg (by omega), if_pos rfl]
  have b1042 : o_beg B way dv 1042 = A 14 := by
    unfold o_beg
    rw [if_neg (by omega), if_neg (by omega), if_neg (by omega), if_pos (by omega)]
    exact hR.cts (j := 2) (by omega)
  have z1 : (((0 : Nat) : Int) + 1) = 1 := rfl
  have hgo := @z_goOn b o 0 0 (fun g => if g = 20 then 100 + q4 else if g = 18 then 100 + q3 else if g = 23 then 100 + q2 else if g = 22 then 100 + q1 else P g) (a_beg A way) (o_beg B way dv) (Int32.ofInt 0) (Int32.ofInt 0) (s_I (s_I w5 o 9 (Int32.ofInt 0)) o 10 (Int32.ofInt 0))
  rw [z1] at hgo
  refine hgo h7 hI hM (rl_beg hR) (by rw [b7, beg_7]) (by rw [b8, ab 8 (by omega)]; exact h8.symm) (by rw [ab 8 (by omega), h8]; exact hdv) ?_ ?_ (by rw [ob _ (by omega), ob _ (by omega)]; exact h11) (by rw [ab _ (by omega)]; exact h18) (fun j hj => by rw [ab _ (by omega)]; exact hJ.2 j hj) (by rw [b1042, ab 14 (by omega), a9]; omega) (by rw [b1042]; exact h14) a9 (by unfold o_beg; rfl) (by unfold o_beg; rfl) (Or.inl ⟨rfl, by rw [ab 0 (by omega)]; omega⟩) ?_
  · rw [ob _ (by omega), hk]
    exact (k_c (ab _ (by omega)) (by omega) (fun j hj => ab _ (by omega))).symm
  · rw [ob _ (by omega), hdu]
    exact (d_c (ab _ (by omega)) (by omega) (fun j hj => ab _ (by omega))).symm
  · intro w6 B6 m1 m2 m3 m4 m5 m6 m7 m8
    simp (disch := omega) only [wp_c, wp_n, jj_n, v_ct, Int.reduceToNat, Int.toNat_natCast, stE, wlE, lgt, lpu, lpw, v_c2, va_s, true_and, and_true, Option.toList, List.nil_append, List.cons_append, List.take, List.drop, List.reverse, List.reverseAux, List.length_cons, List.length_nil, reduceCtorEq, false_implies, true_implies, forall_const, not_true_eq_false, not_false_eq_true, ite_true, ite_false, Bool.false_eq_true, I_I, J_J, Nat.add_left_cancel_iff, Nat.reduceEqDiff, Nat.add_eq_left, Nat.left_eq_add, false_and, and_false, Nat.reduceSub, Nat.sub_self, Nat.le_refl, Nat.zero_le, ge_iff_le, Nat.reduceAdd, Nat.reduceLeDiff, Nat.zero_add, Nat.reduceLT, z_lt, z_le, z_eq, z_l0, z_g0, z_le0, z_ge0, z_e0, z_e1, z_vp, z_nc, z_rem, z_div, i_ltT, i_ltF, i_leT, i_leF, i_eqT, i_eqF, n_ltT, n_ltF, n_leT, n_leF, n_eqT, n_eqF, tn_9, tn_12, tn_14, tn_20, tn_28, tn_44, tn_52, tn_68, tn_84, tn_100, tn_116, tn_132, fu_e, up_eq, ob_0, ob_b, oi_add, oi_sub, oi_mul, oi_neg, Int.add_zero, Int.zero_add, or_true, true_or, or_false, false_or, and_self, z_i2l, z_l2i, lo_nat, lo_add, lo_sub, lo_mul, lo_0, e_rem, mr_X10_turn]
    refine And.intro ?_ ?_
    · cases (a_go (a_beg A way) 0 0 (Int32.ofInt 0) (Int32.ofInt 0)).2.1
      · exact Or.inr rfl
      · exact Or.inl rfl
    · refine hq w6 _ B6 m1 (f6.trans m2) m3 ⟨?_, ?_, ?_⟩ (fun i hi => ?_) (fun i hi => ?_) m5 m6 m7 (fun hL => m8 ⟨?_, fun j j1 j2 => ?_⟩)
      · rw [m4 7 (by omega), b7]
      · rw [m4 8 (by omega), b8]
      · rw [m4 1000 (by omega), ob _ (by omega)]
      · rw [m4 _ (by omega)]
        unfold o_beg
        rw [if_neg (by omega), if_neg (by omega), if_pos (by omega), show 28 + (1020 + i - 1020) = 28 + i by omega]
        exact hR.dig hi
      · rw [m4 _ (by omega)]
        unfold o_beg
        rw [if_neg (by omega), if_neg (by omega), if_neg (by omega), if_pos (by omega), show 12 + (1040 + i - 1040) = 12 + i by omega]
        exact hR.cts hi
      · rw [ob _ (by omega), ab _ (by omega)]; exact hL.1
      · rw [ob _ (by omega), ab _ (by omega)]; exact hL.2 j j1 j2
-- 49.own
/-! turns, one behind the other -/
def JX (A B : Row) : Prop := 0 < A 5 → B 6 = A 6 ∧ B 7 = A 7 ∧ B 8 = A 8 ∧ (∀ i, i < 16 → B (1020 + i) = (A (28 + i) - A 7 * A (84 + i)) % 10) ∧ ∀ i, i < 3 → B (1042 + i) = A (14 + i) - A (9 + i)
def TS (A B : Row) (N : Int) : Prop := GR A ∧ RX A B ∧ JX A B ∧ 0 ≤ A 14 ∧ A 14 ≤ N
theorem z_turn2 {b o : Nat} {P : Nat → Nat} {A B : Row} {way dv N : Int} {w : mW} {Q : mW → mO → Prop} (hO : OW w b o P B) (hT : TS A B N) (h8 : A 8 = dv) (hw : way = 1 ∨ way = -1) (hN : N ≤ 1000000000)
  (hq : ∀ w' P' B', OW w' b o P' B' → FO b w w' → TS (a_fin (a_one A way)) B' (N + 1) → B' 1042 = a_fin (a_one A way) 14 - a_fin (a_one A way) 9 → B' 1000 = B 1000 → a_fin (a_one A way) 8 = A 8 → a_fin (a_one A way) 4 = A 4 → Int32.ofInt (B' 1009) = (a_one A way).2.2 → (LX A B → LX (a_fin (a_one A way)) B') → Q w' (.inl (some (.int (Int32.ofInt (match (a_one A way).2.1 with | none => 1 | some _ => 0)))))) :
  CT n_X10_turn [.ref o, .int (Int32.ofInt way), .int (Int32.ofInt dv)] w Q := by
  obtain ⟨hG, ⟨hR, h5, hk, hdu, h11⟩, hJ, h14⟩ := hT
  have hRI := hG.1
  have h1G := one_GR (way := way) hG hw
  obtain ⟨-, j8, j4⟩ := one_TJ (way := way) hRI.1 hw hRI.2.2.1
  refine z_turn hO hRI.1 hRI.2.2.1 hR hk hdu h11 h8 (by rw [← h8]; exact hRI.2.1) hw ⟨h14.1, by omega⟩ ?_
  intro w' P' B' m1 m2 m3 m4 m5 m6 m7 m8 m9 m10
  have b9 : a_beg A way 9 = 0 := by rw [beg_at, if_neg (by omega), if_pos (by omega)]
  have b10 : a_beg A way 10 = 0 := by rw [beg_at, if_neg (by omega), if_pos (by omega)]
  have b11 : a_beg A way 11 = 0 := by rw [beg_at, if_neg (by omega), if_pos (by omega)]
  have bo : ∀ j, (12 ≤ j ∧ j < 52) → a_beg A way j = A j := fun j hj => by rw [beg_at, if_neg (by omega), if_neg (by omega)]
  have bz : ∀ j, (84 ≤ j ∧ j < 100) → a_beg A way j = 0 := fun j hj => by rw [beg_at, if_neg (by omega), if_pos (by omega)]
  have s0 := m9.2.1 0 (by omega)
  have s1 := m9.2.1 1 (by omega)
  have s2 := m9.2.1 2 (by omega)
  simp only [Nat.add_zero, Nat.reduceAdd] at s0 s1 s2
  rw [b9, bo 14 (by omega)] at s0
  rw [b10, bo 15 (by omega)] at s1
  rw [b11, bo 16 (by omega)] at s2
  have e7 : a_fin (a_one A way) 7 = way := by rw [m9.1, beg_7]
  have c2 := m6 2 (by omega)
  have c3 := m6 3 (by omega)
  have c4 := m6 4 (by omega)
  simp only [Nat.reduceAdd] at c2 c3 c4
  have h9 := h1G.2.2.1
  refine hq w' P' B' m1 m2 ⟨h1G, m3, fun q => ⟨m7 q, by rw [m4.1, e7], by rw [m4.2.1, j8, h8], fun i hi => ?_, fun i hi => ?_⟩, by omega, by omega⟩ (by omega) m4.2.2 j8 j4 m8 m10
  · have := m9.2.2 i hi
    rw [beg_7, bz (84 + i) (by omega), bo (28 + i) (by omega), Int.mul_zero, Int.sub_zero] at this
    rw [m5 i hi, e7, this]
    have hd := TJ_dig hRI.1 i hi
    omega
  · rcases (show i = 0 ∨ i = 1 ∨ i = 2 by omega) with rfl | rfl | rfl
    · show B' 1042 = a_fin (a_one A way) 14 - a_fin (a_one A way) 9; omega
    · show B' 1043 = a_fin (a_one A way) 15 - a_fin (a_one A way) 10; omega
    · show B' 1044 = a_fin (a_one A way) 16 - a_fin (a_one A way) 11; omega
theorem fin_5 {A : Row} {way : Int} (hG : GR A) (hw : way = 1 ∨ way = -1) : match (a_one A way).2.1 with | none => a_fin (a_one A way) 5 = 0 | some (p, _) => a_fin (a_one A way) 5 = (p : Int) + 1 := by
  have hJ := hG.1.1
  have hsz := TJ_sz hJ
  have hI := beg_TI (way := way) hJ.1 hw
  exact (fin_k (A := a_beg A way) (c := Int32.ofInt 0) (l := Int32.ofInt 0) (part := 0) (pl := 0) hI (Or.inl ⟨rfl, by rw [beg_k _ _ _ (by omega)]; omega⟩) (by rw [beg_k _ _ _ (by omega)]; exact hG.1.2.2.1) (fun j hj => by rw [beg_k _ _ _ (by omega)]; exact hJ.2 j hj)).2.2.2
theorem z_turns_2 {b o m : Nat} {t dv way : Int} {Q : mW → mO → Prop} (ht : -12 ≤ t ∧ t ≤ 12) (hm : m = t.natAbs) (hway : way = if t < 0 then -1 else 1) : ∀ (n i : Nat) (P : Nat → Nat) (A B : Row) (N : Int) (w : mW), i + n = m → TS A B N → A 8 = dv → N + n ≤ 1000000000 → OW w b o P B →
  (∀ w' P' B', OW w' b o P' B' → FO b w w' → TS (a_many n A way).1 B' (N + n) → B' 1000 = B 1000 → (a_many n A way).1 8 = A 8 → (a_many n A way).1 4 = A 4 → (LX A B → LX (a_many n A way).1 B') → Q w' (.inl (some (.int (Int32.ofInt ((i : Int) + (a_many n A way).2)))))) →
  RT n_X10_turns 2 [.ref o, .int (Int32.ofInt t), .int (Int32.ofInt dv), .int (Int32.ofInt i)] [] w (60 - 5 * i, 696 - 58 * i, false) Q := by
  have hw : way = 1 ∨ way = -1 := by rw [hway]; split <;> simp
  intro n
  induction n with
  | zero =>
    intro i P A B N w hi hT h8 hN hO hq
    refine rt_X10_turns_2 ?_
    simp (disch := omega) only [wp_c, wp_n, jj_n, v_ct, Int.reduceToNat, Int.toNat_natCast, stE, wlE, lgt, lpu, lpw, v_c2, va_s, true_and, and_true, Option.toList, List.nil_append, List.cons_append, List.take, List.drop, List.reverse, List.reverseAux, List.length_cons, List.length_nil, reduceCtorEq, false_implies, true_implies, forall_const, not_true_eq_false, not_false_eq_true, ite_true, ite_false, Bool.false_eq_true, I_I, J_J, Nat.add_left_cancel_iff, Nat.reduceEqDiff, Nat.add_eq_left, Nat.left_eq_add, false_and, and_false, Nat.reduceSub, Nat.sub_self, Nat.le_refl, Nat.zero_le, ge_iff_le, Nat.reduceAdd, Nat.reduceLeDiff, Nat.zero_add, Nat.reduceLT, z_lt, z_le, z_eq, z_l0, z_g0, z_le0, z_ge0, z_e0, z_e1, z_vp, z_nc, z_rem, z_div, i_ltT, i_ltF, i_leT, i_leF, i_eqT, i_eqF, n_ltT, n_ltF, n_leT, n_leF, n_eqT, n_eqF, tn_9, tn_12, tn_14, tn_20, tn_28, tn_44, tn_52, tn_68, tn_84, tn_100, tn_116, tn_132, fu_e, up_eq, ob_0, ob_b, oi_add, oi_sub, oi_mul, oi_neg, Int.add_zero, Int.zero_add, or_true, true_or, or_false, false_or, and_self, z_i2l, z_l2i, lo_nat, lo_add, lo_sub, lo_mul, lo_0, e_rem, mh_X10_turns]
    refine c_abs ⟨by omega, by omega⟩ ?_
    have ea : (if t < 0 then -t else t) = (i : Int) := by split <;> omega
    simp (disch := omega) only [wp_c, wp_n, jj_n, v_ct, Int.reduceToNat, Int.toNat_natCast, stE, wlE, lgt, lpu, lpw, v_c2, va_s, true_and, and_true, Option.toList, List.nil_append, List.cons_append, List.take, List.drop, List.reverse, List.reverseAux, List.length_cons, List.length_nil, reduceCtorEq, false_implies, true_implies, forall_const, not_true_eq_false, not_false_eq_true, ite_true, ite_false, Bool.false_eq_true, I_I, J_J, Nat.add_left_cancel_iff, Nat.reduceEqDiff, Nat.add_eq_left, Nat.left_eq_add, false_and, and_false, Nat.reduceSub, Nat.sub_self, Nat.le_refl, Nat.zero_le, ge_iff_le, Nat.reduceAdd, Nat.reduceLeDiff, Nat.zero_add, Nat.reduceLT, z_lt, z_le, z_eq, z_l0, z_g0, z_le0, z_ge0, z_e0, z_e1, z_vp, z_nc, z_rem, z_div, i_ltT, i_ltF, i_leT, i_leF, i_eqT, i_eqF, n_ltT, n_ltF, n_leT, n_leF, n_eqT, n_eqF, tn_9, tn_12, tn_14, tn_20, tn_28, tn_44, tn_52, tn_68, tn_84, tn_100, tn_116, tn_132, fu_e, up_eq, ob_0, ob_b, oi_add, oi_sub, oi_mul, oi_neg, Int.add_zero, Int.zero_add, or_true, true_or, or_false, false_or, and_self, z_i2l, z_l2i, lo_nat, lo_add, lo_sub, lo_mul, lo_0, e_rem, ea]
    refine rt_X10_turns_33 ?_
    simp (disch := omega) only [wp_c, wp_n, jj_n, v_ct, Int.reduceToNat, Int.toNat_natCast, stE, wlE, lgt, lpu, lpw, v_c2, va_s, true_and, and_true, Option.toList, List.nil_append, List.cons_append, List.take, List.drop, List.reverse, List.reverseAux, List.length_cons, List.length_nil, reduceCtorEq, false_implies, true_implies, forall_const, not_true_eq_false, not_false_eq_true, ite_true, ite_false, Bool.false_eq_true, I_I, J_J, Nat.add_left_cancel_iff, Nat.reduceEqDiff, Nat.add_eq_left, Nat.left_eq_add, false_and, and_false, Nat.reduceSub, Nat.sub_self, Nat.le_refl, Nat.zero_le, ge_iff_le, Nat.reduceAdd, Nat.reduceLeDiff, Nat.zero_add, Nat.reduceLT, z_lt, z_le, z_eq, z_l0, z_g0, z_le0, z_ge0, z_e0, z_e1, z_vp, z_nc, z_rem, z_div, i_ltT, i_ltF, i_leT, i_leF, i_eqT, i_eqF, n_ltT, n_ltF, n_leT, n_leF, n_eqT, n_eqF, tn_9, tn_12, tn_14, tn_20, tn_28, tn_44, tn_52, tn_68, tn_84, tn_100, tn_116, tn_132, fu_e, up_eq, ob_0, ob_b, oi_add, oi_sub, oi_mul, oi_neg, Int.add_zero, Int.zero_add, or_true, true_or, or_false, false_or, and_self, z_i2l, z_l2i, lo_nat, lo_add, lo_sub, lo_mul, lo_0, e_rem, mr_X10_turns]
    have := hq w P B hO (FO.refl _ _) (by show TS A B (N + ((0 : Nat) : Int)); rw [show N + ((0 : Nat) : Int) = N by omega]; exact hT) rfl rfl rfl (fun h => h)
    simpa [a_many] using this
  | succ n ih =>
    intro i P A B N w hi hT h8 hN hO hq
    have hF := hO.F
    refine rt_X10_turns_2 ?_
    simp (disch := omega) only [wp_c, wp_n, jj_n, v_ct, Int.reduceToNat, Int.toNat_natCast, stE, wlE, lgt, lpu, lpw, v_c2, va_s, true_and, and_true, Option.toList, List.nil_append, List.cons_append, List.take, List.drop, List.reverse, List.reverseAux, List.length_cons, List.length_nil, reduceCtorEq, false_implies, true_implies, forall_const, not_true_eq_false, not_false_eq_true, ite_true, ite_false, Bool.false_eq_true, I_I, J_J, Nat.add_left_cancel_iff, Nat.reduceEqDiff, Nat.add_eq_left, Nat.left_eq_add, false_and, and_false, Nat.reduceSub, Nat.sub_self, Nat.le_refl, Nat.zero_le, ge_iff_le, Nat.reduceAdd, Nat.reduceLeDiff, Nat.zero_add, Nat.reduceLT, z_lt, z_le, z_eq, z_l0, z_g0, z_le0, z_ge0, z_e0, z_e1, z_vp, z_nc, z_rem, z_div, i_ltT, i_ltF, i_leT, i_leF, i_eqT, i_eqF, n_ltT, n_ltF, n_leT, n_leF, n_eqT, n_eqF, tn_9, tn_12, tn_14, tn_20, tn_28, tn_44, tn_52, tn_68, tn_84, tn_100, tn_116, tn_132, fu_e, up_eq, ob_0, ob_b, oi_add, oi_sub, oi_mul, oi_neg, Int.add_zero, Int.zero_add, or_true, true_or, or_false, false_or, and_self, z_i2l, z_l2i, lo_nat, lo_add, lo_sub, lo_mul, lo_0, e_rem, mh_X10_turns]
    refine c_abs ⟨by omega, by omega⟩ ?_
    have ea : (if t < 0 then -t else t) = ((i + n + 1 : Nat) : Int) := by split <;> omega
    have h20 : RT n_X10_turns 20 [.ref o, .int (Int32.ofInt t), .int (Int32.ofInt dv), .int (Int32.ofInt i)] [.int (Int32.ofInt way), .ref o] w (60 - 5 * i, 696 - 58 * i, false) Q := by
      refine rt_X10_turns_20 ?_
      simp (disch := omega) only [wp_c, wp_n, jj_n, v_ct, Int.reduceToNat, Int.toNat_natCast, stE, wlE, lgt, lpu, lpw, v_c2, va_s, true_and, and_true, Option.toList, List.nil_append, List.cons_append, List.take, List.drop, List.reverse, List.reverseAux, List.length_cons, List.length_nil, reduceCtorEq, false_implies, true_implies, forall_const, not_true_eq_false, not_false_eq_true, ite_true, ite_false, Bool.false_eq_true, I_I, J_J, Nat.add_left_cancel_iff, Nat.reduceEqDiff, Nat.add_eq_left, Nat.left_eq_add, false_and, and_false, Nat.reduceSub, Nat.sub_self, Nat.le_refl, Nat.zero_le, ge_iff_le, Nat.reduceAdd, Nat.reduceLeDiff, Nat.zero_add, Nat.reduceLT, z_lt, z_le, z_eq, z_l0, z_g0, z_le0, z_ge0, z_e0, z_e1, z_vp, z_nc, z_rem, z_div, i_ltT, i_ltF, i_leT, i_leF, i_eqT, i_eqF, n_ltT, n_ltF, n_leT, n_leF, n_eqT, n_eqF, tn_9, tn_12, tn_14, tn_20, tn_28, tn_44, tn_52, tn_68, tn_84, tn_100, tn_116, tn_132, fu_e, up_eq, ob_0, ob_b, oi_add, oi_sub, oi_mul, oi_neg, Int.add_zero, Int.zero_add, or_true, true_or, or_false, false_or, and_self, z_i2l, z_l2i, lo_nat, lo_add, lo_sub, lo_mul, lo_0, e_rem, hF.1, mh_X10_turns]
      try refine ⟨by omega, by omega, ?_⟩
      refine z_turn2 hO hT h8 hw (by omega) ?_
      intro w1 P1 B1 m1 m2 m3 m4 m5 m6 m7 m8 m9
      rw [a_many] at hq
      have g1 : 60 - 5 * i - 5 = 60 - 5 * (i + 1) := by omega
      have g2 : 696 - 58 * i - 58 = 696 - 58 * (i + 1) := by omega
      cases ho : (a_one A way).2.1 with
      | none =>
        rw [ho] at hq
        simp only at hq
        simp (disch := omega) only [wp_c, wp_n, jj_n, v_ct, Int.reduceToNat, Int.toNat_natCast, stE, wlE, lgt, lpu, lpw, v_c2, va_s, true_and, and_true, Option.toList, List.nil_append, List.cons_append, List.take, List.drop, List.reverse, List.reverseAux, List.length_cons, List.length_nil, reduceCtorEq, false_implies, true_implies, forall_const, not_true_eq_false, not_false_eq_true, ite_true, ite_false, Bool.false_eq_true, I_I, J_J, Nat.add_left_cancel_iff, Nat.reduceEqDiff, Nat.add_eq_left, Nat.left_eq_add, false_and, and_false, Nat.reduceSub, Nat.sub_self, Nat.le_refl, Nat.zero_le, ge_iff_le, Nat.reduceAdd, Nat.reduceLeDiff, Nat.zero_add, Nat.reduceLT, z_lt, z_le, z_eq, z_l0, z_g0, z_le0, z_ge0, z_e0, z_e1, z_vp, z_nc, z_rem, z_div, i_ltT, i_ltF, i_leT, i_leF, i_eqT, i_eqF, n_ltT, n_ltF, n_leT, n_leF, n_eqT, n_eqF, tn_9, tn_12, tn_14, tn_20, tn_28, tn_44, tn_52, tn_68, tn_84, tn_100, tn_116, tn_132, fu_e, up_eq, ob_0, ob_b, oi_add, oi_sub, oi_mul, oi_neg, Int.add_zero, Int.zero_add, or_true, true_or, or_false, false_or, and_self, z_i2l, z_l2i, lo_nat, lo_add, lo_sub, lo_mul, lo_0, e_rem, g1, g2]
        have := ih (i + 1) P1 (a_fin (a_one A way)) B1 (N + 1) w1 (by omega) m3 (m6.trans h8) (by omega) m1 ?_
        · simpa using this
        · intro w2 P2 B2 k1 k2 k3 k4 k5 k6 k7
          have e : (((i + 1 : Nat) : Int) + ((a_many n (a_fin (a_one A way)) way).2 : Nat)) = ((i : Int) + (((a_many n (a_fin (a_one A way)) way).2 + 1 : Nat) : Int)) := by omega
          rw [e]
          exact hq w2 P2 B2 k1 (m2.trans k2) (by rw [show N + ((n + 1 : Nat) : Int) = N + 1 + n by omega]; exact k3) (k4.trans m5) (k5.trans m6) (k6.trans m7) (fun h => k7 (m9 h))
      | some y =>
        rw [ho] at hq
        simp only at hq
        simp (disch := omega) only [wp_c, wp_n, jj_n, v_ct, Int.reduceToNat, Int.toNat_natCast, stE, wlE, lgt, lpu, lpw, v_c2, va_s, true_and, and_true, Option.toList, List.nil_append, List.cons_append, List.take, List.drop, List.reverse, List.reverseAux, List.length_cons, List.length_nil, reduceCtorEq, false_implies, true_implies, forall_const, not_true_eq_false, not_false_eq_true, ite_true, ite_false, Bool.false_eq_true, I_I, J_J, Nat.add_left_cancel_iff, Nat.reduceEqDiff, Nat.add_eq_left, Nat.left_eq_add, false_and, and_false, Nat.reduceSub, Nat.sub_self, Nat.le_refl, Nat.zero_le, ge_iff_le, Nat.reduceAdd, Nat.reduceLeDiff, Nat.zero_add, Nat.reduceLT, z_lt, z_le, z_eq, z_l0, z_g0, z_le0, z_ge0, z_e0, z_e1, z_vp, z_nc, z_rem, z_div, i_ltT, i_ltF, i_leT, i_leF, i_eqT, i_eqF, n_ltT, n_ltF, n_leT, n_leF, n_eqT, n_eqF, tn_9, tn_12, tn_14, tn_20, tn_28, tn_44, tn_52, tn_68, tn_84, tn_100, tn_116, tn_132, fu_e, up_eq, ob_0, ob_b, oi_add, oi_sub, oi_mul, oi_neg, Int.add_zero, Int.zero_add, or_true, true_or, or_false, false_or, and_self, z_i2l, z_l2i, lo_nat, lo_add, lo_sub, lo_mul, lo_0, e_rem]
        refine rt_X10_turns_33 ?_
        simp (disch := omega) only [wp_c, wp_n, jj_n, v_ct, Int.reduceToNat, Int.toNat_natCast, stE, wlE, lgt, lpu, lpw, v_c2, va_s, true_and, and_true, Option.toList, List.nil_append, List.cons_append, List.take, List.drop, List.reverse, List.reverseAux, List.length_cons, List.length_nil, reduceCtorEq, false_implies, true_implies, forall_const, not_true_eq_false, not_false_eq_true, ite_true, ite_false, Bool.false_eq_true, I_I, J_J, Nat.add_left_cancel_iff, Nat.reduceEqDiff, Nat.add_eq_left, Nat.left_eq_add, false_and, and_false, Nat.reduceSub, Nat.sub_self, Nat.le_refl, Nat.zero_le, ge_iff_le, Nat.reduceAdd, Nat.reduceLeDiff, Nat.zero_add, Nat.reduceLT, z_lt, z_le, z_eq, z_l0, z_g0, z_le0, z_ge0, z_e0, z_e1, z_vp, z_nc, z_rem, z_div, i_ltT, i_ltF, i_leT, i_leF, i_eqT, i_eqF, n_ltT, n_ltF, n_leT, n_leF, n_eqT, n_eqF, tn_9, tn_12, tn_14, tn_20, tn_28, tn_44, tn_52, tn_68, tn_84, tn_100, tn_116, tn_132, fu_e, up_eq, ob_0, ob_b, oi_add, oi_sub, oi_mul, oi_neg, Int.add_zero, Int.zero_add, or_true, true_or, or_false, false_or, and_self, z_i2l, z_l2i, lo_nat, lo_add, lo_sub, lo_mul, lo_0, e_rem, mr_X10_turns]
        have := hq w1 P1 B1 m1 m2 ⟨m3.1, m3.2.1, m3.2.2.1, m3.2.2.2.1, by have := m3.2.2.2.2; omega⟩ m5 m6 m7 m9
        simpa using this
    simp (disch := omega) only [wp_c, wp_n, jj_n, v_ct, Int.reduceToNat, Int.toNat_natCast, stE, wlE, lgt, lpu, lpw, v_c2, va_s, true_and, and_true, Option.toList, List.nil_append, List.cons_append, List.take, List.drop, List.reverse, List.reverseAux, List.length_cons, List.length_nil, reduceCtorEq, false_implies, true_implies, forall_const, not_true_eq_false, not_false_eq_true, ite_true, ite_false, Bool.false_eq_true, I_I, J_J, Nat.add_left_cancel_iff, Nat.reduceEqDiff, Nat.add_eq_left, Nat.left_eq_add, false_and, and_false, Nat.reduceSub, Nat.sub_self, Nat.le_refl, Nat.zero_le, ge_iff_le, Nat.reduceAdd, Nat.reduceLeDiff, Nat.zero_add, Nat.reduceLT, z_lt, z_le, z_eq, z_l0, z_g0, z_le0, z_ge0, z_e0, z_e1, z_vp, z_nc, z_rem, z_div, i_ltT, i_ltF, i_leT, i_leF, i_eqT, i_eqF, n_ltT, n_ltF, n_leT, n_leF, n_eqT, n_eqF, tn_9, tn_12, tn_14, tn_20, tn_28, tn_44, tn_52, tn_68, tn_84, tn_100, tn_116, tn_132, fu_e, up_eq, ob_0, ob_b, oi_add, oi_sub, oi_mul, oi_neg, Int.add_zero, Int.zero_add, or_true, true_or, or_false, false_or, and_self, z_i2l, z_l2i, lo_nat, lo_add, lo_sub, lo_mul, lo_0, e_rem, ea]
    by_cases hs : t < 0
    · simp (disch := omega) only [wp_c, wp_n, jj_n, v_ct, Int.reduceToNat, Int.toNat_natCast, stE, wlE, lgt, lpu, lpw, v_c2, va_s, true_and, and_true, Option.toList, List.nil_append, List.cons_append, List.take, List.drop, List.reverse, List.reverseAux, List.length_cons, List.length_nil, reduceCtorEq, false_implies, true_implies, forall_const, not_true_eq_false, not_false_eq_true, ite_true, ite_false, Bool.false_eq_true, I_I, J_J, Nat.add_left_cancel_iff, Nat.reduceEqDiff, Nat.add_eq_left, Nat.left_eq_add, false_and, and_false, Nat.reduceSub, Nat.sub_self, Nat.le_refl, Nat.zero_le, ge_iff_le, Nat.reduceAdd, Nat.reduceLeDiff, Nat.zero_add, Nat.reduceLT, z_lt, z_le, z_eq, z_l0, z_g0, z_le0, z_ge0, z_e0, z_e1, z_vp, z_nc, z_rem, z_div, i_ltT, i_ltF, i_leT, i_leF, i_eqT, i_eqF, n_ltT, n_ltF, n_leT, n_leF, n_eqT, n_eqF, tn_9, tn_12, tn_14, tn_20, tn_28, tn_44, tn_52, tn_68, tn_84, tn_100, tn_116, tn_132, fu_e, up_eq, ob_0, ob_b, oi_add, oi_sub, oi_mul, oi_neg, Int.add_zero, Int.zero_add, or_true, true_or, or_false, false_or, and_self, z_i2l, z_l2i, lo_nat, lo_add, lo_sub, lo_mul, lo_0, e_rem]
      rw [hway, if_pos hs] at h20
      exact h20
    · simp (disch := omega) only [wp_c, wp_n, jj_n, v_ct, Int.reduceToNat, Int.toNat_natCast, stE, wlE, lgt, lpu, lpw, v_c2, va_s, true_and, and_true, Option.toList, List.nil_append, List.cons_append, List.take, List.drop, List.reverse, List.reverseAux, List.length_cons, List.length_nil, reduceCtorEq, false_implies, true_implies, forall_const, not_true_eq_false, not_false_eq_true, ite_true, ite_false, Bool.false_eq_true, I_I, J_J, Nat.add_left_cancel_iff, Nat.reduceEqDiff, Nat.add_eq_left, Nat.left_eq_add, false_and, and_false, Nat.reduceSub, Nat.sub_self, Nat.le_refl, Nat.zero_le, ge_iff_le, Nat.reduceAdd, Nat.reduceLeDiff, Nat.zero_add, Nat.reduceLT, z_lt, z_le, z_eq, z_l0, z_g0, z_le0, z_ge0, z_e0, z_e1, z_vp, z_nc, z_rem, z_div, i_ltT, i_ltF, i_leT, i_leF, i_eqT, i_eqF, n_ltT, n_ltF, n_leT, n_leF, n_eqT, n_eqF, tn_9, tn_12, tn_14, tn_20, tn_28, tn_44, tn_52, tn_68, tn_84, tn_100, tn_116, tn_132, fu_e, up_eq, ob_0, ob_b, oi_add, oi_sub, oi_mul, oi_neg, Int.add_zero, Int.zero_add, or_true, true_or, or_false, false_or, and_self, z_i2l, z_l2i, lo_nat, lo_add, lo_sub, lo_mul, lo_0, e_rem]
      refine rt_X10_turns_19 ?_
      simp (disch := omega) only [wp_c, wp_n, jj_n, v_ct, Int.reduceToNat, Int.toNat_natCast, stE, wlE, lgt, lpu, lpw, v_c2, va_s, true_and, and_true, Option.toList, List.nil_append, List.cons_append, List.take, List.drop, List.reverse, List.reverseAux, List.length_cons, List.length_nil, reduceCtorEq, false_implies, true_implies, forall_const, not_true_eq_false, not_false_eq_true, ite_true, ite_false, Bool.false_eq_true, I_I, J_J, Nat.add_left_cancel_iff, Nat.reduceEqDiff, Nat.add_eq_left, Nat.left_eq_add, false_and, and_false, Nat.reduceSub, Nat.sub_self, Nat.le_refl, Nat.zero_le, ge_iff_le, Nat.reduceAdd, Nat.reduceLeDiff, Nat.zero_add, Nat.reduceLT, z_lt, z_le, z_eq, z_l0, z_g0, z_le0, z_ge0, z_e0, z_e1, z_vp, z_nc, z_rem, z_div, i_ltT, i_ltF, i_leT, i_leF, i_eqT, i_eqF, n_ltT, n_ltF, n_leT, n_leF, n_eqT, n_eqF, tn_9, tn_12, tn_14, tn_20, tn_28, tn_44, tn_52, tn_68, tn_84, tn_100, tn_116, tn_132, fu_e, up_eq, ob_0, ob_b, oi_add, oi_sub, oi_mul, oi_neg, Int.add_zero, Int.zero_add, or_true, true_or, or_false, false_or, and_self, z_i2l, z_l2i, lo_nat, lo_add, lo_sub, lo_mul, lo_0, e_rem]
      rw [hway, if_neg hs] at h20
      exact h20
theorem z_turns {b o : Nat} {P : Nat → Nat} {A B : Row} {t dv N : Int} {w : mW} {Q : mW → mO → Prop} (hO : OW w b o P B) (hT : TS A B N) (h8 : A 8 = dv) (ht : -12 ≤ t ∧ t ≤ 12) (hN : N ≤ 900000000)
  (hq : ∀ w' P' B', OW w' b o P' B' → FO b w w' → TS (a_many t.natAbs A (if t < 0 then -1 else 1)).1 B' (N + 12) → B' 1000 = B 1000 → (a_many t.natAbs A (if t < 0 then -1 else 1)).1 8 = A 8 → (a_many t.natAbs A (if t < 0 then -1 else 1)).1 4 = A 4 → (LX A B → LX (a_many t.natAbs A (if t < 0 then -1 else 1)).1 B') → Q w' (.inl (some (.int (Int32.ofInt ((a_many t.natAbs A (if t < 0 then -1 else 1)).2 : Nat)))))) :
  CT n_X10_turns [.ref o, .int (Int32.ofInt t), .int (Int32.ofInt dv)] w Q := by
  refine ct_X10_turns (rt_X10_turns_0 ?_)
  simp only [wp_c, wp_n, jj_n, v_ct, Int.reduceToNat, Int.toNat_natCast, stE, wlE, lgt, lpu, lpw, v_c2, va_s, true_and, and_true, Option.toList, List.nil_append, List.cons_append, List.take, List.drop, List.reverse, List.reverseAux, List.length_cons, List.length_nil, reduceCtorEq, false_implies, true_implies, forall_const, not_true_eq_false, not_false_eq_true, ite_true, ite_false, Bool.false_eq_true, I_I, J_J, Nat.add_left_cancel_iff, Nat.reduceEqDiff, Nat.add_eq_left, Nat.left_eq_add, false_and, and_false, Nat.reduceSub, Nat.sub_self, Nat.le_refl, Nat.zero_le, ge_iff_le, Nat.reduceAdd, Nat.reduceLeDiff, Nat.zero_add, Nat.reduceLT]
  have := z_turns_2 (b := b) (o := o) (dv := dv) (Q := Q) ht rfl rfl t.natAbs 0 P A B N w (by omega) hT h8 (by omega) hO ?_
  · exact this
  · intro w' P' B' k1 k2 k3 k4 k5 k6 k7
    have := hq w' P' B' k1 k2 ⟨k3.1, k3.2.1, k3.2.2.1, k3.2.2.2.1, by have := k3.2.2.2.2; omega⟩ k4 k5 k6 k7
    simpa using this
-- 50.own
/-! plans -/
def nx (s v : Int) : Int := v / 10 + (if ¬ s = 0 ∧ 5 < v % 10 then 1 else 0)
def dg1 (s v : Int) : Int := v % 10 - (if ¬ s = 0 ∧ 5 < v % 10 then 10 else 0)
def pv (s v : Int) : Nat → Int
  | 0 => v
  | n + 1 => pv s (nx s v) n
theorem pv_s (s : Int) : ∀ (n : Nat) (v : Int), pv s v (n + 1) = nx s (pv s v n) := by
  intro n
  induction n with
  | zero => intro v; rfl
  | succ n ih => intro v; rw [pv, ih]; rfl
theorem nx_b {s v : Int} (h : 0 ≤ v ∧ v ≤ 1000000) : 0 ≤ nx s v ∧ nx s v ≤ 1000000 := by
  unfold nx; split <;> omega
theorem pv_b {s : Int} : ∀ (n : Nat) (v : Int), 0 ≤ v ∧ v ≤ 1000000 → 0 ≤ pv s v n ∧ pv s v n ≤ 1000000 := by
  intro n
  induction n with
  | zero => intro v h; exact h
  | succ n ih => intro v h; exact ih _ (nx_b h)
theorem pv_0 {s : Int} : ∀ n : Nat, pv s 0 n = 0 := by
  intro n
  induction n with
  | zero => rfl
  | succ n ih =>
    have e : nx s 0 = 0 := by unfold nx; rw [if_neg (by omega)]; rfl
    rw [pv, e]; exact ih
theorem dg1_b {s v : Int} : -4 ≤ dg1 s v ∧ dg1 s v ≤ 9 := by
  unfold dg1; split <;> omega
theorem pl_nx {r c s : Int} (hr : 0 ≤ r) (hc : c = 0 ∨ (c = 1 ∧ ¬ s = 0)) : r / 10 + (if ¬ s = 0 ∧ 6 ≤ r % 10 + c then 1 else 0) = nx s (r + c) ∧ r % 10 + c - 10 * (if ¬ s = 0 ∧ 6 ≤ r % 10 + c then 1 else 0) = dg1 s (r + c) := by
  unfold nx dg1
  by_cases hs : s = 0
  · have c0 : c = 0 := by
      rcases hc with q | q
      · exact q
      · exact absurd hs q.2
    simp only [hs, not_true_eq_false, false_and, ite_false]
    omega
  · simp only [hs, not_false_eq_true, true_and]
    rcases hc with q | q
    · subst q
      constructor <;> split <;> split <;> omega
    · have := q.1; subst this
      constructor <;> split <;> split <;> omega
theorem pl_get (s : Int) : ∀ (f j : Nat) (r c : Int), j < f → 0 ≤ r → (c = 0 ∨ (c = 1 ∧ ¬ s = 0)) → (a_pl f r c s).getD j 0 = dg1 s (pv s (r + c) j) := by
  intro f
  induction f with
  | zero => intro j r c h; omega
  | succ f ih =>
    intro j r c hj hr hc
    obtain ⟨e1, e2⟩ := pl_nx (s := s) hr hc
    rw [a_pl]
    by_cases h0 : r + c ≤ 0
    · rw [if_pos h0]
      have hz : r + c = 0 := by rcases hc with q | q <;> omega
      rw [hz, pv_0]
      have : dg1 s 0 = 0 := by unfold dg1; rw [if_neg (by omega)]; rfl
      rw [this]; rfl
    · rw [if_neg h0, e2]
      cases j with
      | zero => rfl
      | succ j =>
        rw [List.getD_cons_succ, ih j (r / 10) _ (by omega) (by omega) (by split; right; rename_i q; exact ⟨rfl, q.1⟩; left; rfl), e1]
        rfl
/-- the steps of a number to 0 -/
theorem z_nd_5 {o : Nat} {x s : Int} {w : mW} {Q : mW → mO → Prop} (hs : s = 0 ∨ s = 1) : ∀ (f : Nat) (r c : Int) (k : Nat), k + f ≤ 100 → 0 ≤ r → (c = 0 ∨ (c = 1 ∧ ¬ s = 0)) → (f = 0 → r + c = 0) → r + c ≤ 10 ^ (f - 1) → f ≤ 8 → Q w (.inl (some (.int (Int32.ofInt ((k + (a_pl f r c s).length : Nat) : Int))))) →
    RT n_X10_needed 5 [.ref o, .int (Int32.ofInt x), .int (Int32.ofInt s), .int (Int32.ofInt k), .int (Int32.ofInt (r + c))] [] w (0, 0, false) Q := by
  intro f
  induction f with
  | zero =>
    intro r c k hk hr hc hf hb hf8 hq
    have hz := hf rfl
    refine rt_X10_needed_5 ?_
    simp (disch := omega) only [wp_c, wp_n, jj_n, v_ct, Int.reduceToNat, Int.toNat_natCast, stE, wlE, lgt, lpu, lpw, v_c2, va_s, true_and, and_true, Option.toList, List.nil_append, List.cons_append, List.take, List.drop, List.reverse, List.reverseAux, List.length_cons, List.length_nil, reduceCtorEq, false_implies, true_implies, forall_const, not_true_eq_false, not_false_eq_true, ite_true, ite_false, Bool.false_eq_true, I_I, J_J, Nat.add_left_cancel_iff, Nat.reduceEqDiff, Nat.add_eq_left, Nat.left_eq_add, false_and, and_false, Nat.reduceSub, Nat.sub_self, Nat.le_refl, Nat.zero_le, ge_iff_le, Nat.reduceAdd, Nat.reduceLeDiff, Nat.zero_add, Nat.reduceLT, z_lt, z_le, z_eq, z_l0, z_g0, z_le0, z_ge0, z_e0, z_e1, z_vp, z_nc, z_rem, z_div, i_ltT, i_ltF, i_leT, i_leF, i_eqT, i_eqF, n_ltT, n_ltF, n_leT, n_leF, n_eqT, n_eqF, tn_9, tn_12, tn_14, tn_20, tn_28, tn_44, tn_52, tn_68, tn_84, tn_100, tn_116, tn_132, fu_e, up_eq, ob_0, ob_b, oi_add, oi_sub, oi_mul, oi_neg, Int.add_zero, Int.zero_add, or_true, true_or, or_false, false_or, and_self, z_i2l, z_l2i, lo_nat, lo_add, lo_sub, lo_mul, lo_0, e_rem, hz]
    refine rt_X10_needed_42 ?_
    simp (disch := omega) only [wp_c, wp_n, jj_n, v_ct, Int.reduceToNat, Int.toNat_natCast, stE, wlE, lgt, lpu, lpw, v_c2, va_s, true_and, and_true, Option.toList, List.nil_append, List.cons_append, List.take, List.drop, List.reverse, List.reverseAux, List.length_cons, List.length_nil, reduceCtorEq, false_implies, true_implies, forall_const, not_true_eq_false, not_false_eq_true, ite_true, ite_false, Bool.false_eq_true, I_I, J_J, Nat.add_left_cancel_iff, Nat.reduceEqDiff, Nat.add_eq_left, Nat.left_eq_add, false_and, and_false, Nat.reduceSub, Nat.sub_self, Nat.le_refl, Nat.zero_le, ge_iff_le, Nat.reduceAdd, Nat.reduceLeDiff, Nat.zero_add, Nat.reduceLT, z_lt, z_le, z_eq, z_l0, z_g0, z_le0, z_ge0, z_e0, z_e1, z_vp, z_nc, z_rem, z_div, i_ltT, i_ltF, i_leT, i_leF, i_eqT, i_eqF, n_ltT, n_ltF, n_leT, n_leF, n_eqT, n_eqF, tn_9, tn_12, tn_14, tn_20, tn_28, tn_44, tn_52, tn_68, tn_84, tn_100, tn_116, tn_132, fu_e, up_eq, ob_0, ob_b, oi_add, oi_sub, oi_mul, oi_neg, Int.add_zero, Int.zero_add, or_true, true_or, or_false, false_or, and_self, z_i2l, z_l2i, lo_nat, lo_add, lo_sub, lo_mul, lo_0, e_rem, mr_X10_needed]
    exact hq
  | succ f ih =>
    intro r c k hk hr hc hf hb hf8 hq
    have hp := p8 f (by omega)
    rw [show f + 1 - 1 = f by omega] at hb
    obtain ⟨e1, e2⟩ := pl_nx (s := s) hr hc
    have hc01 : 0 ≤ c ∧ c ≤ 1 := by rcases hc with q | q <;> omega
    by_cases h0 : r + c ≤ 0
    · have hz : r + c = 0 := by omega
      refine rt_X10_needed_5 ?_
      simp (disch := omega) only [wp_c, wp_n, jj_n, v_ct, Int.reduceToNat, Int.toNat_natCast, stE, wlE, lgt, lpu, lpw, v_c2, va_s, true_and, and_true, Option.toList, List.nil_append, List.cons_append, List.take, List.drop, List.reverse, List.reverseAux, List.length_cons, List.length_nil, reduceCtorEq, false_implies, true_implies, forall_const, not_true_eq_false, not_false_eq_true, ite_true, ite_false, Bool.false_eq_true, I_I, J_J, Nat.add_left_cancel_iff, Nat.reduceEqDiff, Nat.add_eq_left, Nat.left_eq_add, false_and, and_false, Nat.reduceSub, Nat.sub_self, Nat.le_refl, Nat.zero_le, ge_iff_le, Nat.reduceAdd, Nat.reduceLeDiff, Nat.zero_add, Nat.reduceLT, z_lt, z_le, z_eq, z_l0, z_g0, z_le0, z_ge0, z_e0, z_e1, z_vp, z_nc, z_rem, z_div, i_ltT, i_ltF, i_leT, i_leF, i_eqT, i_eqF, n_ltT, n_ltF, n_leT, n_leF, n_eqT, n_eqF, tn_9, tn_12, tn_14, tn_20, tn_28, tn_44, tn_52, tn_68, tn_84, tn_100, tn_116, tn_132, fu_e, up_eq, ob_0, ob_b, oi_add, oi_sub, oi_mul, oi_neg, Int.add_zero, Int.zero_add, or_true, true_or, or_false, false_or, and_self, z_i2l, z_l2i, lo_nat, lo_add, lo_sub, lo_mul, lo_0, e_rem, hz]
      refine rt_X10_needed_42 ?_
      simp (disch := omega) only [wp_c, wp_n, jj_n, v_ct, Int.reduceToNat, Int.toNat_natCast, stE, wlE, lgt, lpu, lpw, v_c2, va_s, true_and, and_true, Option.toList, List.nil_append, List.cons_append, List.take, List.drop, List.reverse, List.reverseAux, List.length_cons, List.length_nil, reduceCtorEq, false_implies, true_implies, forall_const, not_true_eq_false, not_false_eq_true, ite_true, ite_false, Bool.false_eq_true, I_I, J_J, Nat.add_left_cancel_iff, Nat.reduceEqDiff, Nat.add_eq_left, Nat.left_eq_add, false_and, and_false, Nat.reduceSub, Nat.sub_self, Nat.le_refl, Nat.zero_le, ge_iff_le, Nat.reduceAdd, Nat.reduceLeDiff, Nat.zero_add, Nat.reduceLT, z_lt, z_le, z_eq, z_l0, z_g0, z_le0, z_ge0, z_e0, z_e1, z_vp, z_nc, z_rem, z_div, i_ltT, i_ltF, i_leT, i_leF, i_eqT, i_eqF, n_ltT, n_ltF, n_leT, n_leF, n_eqT, n_eqF, tn_9, tn_12, tn_14, tn_20, tn_28, tn_44, tn_52, tn_68, tn_84, tn_100, tn_116, tn_132, fu_e, up_eq, ob_0, ob_b, oi_add, oi_sub, oi_mul, oi_neg, Int.add_zero, Int.zero_add, or_true, true_or, or_false, false_or, and_self, z_i2l, z_l2i, lo_nat, lo_add, lo_sub, lo_mul, lo_0, e_rem, mr_X10_needed]
      rw [a_pl, if_pos h0] at hq
      exact hq
    · rw [a_pl, if_neg h0, List.length_cons] at hq
      have h33 : RT n_X10_needed 33 [.ref o, .int (Int32.ofInt x), .int (Int32.ofInt s), .int (Int32.ofInt k), .int (Int32.ofInt (r + c))] [.int (Int32.ofInt (if ¬ s = 0 ∧ 5 < (r + c) % 10 then 1 else 0)), .int (Int32.ofInt ((r + c) / 10))] w (0, 0, false) Q := by
        refine rt_X10_needed_33 ?_
        simp (disch := omega) only [wp_c, wp_n, jj_n, v_ct, Int.reduceToNat, Int.toNat_natCast, stE, wlE, lgt, lpu, lpw, v_c2, va_s, true_and, and_true, Option.toList, List.nil_append, List.cons_append, List.take, List.drop, List.reverse, List.reverseAux, List.length_cons, List.length_nil, reduceCtorEq, false_implies, true_implies, forall_const, not_true_eq_false, not_false_eq_true, ite_true, ite_false, Bool.false_eq_true, I_I, J_J, Nat.add_left_cancel_iff, Nat.reduceEqDiff, Nat.add_eq_left, Nat.left_eq_add, false_and, and_false, Nat.reduceSub, Nat.sub_self, Nat.le_refl, Nat.zero_le, ge_iff_le, Nat.reduceAdd, Nat.reduceLeDiff, Nat.zero_add, Nat.reduceLT, z_lt, z_le, z_eq, z_l0, z_g0, z_le0, z_ge0, z_e0, z_e1, z_vp, z_nc, z_rem, z_div, i_ltT, i_ltF, i_leT, i_leF, i_eqT, i_eqF, n_ltT, n_ltF, n_leT, n_leF, n_eqT, n_eqF, tn_9, tn_12, tn_14, tn_20, tn_28, tn_44, tn_52, tn_68, tn_84, tn_100, tn_116, tn_132, fu_e, up_eq, ob_0, ob_b, oi_add, oi_sub, oi_mul, oi_neg, Int.add_zero, Int.zero_add, or_true, true_or, or_false, false_or, and_self, z_i2l, z_l2i, lo_nat, lo_add, lo_sub, lo_mul, lo_0, e_rem]
        have h1 := ih (r / 10) (if ¬ s = 0 ∧ 6 ≤ r % 10 + c then 1 else 0) (k + 1) (by omega) (by omega) (by split; right; rename_i q; exact ⟨rfl, q.1⟩; left; rfl) ?_ ?_ (by omega) ?_
        · rw [e1] at h1
          exact h1
        · intro f0
          subst f0
          rw [e1]
          have : r + c ≤ 1 := hb
          unfold nx
          rw [if_neg (by omega)]
          omega
        · rw [e1]
          unfold nx
          cases f with
          | zero =>
            have : r + c ≤ 1 := hb
            rw [if_neg (by omega)]
            show _ ≤ (1 : Int)
            omega
          | succ g =>
            rw [show g + 1 - 1 = g by omega]
            rw [Int.pow_succ] at hb
            split <;> omega
        · rw [show k + 1 + (a_pl f (r / 10) (if ¬ s = 0 ∧ 6 ≤ r % 10 + c then 1 else 0) s).length = k + ((a_pl f (r / 10) (if ¬ s = 0 ∧ 6 ≤ r % 10 + c then 1 else 0) s).length + 1) by omega]
          exact hq
      have hv8 : r + c ≤ 100000000 := by omega
      refine rt_X10_needed_5 ?_
      rcases hs with rfl | rfl
      · simp (disch := omega) only [wp_c, wp_n, jj_n, v_ct, Int.reduceToNat, Int.toNat_natCast, stE, wlE, lgt, lpu, lpw, v_c2, va_s, true_and, and_true, Option.toList, List.nil_append, List.cons_append, List.take, List.drop, List.reverse, List.reverseAux, List.length_cons, List.length_nil, reduceCtorEq, false_implies, true_implies, forall_const, not_true_eq_false, not_false_eq_true, ite_true, ite_false, Bool.false_eq_true, I_I, J_J, Nat.add_left_cancel_iff, Nat.reduceEqDiff, Nat.add_eq_left, Nat.left_eq_add, false_and, and_false, Nat.reduceSub, Nat.sub_self, Nat.le_refl, Nat.zero_le, ge_iff_le, Nat.reduceAdd, Nat.reduceLeDiff, Nat.zero_add, Nat.reduceLT, z_lt, z_le, z_eq, z_l0, z_g0, z_le0, z_ge0, z_e0, z_e1, z_vp, z_nc, z_rem, z_div, i_ltT, i_ltF, i_leT, i_leF, i_eqT, i_eqF, n_ltT, n_ltF, n_leT, n_leF, n_eqT, n_eqF, tn_9, tn_12, tn_14, tn_20, tn_28, tn_44, tn_52, tn_68, tn_84, tn_100, tn_116, tn_132, fu_e, up_eq, ob_0, ob_b, oi_add, oi_sub, oi_mul, oi_neg, Int.add_zero, Int.zero_add, or_true, true_or, or_false, false_or, and_self, z_i2l, z_l2i, lo_nat, lo_add, lo_sub, lo_mul, lo_0, e_rem]
        refine rt_X10_needed_32 ?_
        simp (disch := omega) only [wp_c, wp_n, jj_n, v_ct, Int.reduceToNat, Int.toNat_natCast, stE, wlE, lgt, lpu, lpw, v_c2, va_s, true_and, and_true, Option.toList, List.nil_append, List.cons_append, List.take, List.drop, List.reverse, List.reverseAux, List.length_cons, List.length_nil, reduceCtorEq, false_implies, true_implies, forall_const, not_true_eq_false, not_false_eq_true, ite_true, ite_false, Bool.false_eq_true, I_I, J_J, Nat.add_left_cancel_iff, Nat.reduceEqDiff, Nat.add_eq_left, Nat.left_eq_add, false_and, and_false, Nat.reduceSub, Nat.sub_self, Nat.le_refl, Nat.zero_le, ge_iff_le, Nat.reduceAdd, Nat.reduceLeDiff, Nat.zero_add, Nat.reduceLT, z_lt, z_le, z_eq, z_l0, z_g0, z_le0, z_ge0, z_e0, z_e1, z_vp, z_nc, z_rem, z_div, i_ltT, i_ltF, i_leT, i_leF, i_eqT, i_eqF, n_ltT, n_ltF, n_leT, n_leF, n_eqT, n_eqF, tn_9, tn_12, tn_14, tn_20, tn_28, tn_44, tn_52, tn_68, tn_84, tn_100, tn_116, tn_132, fu_e, up_eq, ob_0, ob_b, oi_add, oi_sub, oi_mul, oi_neg, Int.add_zero, Int.zero_add, or_true, true_or, or_false, false_or, and_self, z_i2l, z_l2i, lo_nat, lo_add, lo_sub, lo_mul, lo_0, e_rem]
        simp only [not_true_eq_false, false_and, ite_false] at h33
        exact h33
      · by_cases h5 : 5 < (r + c) % 10
        · simp (disch := omega) only [wp_c, wp_n, jj_n, v_ct, Int.reduceToNat, Int.toNat_natCast, stE, wlE, lgt, lpu, lpw, v_c2, va_s, true_and, and_true, Option.toList, List.nil_append, List.cons_append, List.take, List.drop, List.reverse, List.reverseAux, List.length_cons, List.length_nil, reduceCtorEq, false_implies, true_implies, forall_const, not_true_eq_false, not_false_eq_true, ite_true, ite_false, Bool.false_eq_true, I_I, J_J, Nat.add_left_cancel_iff, Nat.reduceEqDiff, Nat.add_eq_left, Nat.left_eq_add, false_and, and_false, Nat.reduceSub, Nat.sub_self, Nat.le_refl, Nat.zero_le, ge_iff_le, Nat.reduceAdd, Nat.reduceLeDiff, Nat.zero_add, Nat.reduceLT, z_lt, z_le, z_eq, z_l0, z_g0, z_le0, z_ge0, z_e0, z_e1, z_vp, z_nc, z_rem, z_div, i_ltT, i_ltF, i_leT, i_leF, i_eqT, i_eqF, n_ltT, n_ltF, n_leT, n_leF, n_eqT, n_eqF, tn_9, tn_12, tn_14, tn_20, tn_28, tn_44, tn_52, tn_68, tn_84, tn_100, tn_116, tn_132, fu_e, up_eq, ob_0, ob_b, oi_add, oi_sub, oi_mul, oi_neg, Int.add_zero, Int.zero_add, or_true, true_or, or_false, false_or, and_self, z_i2l, z_l2i, lo_nat, lo_add, lo_sub, lo_mul, lo_0, e_rem]
          rw [if_pos ⟨by omega, h5⟩] at h33
          exact h33
        · simp (disch := omega) only [wp_c, wp_n, jj_n, v_ct, Int.reduceToNat, Int.toNat_natCast, stE, wlE, lgt, lpu, lpw, v_c2, va_s, true_and, and_true, Option.toList, List.nil_append, List.cons_append, List.take, List.drop, List.reverse, List.reverseAux, List.length_cons, List.length_nil, reduceCtorEq, false_implies, true_implies, forall_const, not_true_eq_false, not_false_eq_true, ite_true, ite_false, Bool.false_eq_true, I_I, J_J, Nat.add_left_cancel_iff, Nat.reduceEqDiff, Nat.add_eq_left, Nat.left_eq_add, false_and, and_false, Nat.reduceSub, Nat.sub_self, Nat.le_refl, Nat.zero_le, ge_iff_le, Nat.reduceAdd, Nat.reduceLeDiff, Nat.zero_add, Nat.reduceLT, z_lt, z_le, z_eq, z_l0, z_g0, z_le0, z_ge0, z_e0, z_e1, z_vp, z_nc, z_rem, z_div, i_ltT, i_ltF, i_leT, i_leF, i_eqT, i_eqF, n_ltT, n_ltF, n_leT, n_leF, n_eqT, n_eqF, tn_9, tn_12, tn_14, tn_20, tn_28, tn_44, tn_52, tn_68, tn_84, tn_100, tn_116, tn_132, fu_e, up_eq, ob_0, ob_b, oi_add, oi_sub, oi_mul, oi_neg, Int.add_zero, Int.zero_add, or_true, true_or, or_false, false_or, and_self, z_i2l, z_l2i, lo_nat, lo_add, lo_sub, lo_mul, lo_0, e_rem]
          refine rt_X10_needed_32 ?_
          simp (disch := omega) only [wp_c, wp_n, jj_n, v_ct, Int.reduceToNat, Int.toNat_natCast, stE, wlE, lgt, lpu, lpw, v_c2, va_s, true_and, and_true, Option.toList, List.nil_append, List.cons_append, List.take, List.drop, List.reverse, List.reverseAux, List.length_cons, List.length_nil, reduceCtorEq, false_implies, true_implies, forall_const, not_true_eq_false, not_false_eq_true, ite_true, ite_false, Bool.false_eq_true, I_I, J_J, Nat.add_left_cancel_iff, Nat.reduceEqDiff, Nat.add_eq_left, Nat.left_eq_add, false_and, and_false, Nat.reduceSub, Nat.sub_self, Nat.le_refl, Nat.zero_le, ge_iff_le, Nat.reduceAdd, Nat.reduceLeDiff, Nat.zero_add, Nat.reduceLT, z_lt, z_le, z_eq, z_l0, z_g0, z_le0, z_ge0, z_e0, z_e1, z_vp, z_nc, z_rem, z_div, i_ltT, i_ltF, i_leT, i_leF, i_eqT, i_eqF, n_ltT, n_ltF, n_leT, n_leF, n_eqT, n_eqF, tn_9, tn_12, tn_14, tn_20, tn_28, tn_44, tn_52, tn_68, tn_84, tn_100, tn_116, tn_132, fu_e, up_eq, ob_0, ob_b, oi_add, oi_sub, oi_mul, oi_neg, Int.add_zero, Int.zero_add, or_true, true_or, or_false, false_or, and_self, z_i2l, z_l2i, lo_nat, lo_add, lo_sub, lo_mul, lo_0, e_rem]
          rw [if_neg (fun q => h5 q.2)] at h33
          exact h33
theorem z_needed {o : Nat} {v s : Int} {w : mW} {Q : mW → mO → Prop} (hv : 0 ≤ v ∧ v ≤ 999999) (hs : s = 0 ∨ s = 1) (hq : Q w (.inl (some (.int (Int32.ofInt ((a_pl 7 v 0 s).length : Nat)))))) : CT n_X10_needed [.ref o, .int (Int32.ofInt v), .int (Int32.ofInt s)] w Q := by
  refine ct_X10_needed (rt_X10_needed_0 ?_)
  simp only [wp_c, wp_n, jj_n, v_ct, Int.reduceToNat, Int.toNat_natCast, stE, wlE, lgt, lpu, lpw, v_c2, va_s, true_and, and_true, Option.toList, List.nil_append, List.cons_append, List.take, List.drop, List.reverse, List.reverseAux, List.length_cons, List.length_nil, reduceCtorEq, false_implies, true_implies, forall_const, not_true_eq_false, not_false_eq_true, ite_true, ite_false, Bool.false_eq_true, I_I, J_J, Nat.add_left_cancel_iff, Nat.reduceEqDiff, Nat.add_eq_left, Nat.left_eq_add, false_and, and_false, Nat.reduceSub, Nat.sub_self, Nat.le_refl, Nat.zero_le, ge_iff_le, Nat.reduceAdd, Nat.reduceLeDiff, Nat.zero_add, Nat.reduceLT]
  have h10 : (10 : Int) ^ (7 - 1) = 1000000 := by decide
  have h6 : v + 0 ≤ (10 : Int) ^ (7 - 1) := by rw [h10]; omega
  have := z_nd_5 (o := o) (x := v) (w := w) (Q := Q) hs 7 v 0 0 (by omega) hv.1 (Or.inl rfl) (fun h => absurd h (by omega)) h6 (by omega) (by simpa using hq)
  simpa using this
theorem z_pl_11 {o a : Nat} {x s v : Int} {w0 : mW} {Q : mW → mO → Prop} (hs : s = 0 ∨ s = 1) (hv : 0 ≤ v ∧ v ≤ 999999)
  (hq : ∀ w', w_sh w' a = (1, 7) → w_n w' = w_n w0 → (∀ j, j < 7 → w_I w' a j = Int32.ofInt (dg1 s (pv s v j))) → (∀ c, ¬ c = a → w_I w' c = w_I w0 c) → w_sh w' = w_sh w0 → w_R w' = w_R w0 → w_J w' = w_J w0 → Q w' (.inl (some (.ref a)))) :
  ∀ (n i : Nat) (w : mW) (z : Value), i + n = 7 → w_sh w a = (1, 7) → w_n w = w_n w0 → (∀ j, j < i → w_I w a j = Int32.ofInt (dg1 s (pv s v j))) → (∀ c, ¬ c = a → w_I w c = w_I w0 c) → w_sh w = w_sh w0 → w_R w = w_R w0 → w_J w = w_J w0 →
  RT n_X10_plan 11 [.ref o, .int (Int32.ofInt x), .int (Int32.ofInt s), .ref a, .int (Int32.ofInt (pv s v i)), .int (Int32.ofInt i), z] [] w (0, 0, false) Q := by
  intro n
  induction n with
  | zero =>
    intro i w z hi h1 h2 h3 h4 h5 h6 h7
    have e : i = 7 := by omega
    subst e
    refine rt_X10_plan_11 ?_
    simp (disch := omega) only [wp_c, wp_n, jj_n, v_ct, Int.reduceToNat, Int.toNat_natCast, stE, wlE, lgt, lpu, lpw, v_c2, va_s, true_and, and_true, Option.toList, List.nil_append, List.cons_append, List.take, List.drop, List.reverse, List.reverseAux, List.length_cons, List.length_nil, reduceCtorEq, false_implies, true_implies, forall_const, not_true_eq_false, not_false_eq_true, ite_true, ite_false, Bool.false_eq_true, I_I, J_J, Nat.add_left_cancel_iff, Nat.reduceEqDiff, Nat.add_eq_left, Nat.left_eq_add, false_and, and_false, Nat.reduceSub, Nat.sub_self, Nat.le_refl, Nat.zero_le, ge_iff_le, Nat.reduceAdd, Nat.reduceLeDiff, Nat.zero_add, Nat.reduceLT, z_lt, z_le, z_eq, z_l0, z_g0, z_le0, z_ge0, z_e0, z_e1, z_vp, z_nc, z_rem, z_div, i_ltT, i_ltF, i_leT, i_leF, i_eqT, i_eqF, n_ltT, n_ltF, n_leT, n_leF, n_eqT, n_eqF, tn_9, tn_12, tn_14, tn_20, tn_28, tn_44, tn_52, tn_68, tn_84, tn_100, tn_116, tn_132, fu_e, up_eq, ob_0, ob_b, oi_add, oi_sub, oi_mul, oi_neg, Int.add_zero, Int.zero_add, or_true, true_or, or_false, false_or, and_self, z_i2l, z_l2i, lo_nat, lo_add, lo_sub, lo_mul, lo_0, e_rem]
    refine rt_X10_plan_60 ?_
    simp (disch := omega) only [wp_c, wp_n, jj_n, v_ct, Int.reduceToNat, Int.toNat_natCast, stE, wlE, lgt, lpu, lpw, v_c2, va_s, true_and, and_true, Option.toList, List.nil_append, List.cons_append, List.take, List.drop, List.reverse, List.reverseAux, List.length_cons, List.length_nil, reduceCtorEq, false_implies, true_implies, forall_const, not_true_eq_false, not_false_eq_true, ite_true, ite_false, Bool.false_eq_true, I_I, J_J, Nat.add_left_cancel_iff, Nat.reduceEqDiff, Nat.add_eq_left, Nat.left_eq_add, false_and, and_false, Nat.reduceSub, Nat.sub_self, Nat.le_refl, Nat.zero_le, ge_iff_le, Nat.reduceAdd, Nat.reduceLeDiff, Nat.zero_add, Nat.reduceLT, z_lt, z_le, z_eq, z_l0, z_g0, z_le0, z_ge0, z_e0, z_e1, z_vp, z_nc, z_rem, z_div, i_ltT, i_ltF, i_leT, i_leF, i_eqT, i_eqF, n_ltT, n_ltF, n_leT, n_leF, n_eqT, n_eqF, tn_9, tn_12, tn_14, tn_20, tn_28, tn_44, tn_52, tn_68, tn_84, tn_100, tn_116, tn_132, fu_e, up_eq, ob_0, ob_b, oi_add, oi_sub, oi_mul, oi_neg, Int.add_zero, Int.zero_add, or_true, true_or, or_false, false_or, and_self, z_i2l, z_l2i, lo_nat, lo_add, lo_sub, lo_mul, lo_0, e_rem]
    exact hq w h1 h2 h3 h4 h5 h6 h7
  | succ n ih =>
    intro i w z hi h1 h2 h3 h4 h5 h6 h7
    have hb := pv_b (s := s) i v (by omega)
    have h48 : RT n_X10_plan 48 [.ref o, .int (Int32.ofInt x), .int (Int32.ofInt s), .ref a, .int (Int32.ofInt (nx s (pv s v i))), .int (Int32.ofInt i), .int (Int32.ofInt (dg1 s (pv s v i)))] [] w (0, 0, false) Q := by
      refine rt_X10_plan_48 ?_
      simp (disch := omega) only [wp_c, wp_n, jj_n, v_ct, Int.reduceToNat, Int.toNat_natCast, stE, wlE, lgt, lpu, lpw, v_c2, va_s, true_and, and_true, Option.toList, List.nil_append, List.cons_append, List.take, List.drop, List.reverse, List.reverseAux, List.length_cons, List.length_nil, reduceCtorEq, false_implies, true_implies, forall_const, not_true_eq_false, not_false_eq_true, ite_true, ite_false, Bool.false_eq_true, I_I, J_J, Nat.add_left_cancel_iff, Nat.reduceEqDiff, Nat.add_eq_left, Nat.left_eq_add, false_and, and_false, Nat.reduceSub, Nat.sub_self, Nat.le_refl, Nat.zero_le, ge_iff_le, Nat.reduceAdd, Nat.reduceLeDiff, Nat.zero_add, Nat.reduceLT, z_lt, z_le, z_eq, z_l0, z_g0, z_le0, z_ge0, z_e0, z_e1, z_vp, z_nc, z_rem, z_div, i_ltT, i_ltF, i_leT, i_leF, i_eqT, i_eqF, n_ltT, n_ltF, n_leT, n_leF, n_eqT, n_eqF, tn_9, tn_12, tn_14, tn_20, tn_28, tn_44, tn_52, tn_68, tn_84, tn_100, tn_116, tn_132, fu_e, up_eq, ob_0, ob_b, oi_add, oi_sub, oi_mul, oi_neg, Int.add_zero, Int.zero_add, or_true, true_or, or_false, false_or, and_self, z_i2l, z_l2i, lo_nat, lo_add, lo_sub, lo_mul, lo_0, e_rem, h1]
      have hc1 : ((i : Int) + 1) = ((i + 1 : Nat) : Int) := by omega
      rw [← pv_s]
      have := ih (i + 1) (s_I w a i (Int32.ofInt (dg1 s (pv s v i)))) (.int (Int32.ofInt (dg1 s (pv s v i)))) (by omega) h1 h2 (fun j hj => ?_) (fun c hc => ?_) h5 h6 h7
      · exact this
      · rw [I_I]
        by_cases q : j = i
        · rw [if_pos ⟨rfl, q⟩, q]
        · rw [if_neg (fun r => q r.2)]; exact h3 j (by omega)
      · funext j; rw [I_I, if_neg (fun r => hc r.1), h4 c hc]
    refine rt_X10_plan_11 ?_
    have en : nx s (pv s v i) = pv s v i / 10 + (if ¬ s = 0 ∧ 5 < pv s v i % 10 then 1 else 0) := rfl
    have ed : dg1 s (pv s v i) = pv s v i % 10 - (if ¬ s = 0 ∧ 5 < pv s v i % 10 then 10 else 0) := rfl
    rw [en, ed] at h48
    rcases hs with rfl | rfl
    · simp (disch := omega) only [wp_c, wp_n, jj_n, v_ct, Int.reduceToNat, Int.toNat_natCast, stE, wlE, lgt, lpu, lpw, v_c2, va_s, true_and, and_true, Option.toList, List.nil_append, List.cons_append, List.take, List.drop, List.reverse, List.reverseAux, List.length_cons, List.length_nil, reduceCtorEq, false_implies, true_implies, forall_const, not_true_eq_false, not_false_eq_true, ite_true, ite_false, Bool.false_eq_true, I_I, J_J, Nat.add_left_cancel_iff, Nat.reduceEqDiff, Nat.add_eq_left, Nat.left_eq_add, false_and, and_false, Nat.reduceSub, Nat.sub_self, Nat.le_refl, Nat.zero_le, ge_iff_le, Nat.reduceAdd, Nat.reduceLeDiff, Nat.zero_add, Nat.reduceLT, z_lt, z_le, z_eq, z_l0, z_g0, z_le0, z_ge0, z_e0, z_e1, z_vp, z_nc, z_rem, z_div, i_ltT, i_ltF, i_leT, i_leF, i_eqT, i_eqF, n_ltT, n_ltF, n_leT, n_leF, n_eqT, n_eqF, tn_9, tn_12, tn_14, tn_20, tn_28, tn_44, tn_52, tn_68, tn_84, tn_100, tn_116, tn_132, fu_e, up_eq, ob_0, ob_b, oi_add, oi_sub, oi_mul, oi_neg, Int.add_zero, Int.zero_add, or_true, true_or, or_false, false_or, and_self, z_i2l, z_l2i, lo_nat, lo_add, lo_sub, lo_mul, lo_0, e_rem]
      simp only [not_true_eq_false, false_and, ite_false, Int.add_zero, Int.sub_zero] at h48
      exact h48
    · by_cases h5' : 5 < pv 1 v i % 10
      · simp (disch := omega) only [wp_c, wp_n, jj_n, v_ct, Int.reduceToNat, Int.toNat_natCast, stE, wlE, lgt, lpu, lpw, v_c2, va_s, true_and, and_true, Option.toList, List.nil_append, List.cons_append, List.take, List.drop, List.reverse, List.reverseAux, List.length_cons, List.length_nil, reduceCtorEq, false_implies, true_implies, forall_const, not_true_eq_false, not_false_eq_true, ite_true, ite_false, Bool.false_eq_true, I_I, J_J, Nat.add_left_cancel_iff, Nat.reduceEqDiff, Nat.add_eq_left, Nat.left_eq_add, false_and, and_false, Nat.reduceSub, Nat.sub_self, Nat.le_refl, Nat.zero_le, ge_iff_le, Nat.reduceAdd, Nat.reduceLeDiff, Nat.zero_add, Nat.reduceLT, z_lt, z_le, z_eq, z_l0, z_g0, z_le0, z_ge0, z_e0, z_e1, z_vp, z_nc, z_rem, z_div, i_ltT, i_ltF, i_leT, i_leF, i_eqT, i_eqF, n_ltT, n_ltF, n_leT, n_leF, n_eqT, n_eqF, tn_9, tn_12, tn_14, tn_20, tn_28, tn_44, tn_52, tn_68, tn_84, tn_100, tn_116, tn_132, fu_e, up_eq, ob_0, ob_b, oi_add, oi_sub, oi_mul, oi_neg, Int.add_zero, Int.zero_add, or_true, true_or, or_false, false_or, and_self, z_i2l, z_l2i, lo_nat, lo_add, lo_sub, lo_mul, lo_0, e_rem]
        rw [if_pos ⟨by omega, h5'⟩, if_pos ⟨by omega, h5'⟩] at h48
        exact h48
      · simp (disch := omega) only [wp_c, wp_n, jj_n, v_ct, Int.reduceToNat, Int.toNat_natCast, stE, wlE, lgt, lpu, lpw, v_c2, va_s, true_and, and_true, Option.toList, List.nil_append, List.cons_append, List.take, List.drop, List.reverse, List.reverseAux, List.length_cons, List.length_nil, reduceCtorEq, false_implies, true_implies, forall_const, not_true_eq_false, not_false_eq_true, ite_true, ite_false, Bool.false_eq_true, I_I, J_J, Nat.add_left_cancel_iff, Nat.reduceEqDiff, Nat.add_eq_left, Nat.left_eq_add, false_and, and_false, Nat.reduceSub, Nat.sub_self, Nat.le_refl, Nat.zero_le, ge_iff_le, Nat.reduceAdd, Nat.reduceLeDiff, Nat.zero_add, Nat.reduceLT, z_lt, z_le, z_eq, z_l0, z_g0, z_le0, z_ge0, z_e0, z_e1, z_vp, z_nc, z_rem, z_div, i_ltT, i_ltF, i_leT, i_leF, i_eqT, i_eqF, n_ltT, n_ltF, n_leT, n_leF, n_eqT, n_eqF, tn_9, tn_12, tn_14, tn_20, tn_28, tn_44, tn_52, tn_68, tn_84, tn_100, tn_116, tn_132, fu_e, up_eq, ob_0, ob_b, oi_add, oi_sub, oi_mul, oi_neg, Int.add_zero, Int.zero_add, or_true, true_or, or_false, false_or, and_self, z_i2l, z_l2i, lo_nat, lo_add, lo_sub, lo_mul, lo_0, e_rem]
        rw [if_neg (fun q => h5' q.2), if_neg (fun q => h5' q.2), Int.add_zero, Int.sub_zero] at h48
        exact h48
theorem z_plan {o : Nat} {v s : Int} {w : mW} {Q : mW → mO → Prop} (hv : 0 ≤ v ∧ v ≤ 999999) (hs : s = 0 ∨ s = 1)
  (hq : ∀ w' a, 100 + w_n w ≤ a → a < 100 + w_n w' → w_sh w' a = (1, 7) → (∀ j, j < 7 → w_I w' a j = Int32.ofInt (dg1 s (pv s v j))) → FO (100 + w_n w) w w' → Q w' (.inl (some (.ref a)))) : CT n_X10_plan [.ref o, .int (Int32.ofInt v), .int (Int32.ofInt s)] w Q := by
  refine ct_X10_plan (rt_X10_plan_0 ?_)
  have c7 : (Int32.ofInt 7).toNatClampNeg = 7 := by decide
  simp (disch := omega) only [wp_c, wp_n, jj_n, v_ct, Int.reduceToNat, Int.toNat_natCast, stE, wlE, lgt, lpu, lpw, v_c2, va_s, true_and, and_true, Option.toList, List.nil_append, List.cons_append, List.take, List.drop, List.reverse, List.reverseAux, List.length_cons, List.length_nil, reduceCtorEq, false_implies, true_implies, forall_const, not_true_eq_false, not_false_eq_true, ite_true, ite_false, Bool.false_eq_true, I_I, J_J, Nat.add_left_cancel_iff, Nat.reduceEqDiff, Nat.add_eq_left, Nat.left_eq_add, false_and, and_false, Nat.reduceSub, Nat.sub_self, Nat.le_refl, Nat.zero_le, ge_iff_le, Nat.reduceAdd, Nat.reduceLeDiff, Nat.zero_add, Nat.reduceLT, z_lt, z_le, z_eq, z_l0, z_g0, z_le0, z_ge0, z_e0, z_e1, z_vp, z_nc, z_rem, z_div, i_ltT, i_ltF, i_leT, i_leF, i_eqT, i_eqF, n_ltT, n_ltF, n_leT, n_leF, n_eqT, n_eqF, tn_9, tn_12, tn_14, tn_20, tn_28, tn_44, tn_52, tn_68, tn_84, tn_100, tn_116, tn_132, fu_e, up_eq, ob_0, ob_b, oi_add, oi_sub, oi_mul, oi_neg, Int.add_zero, Int.zero_add, or_true, true_or, or_false, false_or, and_self, z_i2l, z_l2i, lo_nat, lo_add, lo_sub, lo_mul, lo_0, e_rem, c7]
  intro q hq0
  have f0 : FO (100 + w_n w) w (s_N (s_K w q) (1, 7)) := (FO.refl _ _).N hq0 (Nat.le_refl _)
  have := z_pl_11 (o := o) (a := 100 + q) (x := v) (s := s) (v := v) (w0 := s_N (s_K w q) (1, 7)) (Q := Q) hs hv ?_ 7 0 (s_N (s_K w q) (1, 7)) .null (by omega) (by rw [N_sh, K_n, if_pos rfl]) rfl (fun j hj => absurd hj (by omega)) (fun _ _ => rfl) rfl rfl rfl
  · exact this
  · intro w' h1 h2 h3 h4 h5 h6 h7
    have hn : w_n w' = q + 1 := h2
    refine hq w' (100 + q) (by omega) (by omega) h1 h3 ⟨fun c hc => ?_, by omega⟩
    have hc' : ¬ c = 100 + q := by rcases hc with r | r; omega; have := r.1; omega
    have := f0.1 c hc
    rw [h5, h6, h7, h4 c hc']
    exact this
/-! products -/
theorem TS.c {A B : Row} {N c : Int} (h : TS A B N) (h5 : A 5 = 0) (h0 : 0 ≤ c) (h1 : c + A 0 ≤ A 1) : TS (up A 4 c) (up B 4 c) N := by
  obtain ⟨hG, ⟨hR, b5, hk, hdu, h11⟩, hJ, h14⟩ := h
  have hz := hG.sz
  have e : ∀ (X : Row) (j : Nat), ¬ j = 4 → up X 4 c j = X j := fun X j hj => by rw [up_eq, if_neg hj]
  refine ⟨hG.pos (by omega) h0 h1, ⟨⟨fun j hj => ?_, fun i hi => ?_⟩, ?_, ?_, ?_, ?_⟩, fun q => ?_, ?_, ?_⟩
  · rw [up_eq, up_eq]
    split
    · rfl
    · exact hR.1 j hj
  · rw [e _ _ (by omega), e _ _ (by omega)]; exact hR.2 i hi
  · rw [e _ _ (by omega), e _ _ (by omega)]; exact b5
  · rw [e _ _ (by omega), hk]; exact (k_c (e _ _ (by omega)) (by omega) (fun j hj => e _ _ (by omega))).symm
  · rw [e _ _ (by omega), hdu]; exact (d_c (e _ _ (by omega)) (by omega) (fun j hj => e _ _ (by omega))).symm
  · rw [e _ _ (by omega), e _ _ (by omega)]; exact h11
  · rw [e _ _ (by omega)] at q; omega
  · rw [e _ _ (by omega)]; exact h14.1
  · rw [e _ _ (by omega)]; exact h14.2
theorem TS.d8 {A B : Row} {N v : Int} (h : TS A B N) (h5 : A 5 = 0) (hv : v = 0 ∨ v = 1) : TS (up A 8 v) B N := by
  obtain ⟨hG, ⟨hR, b5, hk, hdu, h11⟩, hJ, h14⟩ := h
  have hz := hG.sz
  have e : ∀ (j : Nat), ¬ j = 8 → up A 8 v j = A j := fun j hj => by rw [up_eq, if_neg hj]
  refine ⟨hG.u8 (by omega) hv, ⟨hR.uA (by omega), by rw [e _ (by omega)]; exact b5, ?_, ?_, h11⟩, fun q => ?_, by rw [e _ (by omega)]; exact h14.1, by rw [e _ (by omega)]; exact h14.2⟩
  · rw [hk]; exact (k_c (e _ (by omega)) (by omega) (fun j hj => e _ (by omega))).symm
  · rw [hdu]; exact (d_c (e _ (by omega)) (by omega) (fun j hj => e _ (by omega))).symm
  · rw [e _ (by omega)] at q; omega
theorem LX.c {A B : Row} {c : Int} (h : LX A B) : LX (up A 4 c) (up B 4 c) := ⟨by rw [up_eq, if_neg (by omega), up_eq, if_neg (by omega)]; exact h.1, fun j h1 h2 => by rw [up_eq, if_neg (by omega), up_eq, if_neg (by omega)]; exact h.2 j h1 h2⟩
theorem LX.d8 {A B : Row} {v : Int} (h : LX A B) : LX (up A 8 v) B := ⟨by rw [up_eq, if_neg (by omega)]; exact h.1, fun j h1 h2 => by rw [up_eq, if_neg (by omega)]; exact h.2 j h1 h2⟩
/-- a world's cell of a shape of no own machine -/
def PA (w : mW) (a : Nat) (v s : Int) : Prop := a < 100 + w_n w ∧ w_sh w a = (1, 7) ∧ ∀ j, j < 7 → w_I w a j = Int32.ofInt (dg1 s (pv s v j))
theorem PA.fo {b : Nat} {w w' : mW} {a : Nat} {v s : Int} (h : PA w a v s) (f : FO b w w') : PA w' a v s := by
  have e := f.1 a (Or.inr ⟨h.1, by rw [h.2.1]; unfold sf; simp⟩)
  refine ⟨by have := f.2; have := h.1; omega, by rw [e.1]; exact h.2.1, fun j hj => by rw [e.2.2.1]; exact h.2.2 j hj⟩
theorem z_mul_45 {b o a : Nat} {v s many : Int} {Q : mW → mO → Prop} (hv : 0 ≤ v ∧ v ≤ 999999) (hs : s = 0 ∨ s = 1) {Z : Int} : ∀ (l : List Int) (i : Nat) (P : Nat → Nat) (A B : Row) (t : Nat) (N : Int) (w : mW), (i : Int) + l.length = many → many ≤ 7 → (∀ j, j < l.length → l.getD j 0 = dg1 s (pv s v (i + j))) → TS A B N → A 5 = 0 → A 8 = 0 → (i : Int) + l.length ≤ A 1 - A 0 + 1 → N + 12 * l.length ≤ 900000000 → t ≤ 1000 * i → OW w b o P B → PA w a v s →
  (∀ w' P' B', OW w' b o P' B' → FO b w w' → TS (a_mul l i A t).1 B' (N + 12 * l.length) → B' 1000 = B 1000 → (LX A B → LX (a_mul l i A t).1 B') → Q w' (.inl (some (.int (Int32.ofInt (a_mul l i A t).2))))) →
  RT n_X10_multiply 45 [.ref o, .int (Int32.ofInt v), .int (Int32.ofInt s), .int (Int32.ofInt many), .ref a, .int (Int32.ofInt t), .int (Int32.ofInt i)] [] w (420 - 60 * i, 4872 - 696 * i, false) Q := by
  intro l
  induction l with
  | nil =>
    intro i P A B t N w hi hm hl hT h5 h8 hc hN ht hO hP hq
    have hF := hO.F
    simp only [List.length_nil, Int.natCast_zero, Int.add_zero] at hi
    refine rt_X10_multiply_45 ?_
    simp (disch := omega) only [wp_c, wp_n, jj_n, v_ct, Int.reduceToNat, Int.toNat_natCast, stE, wlE, lgt, lpu, lpw, v_c2, va_s, true_and, and_true, Option.toList, List.nil_append, List.cons_append, List.take, List.drop, List.reverse, List.reverseAux, List.length_cons, List.length_nil, reduceCtorEq, false_implies, true_implies, forall_const, not_true_eq_false, not_false_eq_true, ite_true, ite_false, Bool.false_eq_true, I_I, J_J, Nat.add_left_cancel_iff, Nat.reduceEqDiff, Nat.add_eq_left, Nat.left_eq_add, false_and, and_false, Nat.reduceSub, Nat.sub_self, Nat.le_refl, Nat.zero_le, ge_iff_le, Nat.reduceAdd, Nat.reduceLeDiff, Nat.zero_add, Nat.reduceLT, z_lt, z_le, z_eq, z_l0, z_g0, z_le0, z_ge0, z_e0, z_e1, z_vp, z_nc, z_rem, z_div, i_ltT, i_ltF, i_leT, i_leF, i_eqT, i_eqF, n_ltT, n_ltF, n_leT, n_leF, n_eqT, n_eqF, tn_9, tn_12, tn_14, tn_20, tn_28, tn_44, tn_52, tn_68, tn_84, tn_100, tn_116, tn_132, fu_e, up_eq, ob_0, ob_b, oi_add, oi_sub, oi_mul, oi_neg, Int.add_zero, Int.zero_add, or_true, true_or, or_false, false_or, and_self, z_i2l, z_l2i, lo_nat, lo_add, lo_sub, lo_mul, lo_0, e_rem]
    refine rt_X10_multiply_85 ?_
    simp (disch := omega) only [wp_c, wp_n, jj_n, v_ct, Int.reduceToNat, Int.toNat_natCast, stE, wlE, lgt, lpu, lpw, v_c2, va_s, true_and, and_true, Option.toList, List.nil_append, List.cons_append, List.take, List.drop, List.reverse, List.reverseAux, List.length_cons, List.length_nil, reduceCtorEq, false_implies, true_implies, forall_const, not_true_eq_false, not_false_eq_true, ite_true, ite_false, Bool.false_eq_true, I_I, J_J, Nat.add_left_cancel_iff, Nat.reduceEqDiff, Nat.add_eq_left, Nat.left_eq_add, false_and, and_false, Nat.reduceSub, Nat.sub_self, Nat.le_refl, Nat.zero_le, ge_iff_le, Nat.reduceAdd, Nat.reduceLeDiff, Nat.zero_add, Nat.reduceLT, z_lt, z_le, z_eq, z_l0, z_g0, z_le0, z_ge0, z_e0, z_e1, z_vp, z_nc, z_rem, z_div, i_ltT, i_ltF, i_leT, i_leF, i_eqT, i_eqF, n_ltT, n_ltF, n_leT, n_leF, n_eqT, n_eqF, tn_9, tn_12, tn_14, tn_20, tn_28, tn_44, tn_52, tn_68, tn_84, tn_100, tn_116, tn_132, fu_e, up_eq, ob_0, ob_b, oi_add, oi_sub, oi_mul, oi_neg, Int.add_zero, Int.zero_add, or_true, true_or, or_false, false_or, and_self, z_i2l, z_l2i, lo_nat, lo_add, lo_sub, lo_mul, lo_0, e_rem, mr_X10_multiply]
    have := hq w P B hO (FO.refl _ _) (by show TS A B (N + 12 * ((0 : Nat) : Int)); rw [show N + 12 * ((0 : Nat) : Int) = N by omega]; exact hT) rfl (fun h => h)
    simpa [a_mul] using this
  | cons x l ih =>
    intro i P A B t N w hi hm hl hT h5 h8 hc hN ht hO hP hq
    have hF := hO.F
    have hV := hO.V
    have hge := hO.ge
    have b5 : B 5 = 0 := hT.2.1.2.1.trans h5
    rw [List.length_cons] at hi hc hN hl
    have hz := hT.1.sz
    have hx : x = dg1 s (pv s v i) := by have := hl 0 (by omega); simpa using this
    have hxb := dg1_b (s := s) (v := pv s v i)
    rw [← hx] at hxb
    have e7 := hP.2.2 i (by omega)
    rw [← hx] at e7
    have hne : ¬ a = o := by
      intro q
      have := hP.2.1
      rw [q, hO.1.1] at this
      exact absurd (congrArg Prod.fst this) (by decide)
    refine rt_X10_multiply_45 ?_
    simp (disch := omega) only [wp_c, wp_n, jj_n, v_ct, Int.reduceToNat, Int.toNat_natCast, stE, wlE, lgt, lpu, lpw, v_c2, va_s, true_and, and_true, Option.toList, List.nil_append, List.cons_append, List.take, List.drop, List.reverse, List.reverseAux, List.length_cons, List.length_nil, reduceCtorEq, false_implies, true_implies, forall_const, not_true_eq_false, not_false_eq_true, ite_true, ite_false, Bool.false_eq_true, I_I, J_J, Nat.add_left_cancel_iff, Nat.reduceEqDiff, Nat.add_eq_left, Nat.left_eq_add, false_and, and_false, Nat.reduceSub, Nat.sub_self, Nat.le_refl, Nat.zero_le, ge_iff_le, Nat.reduceAdd, Nat.reduceLeDiff, Nat.zero_add, Nat.reduceLT, z_lt, z_le, z_eq, z_l0, z_g0, z_le0, z_ge0, z_e0, z_e1, z_vp, z_nc, z_rem, z_div, i_ltT, i_ltF, i_leT, i_leF, i_eqT, i_eqF, n_ltT, n_ltF, n_leT, n_leF, n_eqT, n_eqF, tn_9, tn_12, tn_14, tn_20, tn_28, tn_44, tn_52, tn_68, tn_84, tn_100, tn_116, tn_132, fu_e, up_eq, ob_0, ob_b, oi_add, oi_sub, oi_mul, oi_neg, Int.add_zero, Int.zero_add, or_true, true_or, or_false, false_or, and_self, z_i2l, z_l2i, lo_nat, lo_add, lo_sub, lo_mul, lo_0, e_rem, hF, hV, b5, hne, hP.2.1, e7, mh_X10_multiply]
    try refine ⟨by omega, by omega, ?_⟩
    have hT1 := hT.c (c := (i : Int)) h5 (by omega) (by omega)
    have u : ∀ j, ¬ j = 4 → up A 4 (i : Int) j = A j := fun j hj => by rw [up_eq, if_neg hj]
    refine z_turns (hO.sc (v := (i : Int))) hT1 (by rw [u 8 (by omega)]; exact h8) (by omega) (by omega) ?_
    intro w1 P1 B1 m1 m2 m3 m4 m5 m6 m7
    have f1 : FO b w w1 := ((FO.refl _ _).I hge.1).trans m2
    generalize hr : a_many x.natAbs (up A 4 (i : Int)) (if x < 0 then -1 else 1) = r at m3 m5 m6 m7 ⊢
    have hww : (if x < 0 then (-1 : Int) else 1) = 1 ∨ (if x < 0 then (-1 : Int) else 1) = -1 := by split <;> simp
    have hrb : r.2 ≤ x.natAbs := by rw [← hr]; exact (many_5 hww x.natAbs _ hT1.1.1 (by rw [u 5 (by omega)]; exact h5)).2.2
    have hr5 := m3.1.j5
    have g1 : 420 - 60 * i - 60 = 420 - 60 * (i + 1) := by omega
    have g2 : 4872 - 696 * i - 696 = 4872 - 696 * (i + 1) := by omega
    simp (disch := omega) only [wp_c, wp_n, jj_n, v_ct, Int.reduceToNat, Int.toNat_natCast, stE, wlE, lgt, lpu, lpw, v_c2, va_s, true_and, and_true, Option.toList, List.nil_append, List.cons_append, List.take, List.drop, List.reverse, List.reverseAux, List.length_cons, List.length_nil, reduceCtorEq, false_implies, true_implies, forall_const, not_true_eq_false, not_false_eq_true, ite_true, ite_false, Bool.false_eq_true, I_I, J_J, Nat.add_left_cancel_iff, Nat.reduceEqDiff, Nat.add_eq_left, Nat.left_eq_add, false_and, and_false, Nat.reduceSub, Nat.sub_self, Nat.le_refl, Nat.zero_le, ge_iff_le, Nat.reduceAdd, Nat.reduceLeDiff, Nat.zero_add, Nat.reduceLT, z_lt, z_le, z_eq, z_l0, z_g0, z_le0, z_ge0, z_e0, z_e1, z_vp, z_nc, z_rem, z_div, i_ltT, i_ltF, i_leT, i_leF, i_eqT, i_eqF, n_ltT, n_ltF, n_leT, n_leF, n_eqT, n_eqF, tn_9, tn_12, tn_14, tn_20, tn_28, tn_44, tn_52, tn_68, tn_84, tn_100, tn_116, tn_132, fu_e, up_eq, ob_0, ob_b, oi_add, oi_sub, oi_mul, oi_neg, Int.add_zero, Int.zero_add, or_true, true_or, or_false, false_or, and_self, z_i2l, z_l2i, lo_nat, lo_add, lo_sub, lo_mul, lo_0, e_rem, g1, g2]
    have e0 : ∀ j, j < 4 → r.1 j = A j := fun j hj => by
      rw [← hr]
      have := (many_RI hww x.natAbs (up A 4 (i : Int)) hT1.1.1).2.1 j (by omega)
      rw [this, u _ (by omega)]
    by_cases hj : 0 < r.1 5
    · have hq' := hq w1 P1 B1 m1 f1
      rw [a_mul, hr, if_pos hj] at hq'
      have b5' := m3.2.1.2.1
      have hV1 := m1.V
      have hF1 := m1.F
      have hq2 := hq' ⟨m3.1, m3.2.1, m3.2.2.1, m3.2.2.2.1, by have := m3.2.2.2.2; simp only [List.length_cons]; omega⟩ (m4.trans (by rw [up_eq, if_neg (by omega)])) (fun h => m7 h.c)
      have hc1 : ((t : Int) + (r.2 : Nat)) = ((t + r.2 : Nat) : Int) := by omega
      by_cases hl0 : l = []
      · subst hl0
        refine rt_X10_multiply_45 ?_
        simp only [List.length_nil] at hi
        simp (disch := omega) only [wp_c, wp_n, jj_n, v_ct, Int.reduceToNat, Int.toNat_natCast, stE, wlE, lgt, lpu, lpw, v_c2, va_s, true_and, and_true, Option.toList, List.nil_append, List.cons_append, List.take, List.drop, List.reverse, List.reverseAux, List.length_cons, List.length_nil, reduceCtorEq, false_implies, true_implies, forall_const, not_true_eq_false, not_false_eq_true, ite_true, ite_false, Bool.false_eq_true, I_I, J_J, Nat.add_left_cancel_iff, Nat.reduceEqDiff, Nat.add_eq_left, Nat.left_eq_add, false_and, and_false, Nat.reduceSub, Nat.sub_self, Nat.le_refl, Nat.zero_le, ge_iff_le, Nat.reduceAdd, Nat.reduceLeDiff, Nat.zero_add, Nat.reduceLT, z_lt, z_le, z_eq, z_l0, z_g0, z_le0, z_ge0, z_e0, z_e1, z_vp, z_nc, z_rem, z_div, i_ltT, i_ltF, i_leT, i_leF, i_eqT, i_eqF, n_ltT, n_ltF, n_leT, n_leF, n_eqT, n_eqF, tn_9, tn_12, tn_14, tn_20, tn_28, tn_44, tn_52, tn_68, tn_84, tn_100, tn_116, tn_132, fu_e, up_eq, ob_0, ob_b, oi_add, oi_sub, oi_mul, oi_neg, Int.add_zero, Int.zero_add, or_true, true_or, or_false, false_or, and_self, z_i2l, z_l2i, lo_nat, lo_add, lo_sub, lo_mul, lo_0, e_rem]
        refine rt_X10_multiply_85 ?_
        simp (disch := omega) only [wp_c, wp_n, jj_n, v_ct, Int.reduceToNat, Int.toNat_natCast, stE, wlE, lgt, lpu, lpw, v_c2, va_s, true_and, and_true, Option.toList, List.nil_append, List.cons_append, List.take, List.drop, List.reverse, List.reverseAux, List.length_cons, List.length_nil, reduceCtorEq, false_implies, true_implies, forall_const, not_true_eq_false, not_false_eq_true, ite_true, ite_false, Bool.false_eq_true, I_I, J_J, Nat.add_left_cancel_iff, Nat.reduceEqDiff, Nat.add_eq_left, Nat.left_eq_add, false_and, and_false, Nat.reduceSub, Nat.sub_self, Nat.le_refl, Nat.zero_le, ge_iff_le, Nat.reduceAdd, Nat.reduceLeDiff, Nat.zero_add, Nat.reduceLT, z_lt, z_le, z_eq, z_l0, z_g0, z_le0, z_ge0, z_e0, z_e1, z_vp, z_nc, z_rem, z_div, i_ltT, i_ltF, i_leT, i_leF, i_eqT, i_eqF, n_ltT, n_ltF, n_leT, n_leF, n_eqT, n_eqF, tn_9, tn_12, tn_14, tn_20, tn_28, tn_44, tn_52, tn_68, tn_84, tn_100, tn_116, tn_132, fu_e, up_eq, ob_0, ob_b, oi_add, oi_sub, oi_mul, oi_neg, Int.add_zero, Int.zero_add, or_true, true_or, or_false, false_or, and_self, z_i2l, z_l2i, lo_nat, lo_add, lo_sub, lo_mul, lo_0, e_rem, mr_X10_multiply]
        exact hq2
      · have hlp : 0 < l.length := List.length_pos_iff.mpr hl0
        refine rt_X10_multiply_45 ?_
        simp (disch := omega) only [wp_c, wp_n, jj_n, v_ct, Int.reduceToNat, Int.toNat_natCast, stE, wlE, lgt, lpu, lpw, v_c2, va_s, true_and, and_true, Option.toList, List.nil_append, List.cons_append, List.take, List.drop, List.reverse, List.reverseAux, List.length_cons, List.length_nil, reduceCtorEq, false_implies, true_implies, forall_const, not_true_eq_false, not_false_eq_true, ite_true, ite_false, Bool.false_eq_true, I_I, J_J, Nat.add_left_cancel_iff, Nat.reduceEqDiff, Nat.add_eq_left, Nat.left_eq_add, false_and, and_false, Nat.reduceSub, Nat.sub_self, Nat.le_refl, Nat.zero_le, ge_iff_le, Nat.reduceAdd, Nat.reduceLeDiff, Nat.zero_add, Nat.reduceLT, z_lt, z_le, z_eq, z_l0, z_g0, z_le0, z_ge0, z_e0, z_e1, z_vp, z_nc, z_rem, z_div, i_ltT, i_ltF, i_leT, i_leF, i_eqT, i_eqF, n_ltT, n_ltF, n_leT, n_leF, n_eqT, n_eqF, tn_9, tn_12, tn_14, tn_20, tn_28, tn_44, tn_52, tn_68, tn_84, tn_100, tn_116, tn_132, fu_e, up_eq, ob_0, ob_b, oi_add, oi_sub, oi_mul, oi_neg, Int.add_zero, Int.zero_add, or_true, true_or, or_false, false_or, and_self, z_i2l, z_l2i, lo_nat, lo_add, lo_sub, lo_mul, lo_0, e_rem, hF1, hV1, b5']
        refine rt_X10_multiply_85 ?_
        simp (disch := omega) only [wp_c, wp_n, jj_n, v_ct, Int.reduceToNat, Int.toNat_natCast, stE, wlE, lgt, lpu, lpw, v_c2, va_s, true_and, and_true, Option.toList, List.nil_append, List.cons_append, List.take, List.drop, List.reverse, List.reverseAux, List.length_cons, List.length_nil, reduceCtorEq, false_implies, true_implies, forall_const, not_true_eq_false, not_false_eq_true, ite_true, ite_false, Bool.false_eq_true, I_I, J_J, Nat.add_left_cancel_iff, Nat.reduceEqDiff, Nat.add_eq_left, Nat.left_eq_add, false_and, and_false, Nat.reduceSub, Nat.sub_self, Nat.le_refl, Nat.zero_le, ge_iff_le, Nat.reduceAdd, Nat.reduceLeDiff, Nat.zero_add, Nat.reduceLT, z_lt, z_le, z_eq, z_l0, z_g0, z_le0, z_ge0, z_e0, z_e1, z_vp, z_nc, z_rem, z_div, i_ltT, i_ltF, i_leT, i_leF, i_eqT, i_eqF, n_ltT, n_ltF, n_leT, n_leF, n_eqT, n_eqF, tn_9, tn_12, tn_14, tn_20, tn_28, tn_44, tn_52, tn_68, tn_84, tn_100, tn_116, tn_132, fu_e, up_eq, ob_0, ob_b, oi_add, oi_sub, oi_mul, oi_neg, Int.add_zero, Int.zero_add, or_true, true_or, or_false, false_or, and_self, z_i2l, z_l2i, lo_nat, lo_add, lo_sub, lo_mul, lo_0, e_rem, mr_X10_multiply]
        exact hq2
    · have hA5 : r.1 5 = 0 := by omega
      have hc1 : ((t : Int) + (r.2 : Nat)) = ((t + r.2 : Nat) : Int) := by omega
      have := ih (i + 1) P1 r.1 B1 (t + r.2) (N + 12) w1 (by omega) hm (fun j hj => by
        have := hl (j + 1) (by omega)
        rw [List.getD_cons_succ] at this
        rw [this, show i + (j + 1) = i + 1 + j by omega]) m3 hA5 (by rw [m5, u 8 (by omega)]; exact h8) (by rw [e0 0 (by omega), e0 1 (by omega)]; omega) (by omega) (by omega) m1 (hP.fo f1) ?_
      · exact this
      · intro w2 P2 B2 k1 k2 k3 k4 k5
        have hq' := hq w2 P2 B2 k1 (f1.trans k2)
        rw [a_mul, hr, if_neg hj] at hq'
        exact hq' (by rw [List.length_cons, show N + 12 * ((l.length + 1 : Nat) : Int) = N + 12 + 12 * l.length by omega]; exact k3) (k4.trans (m4.trans (by rw [up_eq, if_neg (by omega)]))) (fun h => k5 (m7 h.c))
theorem z_multiply {b o : Nat} {P : Nat → Nat} {A B : Row} {v s N : Int} {w : mW} {Q : mW → mO → Prop} (hO : OW w b o P B) (hT : TS A B N) (h5 : A 5 = 0) (hv : 0 ≤ v ∧ v ≤ 999999) (hs : s = 0 ∨ s = 1) (hN : N ≤ 800000000)
  (hno : ¬ ((a_pl 7 v 0 s).length : Int) - 1 ≤ A 1 - A 0 → Q w (.inl (some (.int (Int32.ofInt (-1000))))))
  (hq : ((a_pl 7 v 0 s).length : Int) - 1 ≤ A 1 - A 0 → ∀ w' P' B', OW w' b o P' B' → FO b w w' → TS (a_mul (a_pl 7 v 0 s) 0 (up (up A 4 0) 8 0) 0).1 B' (N + 84) → B' 1000 = B 1000 → (LX A B → LX (a_mul (a_pl 7 v 0 s) 0 (up (up A 4 0) 8 0) 0).1 B') → Q w' (.inl (some (.int (Int32.ofInt (a_mul (a_pl 7 v 0 s) 0 (up (up A 4 0) 8 0) 0).2))))) :
  CT n_X10_multiply [.ref o, .int (Int32.ofInt v), .int (Int32.ofInt s)] w Q := by
  have hF := hO.F
  have hV := hO.V
  have hE := hO.E
  have hge := hO.ge
  have hlt := hO.lt
  have hz := hT.1.sz
  have hsz := hT.2.1.1.sz
  have hlen := (pl_r 7 v 0 s hv.1 (Or.inl rfl)).1
  refine ct_X10_multiply (rt_X10_multiply_0 ?_)
  simp (disch := omega) only [wp_c, wp_n, jj_n, v_ct, Int.reduceToNat, Int.toNat_natCast, stE, wlE, lgt, lpu, lpw, v_c2, va_s, true_and, and_true, Option.toList, List.nil_append, List.cons_append, List.take, List.drop, List.reverse, List.reverseAux, List.length_cons, List.length_nil, reduceCtorEq, false_implies, true_implies, forall_const, not_true_eq_false, not_false_eq_true, ite_true, ite_false, Bool.false_eq_true, I_I, J_J, Nat.add_left_cancel_iff, Nat.reduceEqDiff, Nat.add_eq_left, Nat.left_eq_add, false_and, and_false, Nat.reduceSub, Nat.sub_self, Nat.le_refl, Nat.zero_le, ge_iff_le, Nat.reduceAdd, Nat.reduceLeDiff, Nat.zero_add, Nat.reduceLT, z_lt, z_le, z_eq, z_l0, z_g0, z_le0, z_ge0, z_e0, z_e1, z_vp, z_nc, z_rem, z_div, i_ltT, i_ltF, i_leT, i_leF, i_eqT, i_eqF, n_ltT, n_ltF, n_leT, n_leF, n_eqT, n_eqF, tn_9, tn_12, tn_14, tn_20, tn_28, tn_44, tn_52, tn_68, tn_84, tn_100, tn_116, tn_132, fu_e, up_eq, ob_0, ob_b, oi_add, oi_sub, oi_mul, oi_neg, Int.add_zero, Int.zero_add, or_true, true_or, or_false, false_or, and_self, z_i2l, z_l2i, lo_nat, lo_add, lo_sub, lo_mul, lo_0, e_rem, hF.1, mh_X10_multiply]
  refine z_needed hv hs ?_
  simp (disch := omega) only [wp_c, wp_n, jj_n, v_ct, Int.reduceToNat, Int.toNat_natCast, stE, wlE, lgt, lpu, lpw, v_c2, va_s, true_and, and_true, Option.toList, List.nil_append, List.cons_append, List.take, List.drop, List.reverse, List.reverseAux, List.length_cons, List.length_nil, reduceCtorEq, false_implies, true_implies, forall_const, not_true_eq_false, not_false_eq_true, ite_true, ite_false, Bool.false_eq_true, I_I, J_J, Nat.add_left_cancel_iff, Nat.reduceEqDiff, Nat.add_eq_left, Nat.left_eq_add, false_and, and_false, Nat.reduceSub, Nat.sub_self, Nat.le_refl, Nat.zero_le, ge_iff_le, Nat.reduceAdd, Nat.reduceLeDiff, Nat.zero_add, Nat.reduceLT, z_lt, z_le, z_eq, z_l0, z_g0, z_le0, z_ge0, z_e0, z_e1, z_vp, z_nc, z_rem, z_div, i_ltT, i_ltF, i_leT, i_leF, i_eqT, i_eqF, n_ltT, n_ltF, n_leT, n_leF, n_eqT, n_eqF, tn_9, tn_12, tn_14, tn_20, tn_28, tn_44, tn_52, tn_68, tn_84, tn_100, tn_116, tn_132, fu_e, up_eq, ob_0, ob_b, oi_add, oi_sub, oi_mul, oi_neg, Int.add_zero, Int.zero_add, or_true, true_or, or_false, false_or, and_self, z_i2l, z_l2i, lo_nat, lo_add, lo_sub, lo_mul, lo_0, e_rem, hF, hV, hsz.1, hsz.2.1]
  generalize hl : (a_pl 7 v 0 s).length = n at hlen hno hq ⊢
  by_cases hn : (n : Int) - 1 ≤ A 1 - A 0
  · simp (disch := omega) only [wp_c, wp_n, jj_n, v_ct, Int.reduceToNat, Int.toNat_natCast, stE, wlE, lgt, lpu, lpw, v_c2, va_s, true_and, and_true, Option.toList, List.nil_append, List.cons_append, List.take, List.drop, List.reverse, List.reverseAux, List.length_cons, List.length_nil, reduceCtorEq, false_implies, true_implies, forall_const, not_true_eq_false, not_false_eq_true, ite_true, ite_false, Bool.false_eq_true, I_I, J_J, Nat.add_left_cancel_iff, Nat.reduceEqDiff, Nat.add_eq_left, Nat.left_eq_add, false_and, and_false, Nat.reduceSub, Nat.sub_self, Nat.le_refl, Nat.zero_le, ge_iff_le, Nat.reduceAdd, Nat.reduceLeDiff, Nat.zero_add, Nat.reduceLT, z_lt, z_le, z_eq, z_l0, z_g0, z_le0, z_ge0, z_e0, z_e1, z_vp, z_nc, z_rem, z_div, i_ltT, i_ltF, i_leT, i_leF, i_eqT, i_eqF, n_ltT, n_ltF, n_leT, n_leF, n_eqT, n_eqF, tn_9, tn_12, tn_14, tn_20, tn_28, tn_44, tn_52, tn_68, tn_84, tn_100, tn_116, tn_132, fu_e, up_eq, ob_0, ob_b, oi_add, oi_sub, oi_mul, oi_neg, Int.add_zero, Int.zero_add, or_true, true_or, or_false, false_or, and_self, z_i2l, z_l2i, lo_nat, lo_add, lo_sub, lo_mul, lo_0, e_rem]
    refine rt_X10_multiply_26 ?_
    simp (disch := omega) only [wp_c, wp_n, jj_n, v_ct, Int.reduceToNat, Int.toNat_natCast, stE, wlE, lgt, lpu, lpw, v_c2, va_s, true_and, and_true, Option.toList, List.nil_append, List.cons_append, List.take, List.drop, List.reverse, List.reverseAux, List.length_cons, List.length_nil, reduceCtorEq, false_implies, true_implies, forall_const, not_true_eq_false, not_false_eq_true, ite_true, ite_false, Bool.false_eq_true, I_I, J_J, Nat.add_left_cancel_iff, Nat.reduceEqDiff, Nat.add_eq_left, Nat.left_eq_add, false_and, and_false, Nat.reduceSub, Nat.sub_self, Nat.le_refl, Nat.zero_le, ge_iff_le, Nat.reduceAdd, Nat.reduceLeDiff, Nat.zero_add, Nat.reduceLT, z_lt, z_le, z_eq, z_l0, z_g0, z_le0, z_ge0, z_e0, z_e1, z_vp, z_nc, z_rem, z_div, i_ltT, i_ltF, i_leT, i_leF, i_eqT, i_eqF, n_ltT, n_ltF, n_leT, n_leF, n_eqT, n_eqF, tn_9, tn_12, tn_14, tn_20, tn_28, tn_44, tn_52, tn_68, tn_84, tn_100, tn_116, tn_132, fu_e, up_eq, ob_0, ob_b, oi_add, oi_sub, oi_mul, oi_neg, Int.add_zero, Int.zero_add, or_true, true_or, or_false, false_or, and_self, z_i2l, z_l2i, lo_nat, lo_add, lo_sub, lo_mul, lo_0, e_rem, hF.1, mh_X10_multiply]
    refine z_plan hv hs ?_
    intro w1 a a1 a2 a3 a4 f1
    have h1 := hO.ext f1
    have hF1 := h1.F
    simp (disch := omega) only [wp_c, wp_n, jj_n, v_ct, Int.reduceToNat, Int.toNat_natCast, stE, wlE, lgt, lpu, lpw, v_c2, va_s, true_and, and_true, Option.toList, List.nil_append, List.cons_append, List.take, List.drop, List.reverse, List.reverseAux, List.length_cons, List.length_nil, reduceCtorEq, false_implies, true_implies, forall_const, not_true_eq_false, not_false_eq_true, ite_true, ite_false, Bool.false_eq_true, I_I, J_J, Nat.add_left_cancel_iff, Nat.reduceEqDiff, Nat.add_eq_left, Nat.left_eq_add, false_and, and_false, Nat.reduceSub, Nat.sub_self, Nat.le_refl, Nat.zero_le, ge_iff_le, Nat.reduceAdd, Nat.reduceLeDiff, Nat.zero_add, Nat.reduceLT, z_lt, z_le, z_eq, z_l0, z_g0, z_le0, z_ge0, z_e0, z_e1, z_vp, z_nc, z_rem, z_div, i_ltT, i_ltF, i_leT, i_leF, i_eqT, i_eqF, n_ltT, n_ltF, n_leT, n_leF, n_eqT, n_eqF, tn_9, tn_12, tn_14, tn_20, tn_28, tn_44, tn_52, tn_68, tn_84, tn_100, tn_116, tn_132, fu_e, up_eq, ob_0, ob_b, oi_add, oi_sub, oi_mul, oi_neg, Int.add_zero, Int.zero_add, or_true, true_or, or_false, false_or, and_self, z_i2l, z_l2i, lo_nat, lo_add, lo_sub, lo_mul, lo_0, e_rem, hF1.1]
    have h2 := h1.sc (v := 0)
    have u : ∀ j, ¬ j = 4 → up A 4 0 j = A j := fun j hj => by rw [up_eq, if_neg hj]
    have u8 : ∀ j, ¬ j = 4 → ¬ j = 8 → up (up A 4 0) 8 0 j = A j := fun j hj h8 => by rw [up_eq, if_neg h8, u j hj]
    have hT2 := (hT.c (c := 0) h5 (by omega) (by omega)).d8 (v := 0) (by rw [u 5 (by omega)]; exact h5) (Or.inl rfl)
    have ha : ¬ a = o := by have := hlt.1; omega
    have hPA : PA (s_I w1 o 5 (Int32.ofInt 0)) a v s := ⟨a2, a3, fun j hj => by rw [I_I, if_neg (fun q => ha q.1)]; exact a4 j hj⟩
    have fb : FO b w (s_I w1 o 5 (Int32.ofInt 0)) := (f1.low (by have := hO.1.2.1; omega)).I hge.1
    have := z_mul_45 (b := b) (o := o) (a := a) (v := v) (s := s) (many := n) (Q := Q) hv hs (Z := 0) (a_pl 7 v 0 s) 0 P (up (up A 4 0) 8 0) (up B 4 0) 0 N (s_I w1 o 5 (Int32.ofInt 0)) (by rw [hl]; omega) (by omega) (fun j hj => by
      rw [pl_get s 7 j v 0 (by omega) hv.1 (Or.inl rfl), Int.add_zero, Nat.zero_add]) hT2 (by rw [u8 _ (by omega) (by omega)]; exact h5) (by rw [up_eq, if_pos rfl]) (by rw [hl, u8 _ (by omega) (by omega), u8 _ (by omega) (by omega)]; omega) (by rw [hl]; omega) (by omega) h2 hPA ?_
    · exact this
    · intro w2 P2 B2 k1 k2 k3 k4 k5
      exact hq hn w2 P2 B2 k1 (fb.trans k2) ⟨k3.1, k3.2.1, k3.2.2.1, k3.2.2.2.1, by have := k3.2.2.2.2; rw [hl] at this; omega⟩ (k4.trans (by rw [up_eq, if_neg (by omega)])) (fun h => k5 (h.c.d8))
  · simp (disch := omega) only [wp_c, wp_n, jj_n, v_ct, Int.reduceToNat, Int.toNat_natCast, stE, wlE, lgt, lpu, lpw, v_c2, va_s, true_and, and_true, Option.toList, List.nil_append, List.cons_append, List.take, List.drop, List.reverse, List.reverseAux, List.length_cons, List.length_nil, reduceCtorEq, false_implies, true_implies, forall_const, not_true_eq_false, not_false_eq_true, ite_true, ite_false, Bool.false_eq_true, I_I, J_J, Nat.add_left_cancel_iff, Nat.reduceEqDiff, Nat.add_eq_left, Nat.left_eq_add, false_and, and_false, Nat.reduceSub, Nat.sub_self, Nat.le_refl, Nat.zero_le, ge_iff_le, Nat.reduceAdd, Nat.reduceLeDiff, Nat.zero_add, Nat.reduceLT, z_lt, z_le, z_eq, z_l0, z_g0, z_le0, z_ge0, z_e0, z_e1, z_vp, z_nc, z_rem, z_div, i_ltT, i_ltF, i_leT, i_leF, i_eqT, i_eqF, n_ltT, n_ltF, n_leT, n_leF, n_eqT, n_eqF, tn_9, tn_12, tn_14, tn_20, tn_28, tn_44, tn_52, tn_68, tn_84, tn_100, tn_116, tn_132, fu_e, up_eq, ob_0, ob_b, oi_add, oi_sub, oi_mul, oi_neg, Int.add_zero, Int.zero_add, or_true, true_or, or_false, false_or, and_self, z_i2l, z_l2i, lo_nat, lo_add, lo_sub, lo_mul, lo_0, e_rem, mr_X10_multiply]
    exact hno hn
-- 51.own
/-! quotients -/
theorem z_dh_30 {b o c : Nat} {N0 : Int} {Q : mW → mO → Prop} {t : Nat} (ht : t ≤ 1000) (hc15 : c ≤ 14) : ∀ (n i k : Nat) (P : Nat → Nat) (A B : Row) (d : Nat) (N : Int) (w : mW), i + n = 10 → k + n ≤ 10 → TS A B N → A 5 = 0 → A 8 = 1 → N + n + 1 ≤ N0 → N0 ≤ 1000000000 → d + n + 1 + 11 * c ≤ 165 → OW w b o P B →
  (∀ w' P' B' d', OW w' b o P' B' → FO b w w' → TS (a_dh n A k).1 B' (N + n + 1) → B' 1000 = B 1000 → (LX A B → LX (a_dh n A k).1 B') → d' ≤ d + n + 1 → (0 < (a_dh n A k).1 5 → Q w' (.inl (some (.int (Int32.ofInt ((t + (a_dh n A k).2 : Nat) : Int)))))) ∧ (¬ 0 < (a_dh n A k).1 5 → ∀ x2 x3, RT n_X10_divide 99 [.ref o, .int (Int32.ofInt ((t + (a_dh n A k).2 : Nat) : Int)), x2, x3] [] w' (825 - 5 * d', 9570 - 58 * d', false) Q)) →
  RT n_X10_divide 30 [.ref o, .int (Int32.ofInt ((t + k : Nat) : Int)), .int (Int32.ofInt 0), .int (Int32.ofInt i)] [] w (825 - 5 * d, 9570 - 58 * d, false) Q := by
  intro n
  induction n with
  | zero =>
    intro i k P A B d N w hi hk hT h5 h8 hN hN0 hd hO hq
    refine rt_X10_divide_30 ?_
    simp (disch := omega) only [wp_c, wp_n, jj_n, v_ct, Int.reduceToNat, Int.toNat_natCast, stE, wlE, lgt, lpu, lpw, v_c2, va_s, true_and, and_true, Option.toList, List.nil_append, List.cons_append, List.take, List.drop, List.reverse, List.reverseAux, List.length_cons, List.length_nil, reduceCtorEq, false_implies, true_implies, forall_const, not_true_eq_false, not_false_eq_true, ite_true, ite_false, Bool.false_eq_true, I_I, J_J, Nat.add_left_cancel_iff, Nat.reduceEqDiff, Nat.add_eq_left, Nat.left_eq_add, false_and, and_false, Nat.reduceSub, Nat.sub_self, Nat.le_refl, Nat.zero_le, ge_iff_le, Nat.reduceAdd, Nat.reduceLeDiff, Nat.zero_add, Nat.reduceLT, z_lt, z_le, z_eq, z_l0, z_g0, z_le0, z_ge0, z_e0, z_e1, z_vp, z_nc, z_rem, z_div, i_ltT, i_ltF, i_leT, i_leF, i_eqT, i_eqF, n_ltT, n_ltF, n_leT, n_leF, n_eqT, n_eqF, tn_9, tn_12, tn_14, tn_20, tn_28, tn_44, tn_52, tn_68, tn_84, tn_100, tn_116, tn_132, fu_e, up_eq, ob_0, ob_b, oi_add, oi_sub, oi_mul, oi_neg, Int.add_zero, Int.zero_add, or_true, true_or, or_false, false_or, and_self, z_i2l, z_l2i, lo_nat, lo_add, lo_sub, lo_mul, lo_0, e_rem]
    refine rt_X10_divide_81 ?_
    simp (disch := omega) only [wp_c, wp_n, jj_n, v_ct, Int.reduceToNat, Int.toNat_natCast, stE, wlE, lgt, lpu, lpw, v_c2, va_s, true_and, and_true, Option.toList, List.nil_append, List.cons_append, List.take, List.drop, List.reverse, List.reverseAux, List.length_cons, List.length_nil, reduceCtorEq, false_implies, true_implies, forall_const, not_true_eq_false, not_false_eq_true, ite_true, ite_false, Bool.false_eq_true, I_I, J_J, Nat.add_left_cancel_iff, Nat.reduceEqDiff, Nat.add_eq_left, Nat.left_eq_add, false_and, and_false, Nat.reduceSub, Nat.sub_self, Nat.le_refl, Nat.zero_le, ge_iff_le, Nat.reduceAdd, Nat.reduceLeDiff, Nat.zero_add, Nat.reduceLT, z_lt, z_le, z_eq, z_l0, z_g0, z_le0, z_ge0, z_e0, z_e1, z_vp, z_nc, z_rem, z_div, i_ltT, i_ltF, i_leT, i_leF, i_eqT, i_eqF, n_ltT, n_ltF, n_leT, n_leF, n_eqT, n_eqF, tn_9, tn_12, tn_14, tn_20, tn_28, tn_44, tn_52, tn_68, tn_84, tn_100, tn_116, tn_132, fu_e, up_eq, ob_0, ob_b, oi_add, oi_sub, oi_mul, oi_neg, Int.add_zero, Int.zero_add, or_true, true_or, or_false, false_or, and_self, z_i2l, z_l2i, lo_nat, lo_add, lo_sub, lo_mul, lo_0, e_rem]
    have := (hq w P B d hO (FO.refl _ _) ⟨hT.1, hT.2.1, hT.2.2.1, hT.2.2.2.1, by have := hT.2.2.2.2; simp only [a_dh]; omega⟩ rfl (fun h => h) (by omega)).2
    simp only [a_dh] at this
    exact this (by omega) _ _
  | succ n ih =>
    intro i k P A B d N w hi hk hT h5 h8 hN hN0 hd hO hq
    have hF := hO.F
    have hRI := hT.1.1
    refine rt_X10_divide_30 ?_
    simp (disch := omega) only [wp_c, wp_n, jj_n, v_ct, Int.reduceToNat, Int.toNat_natCast, stE, wlE, lgt, lpu, lpw, v_c2, va_s, true_and, and_true, Option.toList, List.nil_append, List.cons_append, List.take, List.drop, List.reverse, List.reverseAux, List.length_cons, List.length_nil, reduceCtorEq, false_implies, true_implies, forall_const, not_true_eq_false, not_false_eq_true, ite_true, ite_false, Bool.false_eq_true, I_I, J_J, Nat.add_left_cancel_iff, Nat.reduceEqDiff, Nat.add_eq_left, Nat.left_eq_add, false_and, and_false, Nat.reduceSub, Nat.sub_self, Nat.le_refl, Nat.zero_le, ge_iff_le, Nat.reduceAdd, Nat.reduceLeDiff, Nat.zero_add, Nat.reduceLT, z_lt, z_le, z_eq, z_l0, z_g0, z_le0, z_ge0, z_e0, z_e1, z_vp, z_nc, z_rem, z_div, i_ltT, i_ltF, i_leT, i_leF, i_eqT, i_eqF, n_ltT, n_ltF, n_leT, n_leF, n_eqT, n_eqF, tn_9, tn_12, tn_14, tn_20, tn_28, tn_44, tn_52, tn_68, tn_84, tn_100, tn_116, tn_132, fu_e, up_eq, ob_0, ob_b, oi_add, oi_sub, oi_mul, oi_neg, Int.add_zero, Int.zero_add, or_true, true_or, or_false, false_or, and_self, z_i2l, z_l2i, lo_nat, lo_add, lo_sub, lo_mul, lo_0, e_rem, hF.1, mh_X10_divide]
    try refine ⟨by omega, by omega, ?_⟩
    refine z_turn2 (way := -1) (dv := 1) hO hT h8 (Or.inr rfl) (by omega) ?_
    intro w1 P1 B1 m1 m2 m3 m4 m5 m6 m7 m8 m9
    have o5 := one_5 (way := -1) hRI.1 (Or.inr rfl) hRI.2.2.1
    have g1 : 825 - 5 * d - 5 = 825 - 5 * (d + 1) := by omega
    have g2 : 9570 - 58 * d - 58 = 9570 - 58 * (d + 1) := by omega
    rw [a_dh] at hq
    cases ho : (a_one A (-1)).2.1 with
    | some y =>
      rw [ho] at hq o5
      simp only at hq o5
      simp (disch := omega) only [wp_c, wp_n, jj_n, v_ct, Int.reduceToNat, Int.toNat_natCast, stE, wlE, lgt, lpu, lpw, v_c2, va_s, true_and, and_true, Option.toList, List.nil_append, List.cons_append, List.take, List.drop, List.reverse, List.reverseAux, List.length_cons, List.length_nil, reduceCtorEq, false_implies, true_implies, forall_const, not_true_eq_false, not_false_eq_true, ite_true, ite_false, Bool.false_eq_true, I_I, J_J, Nat.add_left_cancel_iff, Nat.reduceEqDiff, Nat.add_eq_left, Nat.left_eq_add, false_and, and_false, Nat.reduceSub, Nat.sub_self, Nat.le_refl, Nat.zero_le, ge_iff_le, Nat.reduceAdd, Nat.reduceLeDiff, Nat.zero_add, Nat.reduceLT, z_lt, z_le, z_eq, z_l0, z_g0, z_le0, z_ge0, z_e0, z_e1, z_vp, z_nc, z_rem, z_div, i_ltT, i_ltF, i_leT, i_leF, i_eqT, i_eqF, n_ltT, n_ltF, n_leT, n_leF, n_eqT, n_eqF, tn_9, tn_12, tn_14, tn_20, tn_28, tn_44, tn_52, tn_68, tn_84, tn_100, tn_116, tn_132, fu_e, up_eq, ob_0, ob_b, oi_add, oi_sub, oi_mul, oi_neg, Int.add_zero, Int.zero_add, or_true, true_or, or_false, false_or, and_self, z_i2l, z_l2i, lo_nat, lo_add, lo_sub, lo_mul, lo_0, e_rem, g1, g2, mr_X10_divide]
      exact (hq w1 P1 B1 (d + 1) m1 m2 ⟨m3.1, m3.2.1, m3.2.2.1, m3.2.2.2.1, by have := m3.2.2.2.2; omega⟩ m5 m9 (by omega)).1 o5
    | none =>
      rw [ho] at hq o5
      simp only at hq o5
      have h9 := m3.1.2.2.1
      have hV1 := m1.V
      have hF1 := m1.F
      have e14 : w_I w1 (P1 21) 2 = Int32.ofInt (a_fin (a_one A (-1)) 14) := by
        have := hV1.2.2.2.2.2.2.2.2.1 2 (by omega)
        rw [this, m3.2.1.1.cts (j := 2) (by omega)]
      have e1042 : w_I w1 (P1 23) 2 = Int32.ofInt (a_fin (a_one A (-1)) 14 - a_fin (a_one A (-1)) 9) := by
        have := hV1.2.2.2.2.2.2.2.2.2.2 2 (by omega)
        rw [this, m4]
      have hb14 := m3.2.2.2
      simp (disch := omega) only [wp_c, wp_n, jj_n, v_ct, Int.reduceToNat, Int.toNat_natCast, stE, wlE, lgt, lpu, lpw, v_c2, va_s, true_and, and_true, Option.toList, List.nil_append, List.cons_append, List.take, List.drop, List.reverse, List.reverseAux, List.length_cons, List.length_nil, reduceCtorEq, false_implies, true_implies, forall_const, not_true_eq_false, not_false_eq_true, ite_true, ite_false, Bool.false_eq_true, I_I, J_J, Nat.add_left_cancel_iff, Nat.reduceEqDiff, Nat.add_eq_left, Nat.left_eq_add, false_and, and_false, Nat.reduceSub, Nat.sub_self, Nat.le_refl, Nat.zero_le, ge_iff_le, Nat.reduceAdd, Nat.reduceLeDiff, Nat.zero_add, Nat.reduceLT, z_lt, z_le, z_eq, z_l0, z_g0, z_le0, z_ge0, z_e0, z_e1, z_vp, z_nc, z_rem, z_div, i_ltT, i_ltF, i_leT, i_leF, i_eqT, i_eqF, n_ltT, n_ltF, n_leT, n_leF, n_eqT, n_eqF, tn_9, tn_12, tn_14, tn_20, tn_28, tn_44, tn_52, tn_68, tn_84, tn_100, tn_116, tn_132, fu_e, up_eq, ob_0, ob_b, oi_add, oi_sub, oi_mul, oi_neg, Int.add_zero, Int.zero_add, or_true, true_or, or_false, false_or, and_self, z_i2l, z_l2i, lo_nat, lo_add, lo_sub, lo_mul, lo_0, e_rem, g1, g2]
      refine rt_X10_divide_51 ?_
      have hc1 : (((t + k : Nat) : Int) + 1) = ((t + (k + 1) : Nat) : Int) := by omega
      simp (disch := omega) only [wp_c, wp_n, jj_n, v_ct, Int.reduceToNat, Int.toNat_natCast, stE, wlE, lgt, lpu, lpw, v_c2, va_s, true_and, and_true, Option.toList, List.nil_append, List.cons_append, List.take, List.drop, List.reverse, List.reverseAux, List.length_cons, List.length_nil, reduceCtorEq, false_implies, true_implies, forall_const, not_true_eq_false, not_false_eq_true, ite_true, ite_false, Bool.false_eq_true, I_I, J_J, Nat.add_left_cancel_iff, Nat.reduceEqDiff, Nat.add_eq_left, Nat.left_eq_add, false_and, and_false, Nat.reduceSub, Nat.sub_self, Nat.le_refl, Nat.zero_le, ge_iff_le, Nat.reduceAdd, Nat.reduceLeDiff, Nat.zero_add, Nat.reduceLT, z_lt, z_le, z_eq, z_l0, z_g0, z_le0, z_ge0, z_e0, z_e1, z_vp, z_nc, z_rem, z_div, i_ltT, i_ltF, i_leT, i_leF, i_eqT, i_eqF, n_ltT, n_ltF, n_leT, n_leF, n_eqT, n_eqF, tn_9, tn_12, tn_14, tn_20, tn_28, tn_44, tn_52, tn_68, tn_84, tn_100, tn_116, tn_132, fu_e, up_eq, ob_0, ob_b, oi_add, oi_sub, oi_mul, oi_neg, Int.add_zero, Int.zero_add, or_true, true_or, or_false, false_or, and_self, z_i2l, z_l2i, lo_nat, lo_add, lo_sub, lo_mul, lo_0, e_rem, hF1, e14, e1042, hc1]
      by_cases h0 : 0 < a_fin (a_one A (-1)) 9
      · have h91 : a_fin (a_one A (-1)) 9 = 1 := by omega
        rw [if_pos h0] at hq
        simp (disch := omega) only [wp_c, wp_n, jj_n, v_ct, Int.reduceToNat, Int.toNat_natCast, stE, wlE, lgt, lpu, lpw, v_c2, va_s, true_and, and_true, Option.toList, List.nil_append, List.cons_append, List.take, List.drop, List.reverse, List.reverseAux, List.length_cons, List.length_nil, reduceCtorEq, false_implies, true_implies, forall_const, not_true_eq_false, not_false_eq_true, ite_true, ite_false, Bool.false_eq_true, I_I, J_J, Nat.add_left_cancel_iff, Nat.reduceEqDiff, Nat.add_eq_left, Nat.left_eq_add, false_and, and_false, Nat.reduceSub, Nat.sub_self, Nat.le_refl, Nat.zero_le, ge_iff_le, Nat.reduceAdd, Nat.reduceLeDiff, Nat.zero_add, Nat.reduceLT, z_lt, z_le, z_eq, z_l0, z_g0, z_le0, z_ge0, z_e0, z_e1, z_vp, z_nc, z_rem, z_div, i_ltT, i_ltF, i_leT, i_leF, i_eqT, i_eqF, n_ltT, n_ltF, n_leT, n_leF, n_eqT, n_eqF, tn_9, tn_12, tn_14, tn_20, tn_28, tn_44, tn_52, tn_68, tn_84, tn_100, tn_116, tn_132, fu_e, up_eq, ob_0, ob_b, oi_add, oi_sub, oi_mul, oi_neg, Int.add_zero, Int.zero_add, or_true, true_or, or_false, false_or, and_self, z_i2l, z_l2i, lo_nat, lo_add, lo_sub, lo_mul, lo_0, e_rem, h91]
        refine rt_X10_divide_74 ?_
        simp (disch := omega) only [wp_c, wp_n, jj_n, v_ct, Int.reduceToNat, Int.toNat_natCast, stE, wlE, lgt, lpu, lpw, v_c2, va_s, true_and, and_true, Option.toList, List.nil_append, List.cons_append, List.take, List.drop, List.reverse, List.reverseAux, List.length_cons, List.length_nil, reduceCtorEq, false_implies, true_implies, forall_const, not_true_eq_false, not_false_eq_true, ite_true, ite_false, Bool.false_eq_true, I_I, J_J, Nat.add_left_cancel_iff, Nat.reduceEqDiff, Nat.add_eq_left, Nat.left_eq_add, false_and, and_false, Nat.reduceSub, Nat.sub_self, Nat.le_refl, Nat.zero_le, ge_iff_le, Nat.reduceAdd, Nat.reduceLeDiff, Nat.zero_add, Nat.reduceLT, z_lt, z_le, z_eq, z_l0, z_g0, z_le0, z_ge0, z_e0, z_e1, z_vp, z_nc, z_rem, z_div, i_ltT, i_ltF, i_leT, i_leF, i_eqT, i_eqF, n_ltT, n_ltF, n_leT, n_leF, n_eqT, n_eqF, tn_9, tn_12, tn_14, tn_20, tn_28, tn_44, tn_52, tn_68, tn_84, tn_100, tn_116, tn_132, fu_e, up_eq, ob_0, ob_b, oi_add, oi_sub, oi_mul, oi_neg, Int.add_zero, Int.zero_add, or_true, true_or, or_false, false_or, and_self, z_i2l, z_l2i, lo_nat, lo_add, lo_sub, lo_mul, lo_0, e_rem]
        have h81 : RT n_X10_divide 81 [.ref o, .int (Int32.ofInt ((t + (k + 1) : Nat) : Int)), .int (Int32.ofInt 1), .int (Int32.ofInt ((i : Int) + 1))] [] w1 (825 - 5 * (d + 1), 9570 - 58 * (d + 1), false) Q := by
          refine rt_X10_divide_81 ?_
          simp (disch := omega) only [wp_c, wp_n, jj_n, v_ct, Int.reduceToNat, Int.toNat_natCast, stE, wlE, lgt, lpu, lpw, v_c2, va_s, true_and, and_true, Option.toList, List.nil_append, List.cons_append, List.take, List.drop, List.reverse, List.reverseAux, List.length_cons, List.length_nil, reduceCtorEq, false_implies, true_implies, forall_const, not_true_eq_false, not_false_eq_true, ite_true, ite_false, Bool.false_eq_true, I_I, J_J, Nat.add_left_cancel_iff, Nat.reduceEqDiff, Nat.add_eq_left, Nat.left_eq_add, false_and, and_false, Nat.reduceSub, Nat.sub_self, Nat.le_refl, Nat.zero_le, ge_iff_le, Nat.reduceAdd, Nat.reduceLeDiff, Nat.zero_add, Nat.reduceLT, z_lt, z_le, z_eq, z_l0, z_g0, z_le0, z_ge0, z_e0, z_e1, z_vp, z_nc, z_rem, z_div, i_ltT, i_ltF, i_leT, i_leF, i_eqT, i_eqF, n_ltT, n_ltF, n_leT, n_leF, n_eqT, n_eqF, tn_9, tn_12, tn_14, tn_20, tn_28, tn_44, tn_52, tn_68, tn_84, tn_100, tn_116, tn_132, fu_e, up_eq, ob_0, ob_b, oi_add, oi_sub, oi_mul, oi_neg, Int.add_zero, Int.zero_add, or_true, true_or, or_false, false_or, and_self, z_i2l, z_l2i, lo_nat, lo_add, lo_sub, lo_mul, lo_0, e_rem, hF1.1, mh_X10_divide]
          try refine ⟨by omega, by omega, ?_⟩
          refine z_turn2 (way := 1) (dv := 1) m1 m3 (m6.trans h8) (Or.inl rfl) (by omega) ?_
          intro w2 P2 B2 k1 k2 k3 k4 k5 k6 k7 k8 k9
          have hRI2 := m3.1.1
          have o52 := one_5 (way := 1) hRI2.1 (Or.inl rfl) hRI2.2.2.1
          have g3 : 825 - 5 * (d + 1) - 5 = 825 - 5 * (d + 2) := by omega
          have g4 : 9570 - 58 * (d + 1) - 58 = 9570 - 58 * (d + 2) := by omega
          cases ho2 : (a_one (a_fin (a_one A (-1))) 1).2.1 with
          | some y =>
            rw [ho2] at hq o52
            simp only at hq o52
            simp (disch := omega) only [wp_c, wp_n, jj_n, v_ct, Int.reduceToNat, Int.toNat_natCast, stE, wlE, lgt, lpu, lpw, v_c2, va_s, true_and, and_true, Option.toList, List.nil_append, List.cons_append, List.take, List.drop, List.reverse, List.reverseAux, List.length_cons, List.length_nil, reduceCtorEq, false_implies, true_implies, forall_const, not_true_eq_false, not_false_eq_true, ite_true, ite_false, Bool.false_eq_true, I_I, J_J, Nat.add_left_cancel_iff, Nat.reduceEqDiff, Nat.add_eq_left, Nat.left_eq_add, false_and, and_false, Nat.reduceSub, Nat.sub_self, Nat.le_refl, Nat.zero_le, ge_iff_le, Nat.reduceAdd, Nat.reduceLeDiff, Nat.zero_add, Nat.reduceLT, z_lt, z_le, z_eq, z_l0, z_g0, z_le0, z_ge0, z_e0, z_e1, z_vp, z_nc, z_rem, z_div, i_ltT, i_ltF, i_leT, i_leF, i_eqT, i_eqF, n_ltT, n_ltF, n_leT, n_leF, n_eqT, n_eqF, tn_9, tn_12, tn_14, tn_20, tn_28, tn_44, tn_52, tn_68, tn_84, tn_100, tn_116, tn_132, fu_e, up_eq, ob_0, ob_b, oi_add, oi_sub, oi_mul, oi_neg, Int.add_zero, Int.zero_add, or_true, true_or, or_false, false_or, and_self, z_i2l, z_l2i, lo_nat, lo_add, lo_sub, lo_mul, lo_0, e_rem, g3, g4, mr_X10_divide]
            exact (hq w2 P2 B2 (d + 2) k1 (m2.trans k2) ⟨k3.1, k3.2.1, k3.2.2.1, k3.2.2.2.1, by have := k3.2.2.2.2; omega⟩ (k5.trans m5) (fun h => k9 (m9 h)) (by omega)).1 o52
          | none =>
            rw [ho2] at hq o52
            simp only at hq o52
            simp (disch := omega) only [wp_c, wp_n, jj_n, v_ct, Int.reduceToNat, Int.toNat_natCast, stE, wlE, lgt, lpu, lpw, v_c2, va_s, true_and, and_true, Option.toList, List.nil_append, List.cons_append, List.take, List.drop, List.reverse, List.reverseAux, List.length_cons, List.length_nil, reduceCtorEq, false_implies, true_implies, forall_const, not_true_eq_false, not_false_eq_true, ite_true, ite_false, Bool.false_eq_true, I_I, J_J, Nat.add_left_cancel_iff, Nat.reduceEqDiff, Nat.add_eq_left, Nat.left_eq_add, false_and, and_false, Nat.reduceSub, Nat.sub_self, Nat.le_refl, Nat.zero_le, ge_iff_le, Nat.reduceAdd, Nat.reduceLeDiff, Nat.zero_add, Nat.reduceLT, z_lt, z_le, z_eq, z_l0, z_g0, z_le0, z_ge0, z_e0, z_e1, z_vp, z_nc, z_rem, z_div, i_ltT, i_ltF, i_leT, i_leF, i_eqT, i_eqF, n_ltT, n_ltF, n_leT, n_leF, n_eqT, n_eqF, tn_9, tn_12, tn_14, tn_20, tn_28, tn_44, tn_52, tn_68, tn_84, tn_100, tn_116, tn_132, fu_e, up_eq, ob_0, ob_b, oi_add, oi_sub, oi_mul, oi_neg, Int.add_zero, Int.zero_add, or_true, true_or, or_false, false_or, and_self, z_i2l, z_l2i, lo_nat, lo_add, lo_sub, lo_mul, lo_0, e_rem, g3, g4]
            refine rt_X10_divide_96 ?_
            have hc2 : (((t + (k + 1) : Nat) : Int) + 1) = ((t + (k + 2) : Nat) : Int) := by omega
            simp (disch := omega) only [wp_c, wp_n, jj_n, v_ct, Int.reduceToNat, Int.toNat_natCast, stE, wlE, lgt, lpu, lpw, v_c2, va_s, true_and, and_true, Option.toList, List.nil_append, List.cons_append, List.take, List.drop, List.reverse, List.reverseAux, List.length_cons, List.length_nil, reduceCtorEq, false_implies, true_implies, forall_const, not_true_eq_false, not_false_eq_true, ite_true, ite_false, Bool.false_eq_true, I_I, J_J, Nat.add_left_cancel_iff, Nat.reduceEqDiff, Nat.add_eq_left, Nat.left_eq_add, false_and, and_false, Nat.reduceSub, Nat.sub_self, Nat.le_refl, Nat.zero_le, ge_iff_le, Nat.reduceAdd, Nat.reduceLeDiff, Nat.zero_add, Nat.reduceLT, z_lt, z_le, z_eq, z_l0, z_g0, z_le0, z_ge0, z_e0, z_e1, z_vp, z_nc, z_rem, z_div, i_ltT, i_ltF, i_leT, i_leF, i_eqT, i_eqF, n_ltT, n_ltF, n_leT, n_leF, n_eqT, n_eqF, tn_9, tn_12, tn_14, tn_20, tn_28, tn_44, tn_52, tn_68, tn_84, tn_100, tn_116, tn_132, fu_e, up_eq, ob_0, ob_b, oi_add, oi_sub, oi_mul, oi_neg, Int.add_zero, Int.zero_add, or_true, true_or, or_false, false_or, and_self, z_i2l, z_l2i, lo_nat, lo_add, lo_sub, lo_mul, lo_0, e_rem, hc2]
            exact (hq w2 P2 B2 (d + 2) k1 (m2.trans k2) ⟨k3.1, k3.2.1, k3.2.2.1, k3.2.2.2.1, by have := k3.2.2.2.2; omega⟩ (k5.trans m5) (fun h => k9 (m9 h)) (by omega)).2 (by omega) _ _
        refine rt_X10_divide_30 ?_
        by_cases hi9 : i = 9
        · subst hi9
          simp (disch := omega) only [wp_c, wp_n, jj_n, v_ct, Int.reduceToNat, Int.toNat_natCast, stE, wlE, lgt, lpu, lpw, v_c2, va_s, true_and, and_true, Option.toList, List.nil_append, List.cons_append, List.take, List.drop, List.reverse, List.reverseAux, List.length_cons, List.length_nil, reduceCtorEq, false_implies, true_implies, forall_const, not_true_eq_false, not_false_eq_true, ite_true, ite_false, Bool.false_eq_true, I_I, J_J, Nat.add_left_cancel_iff, Nat.reduceEqDiff, Nat.add_eq_left, Nat.left_eq_add, false_and, and_false, Nat.reduceSub, Nat.sub_self, Nat.le_refl, Nat.zero_le, ge_iff_le, Nat.reduceAdd, Nat.reduceLeDiff, Nat.zero_add, Nat.reduceLT, z_lt, z_le, z_eq, z_l0, z_g0, z_le0, z_ge0, z_e0, z_e1, z_vp, z_nc, z_rem, z_div, i_ltT, i_ltF, i_leT, i_leF, i_eqT, i_eqF, n_ltT, n_ltF, n_leT, n_leF, n_eqT, n_eqF, tn_9, tn_12, tn_14, tn_20, tn_28, tn_44, tn_52, tn_68, tn_84, tn_100, tn_116, tn_132, fu_e, up_eq, ob_0, ob_b, oi_add, oi_sub, oi_mul, oi_neg, Int.add_zero, Int.zero_add, or_true, true_or, or_false, false_or, and_self, z_i2l, z_l2i, lo_nat, lo_add, lo_sub, lo_mul, lo_0, e_rem]
          simpa using h81
        · simp (disch := omega) only [wp_c, wp_n, jj_n, v_ct, Int.reduceToNat, Int.toNat_natCast, stE, wlE, lgt, lpu, lpw, v_c2, va_s, true_and, and_true, Option.toList, List.nil_append, List.cons_append, List.take, List.drop, List.reverse, List.reverseAux, List.length_cons, List.length_nil, reduceCtorEq, false_implies, true_implies, forall_const, not_true_eq_false, not_false_eq_true, ite_true, ite_false, Bool.false_eq_true, I_I, J_J, Nat.add_left_cancel_iff, Nat.reduceEqDiff, Nat.add_eq_left, Nat.left_eq_add, false_and, and_false, Nat.reduceSub, Nat.sub_self, Nat.le_refl, Nat.zero_le, ge_iff_le, Nat.reduceAdd, Nat.reduceLeDiff, Nat.zero_add, Nat.reduceLT, z_lt, z_le, z_eq, z_l0, z_g0, z_le0, z_ge0, z_e0, z_e1, z_vp, z_nc, z_rem, z_div, i_ltT, i_ltF, i_leT, i_leF, i_eqT, i_eqF, n_ltT, n_ltF, n_leT, n_leF, n_eqT, n_eqF, tn_9, tn_12, tn_14, tn_20, tn_28, tn_44, tn_52, tn_68, tn_84, tn_100, tn_116, tn_132, fu_e, up_eq, ob_0, ob_b, oi_add, oi_sub, oi_mul, oi_neg, Int.add_zero, Int.zero_add, or_true, true_or, or_false, false_or, and_self, z_i2l, z_l2i, lo_nat, lo_add, lo_sub, lo_mul, lo_0, e_rem]
          exact h81
      · have h90 : a_fin (a_one A (-1)) 9 = 0 := by omega
        rw [if_neg h0] at hq
        simp (disch := omega) only [wp_c, wp_n, jj_n, v_ct, Int.reduceToNat, Int.toNat_natCast, stE, wlE, lgt, lpu, lpw, v_c2, va_s, true_and, and_true, Option.toList, List.nil_append, List.cons_append, List.take, List.drop, List.reverse, List.reverseAux, List.length_cons, List.length_nil, reduceCtorEq, false_implies, true_implies, forall_const, not_true_eq_false, not_false_eq_true, ite_true, ite_false, Bool.false_eq_true, I_I, J_J, Nat.add_left_cancel_iff, Nat.reduceEqDiff, Nat.add_eq_left, Nat.left_eq_add, false_and, and_false, Nat.reduceSub, Nat.sub_self, Nat.le_refl, Nat.zero_le, ge_iff_le, Nat.reduceAdd, Nat.reduceLeDiff, Nat.zero_add, Nat.reduceLT, z_lt, z_le, z_eq, z_l0, z_g0, z_le0, z_ge0, z_e0, z_e1, z_vp, z_nc, z_rem, z_div, i_ltT, i_ltF, i_leT, i_leF, i_eqT, i_eqF, n_ltT, n_ltF, n_leT, n_leF, n_eqT, n_eqF, tn_9, tn_12, tn_14, tn_20, tn_28, tn_44, tn_52, tn_68, tn_84, tn_100, tn_116, tn_132, fu_e, up_eq, ob_0, ob_b, oi_add, oi_sub, oi_mul, oi_neg, Int.add_zero, Int.zero_add, or_true, true_or, or_false, false_or, and_self, z_i2l, z_l2i, lo_nat, lo_add, lo_sub, lo_mul, lo_0, e_rem, h90]
        refine rt_X10_divide_73 ?_
        simp (disch := omega) only [wp_c, wp_n, jj_n, v_ct, Int.reduceToNat, Int.toNat_natCast, stE, wlE, lgt, lpu, lpw, v_c2, va_s, true_and, and_true, Option.toList, List.nil_append, List.cons_append, List.take, List.drop, List.reverse, List.reverseAux, List.length_cons, List.length_nil, reduceCtorEq, false_implies, true_implies, forall_const, not_true_eq_false, not_false_eq_true, ite_true, ite_false, Bool.false_eq_true, I_I, J_J, Nat.add_left_cancel_iff, Nat.reduceEqDiff, Nat.add_eq_left, Nat.left_eq_add, false_and, and_false, Nat.reduceSub, Nat.sub_self, Nat.le_refl, Nat.zero_le, ge_iff_le, Nat.reduceAdd, Nat.reduceLeDiff, Nat.zero_add, Nat.reduceLT, z_lt, z_le, z_eq, z_l0, z_g0, z_le0, z_ge0, z_e0, z_e1, z_vp, z_nc, z_rem, z_div, i_ltT, i_ltF, i_leT, i_leF, i_eqT, i_eqF, n_ltT, n_ltF, n_leT, n_leF, n_eqT, n_eqF, tn_9, tn_12, tn_14, tn_20, tn_28, tn_44, tn_52, tn_68, tn_84, tn_100, tn_116, tn_132, fu_e, up_eq, ob_0, ob_b, oi_add, oi_sub, oi_mul, oi_neg, Int.add_zero, Int.zero_add, or_true, true_or, or_false, false_or, and_self, z_i2l, z_l2i, lo_nat, lo_add, lo_sub, lo_mul, lo_0, e_rem]
        refine rt_X10_divide_74 ?_
        simp (disch := omega) only [wp_c, wp_n, jj_n, v_ct, Int.reduceToNat, Int.toNat_natCast, stE, wlE, lgt, lpu, lpw, v_c2, va_s, true_and, and_true, Option.toList, List.nil_append, List.cons_append, List.take, List.drop, List.reverse, List.reverseAux, List.length_cons, List.length_nil, reduceCtorEq, false_implies, true_implies, forall_const, not_true_eq_false, not_false_eq_true, ite_true, ite_false, Bool.false_eq_true, I_I, J_J, Nat.add_left_cancel_iff, Nat.reduceEqDiff, Nat.add_eq_left, Nat.left_eq_add, false_and, and_false, Nat.reduceSub, Nat.sub_self, Nat.le_refl, Nat.zero_le, ge_iff_le, Nat.reduceAdd, Nat.reduceLeDiff, Nat.zero_add, Nat.reduceLT, z_lt, z_le, z_eq, z_l0, z_g0, z_le0, z_ge0, z_e0, z_e1, z_vp, z_nc, z_rem, z_div, i_ltT, i_ltF, i_leT, i_leF, i_eqT, i_eqF, n_ltT, n_ltF, n_leT, n_leF, n_eqT, n_eqF, tn_9, tn_12, tn_14, tn_20, tn_28, tn_44, tn_52, tn_68, tn_84, tn_100, tn_116, tn_132, fu_e, up_eq, ob_0, ob_b, oi_add, oi_sub, oi_mul, oi_neg, Int.add_zero, Int.zero_add, or_true, true_or, or_false, false_or, and_self, z_i2l, z_l2i, lo_nat, lo_add, lo_sub, lo_mul, lo_0, e_rem]
        have := ih (i + 1) (k + 1) P1 (a_fin (a_one A (-1))) B1 (d + 1) (N + 1) w1 (by omega) (by omega) m3 o5 (m6.trans h8) (by omega) hN0 (by omega) m1 ?_
        · exact this
        · intro w2 P2 B2 d2 q1 q2 q3 q4 q5 q6
          exact hq w2 P2 B2 d2 q1 (m2.trans q2) (by rw [show N + ((n + 1 : Nat) : Int) + 1 = N + 1 + n + 1 by omega]; exact q3) (q4.trans m5) (fun h => q5 (m9 h)) (by omega)
theorem dh_2 : ∀ (n : Nat) (A : Row) (k : Nat), (a_dh n A k).2 ≤ k + n + 1 := by
  intro n
  induction n with
  | zero => intro A k; simp only [a_dh]; omega
  | succ n ih =>
    intro A k
    rw [a_dh]
    split
    · simp only; omega
    · split
      · split <;> simp only <;> omega
      · have := ih (a_fin (a_one A (-1))) (k + 1); omega
theorem z_dv_26 {b o : Nat} {N0 : Int} {Q : mW → mO → Prop} (hN0 : N0 ≤ 1000000000) : ∀ (c : Nat) (P : Nat → Nat) (A B : Row) (t d : Nat) (N : Int) (w : mW) (v2 v3 : Value), c ≤ 14 → t + 11 * c ≤ 900 → TS (up A 4 (c : Int)) B N → A 5 = 0 → A 8 = 1 → (c : Int) + A 0 ≤ A 1 → N + 11 * (c + 1) ≤ N0 → d + 11 * (c + 1) ≤ 165 → OW w b o P B →
  (∀ w' P' B', OW w' b o P' B' → FO b w w' → TS (a_dv (c + 1) A t).1 B' (N + 11 * (c + 1)) → B' 1000 = B 1000 → (LX (up A 4 (c : Int)) B → LX (a_dv (c + 1) A t).1 B') → Q w' (.inl (some (.int (Int32.ofInt (a_dv (c + 1) A t).2))))) →
  RT n_X10_divide 26 [.ref o, .int (Int32.ofInt t), v2, v3] [] w (825 - 5 * d, 9570 - 58 * d, false) Q := by
  intro c
  induction c with
  | zero =>
    intro P A B t d N w v2 v3 hc ht hT h5 h8 hca hN hd hO hq
    have u : ∀ j, ¬ j = 4 → up A 4 ((0 : Nat) : Int) j = A j := fun j hj => by rw [up_eq, if_neg hj]
    refine rt_X10_divide_26 ?_
    simp (disch := omega) only [wp_c, wp_n, jj_n, v_ct, Int.reduceToNat, Int.toNat_natCast, stE, wlE, lgt, lpu, lpw, v_c2, va_s, true_and, and_true, Option.toList, List.nil_append, List.cons_append, List.take, List.drop, List.reverse, List.reverseAux, List.length_cons, List.length_nil, reduceCtorEq, false_implies, true_implies, forall_const, not_true_eq_false, not_false_eq_true, ite_true, ite_false, Bool.false_eq_true, I_I, J_J, Nat.add_left_cancel_iff, Nat.reduceEqDiff, Nat.add_eq_left, Nat.left_eq_add, false_and, and_false, Nat.reduceSub, Nat.sub_self, Nat.le_refl, Nat.zero_le, ge_iff_le, Nat.reduceAdd, Nat.reduceLeDiff, Nat.zero_add, Nat.reduceLT, z_lt, z_le, z_eq, z_l0, z_g0, z_le0, z_ge0, z_e0, z_e1, z_vp, z_nc, z_rem, z_div, i_ltT, i_ltF, i_leT, i_leF, i_eqT, i_eqF, n_ltT, n_ltF, n_leT, n_leF, n_eqT, n_eqF, tn_9, tn_12, tn_14, tn_20, tn_28, tn_44, tn_52, tn_68, tn_84, tn_100, tn_116, tn_132, fu_e, up_eq, ob_0, ob_b, oi_add, oi_sub, oi_mul, oi_neg, Int.add_zero, Int.zero_add, or_true, true_or, or_false, false_or, and_self, z_i2l, z_l2i, lo_nat, lo_add, lo_sub, lo_mul, lo_0, e_rem]
    have := z_dh_30 (b := b) (o := o) (c := 0) (N0 := N0) (Q := Q) (t := t) (by omega) (by omega) 10 0 0 P (up A 4 ((0 : Nat) : Int)) B d N w (by omega) (by omega) hT (by rw [u _ (by omega)]; exact h5) (by rw [u _ (by omega)]; exact h8) (by omega) hN0 (by omega) hO ?_
    · exact this
    · intro w1 P1 B1 d1 m1 m2 m3 m4 m5 m6
      have h4 := (dh_RI 10 (up A 4 ((0 : Nat) : Int)) 0 hT.1.1 (by rw [u _ (by omega)]; omega) (by rw [u _ (by omega)]; omega)).2.1 4 (by omega)
      rw [up_eq, if_pos rfl] at h4
      rw [a_dv] at hq
      have hx := dh_2 10 (up A 4 ((0 : Nat) : Int)) 0
      by_cases hj : 0 < (a_dh 10 (up A 4 ((0 : Nat) : Int)) 0).1 5
      · rw [if_pos hj] at hq
        refine ⟨fun _ => hq w1 P1 B1 m1 m2 ⟨m3.1, m3.2.1, m3.2.2.1, m3.2.2.2.1, by have := m3.2.2.2.2; simp only; omega⟩ m4 m5, fun q => absurd hj q⟩
      · rw [if_neg hj] at hq
        refine ⟨fun q => absurd q hj, fun _ x2 x3 => ?_⟩
        have hV1 := m1.V
        have hF1 := m1.F
        have b4 : B1 4 = 0 := by rw [m3.2.1.1.sz.2.2.2.2, h4]; rfl
        refine rt_X10_divide_99 ?_
        simp (disch := omega) only [wp_c, wp_n, jj_n, v_ct, Int.reduceToNat, Int.toNat_natCast, stE, wlE, lgt, lpu, lpw, v_c2, va_s, true_and, and_true, Option.toList, List.nil_append, List.cons_append, List.take, List.drop, List.reverse, List.reverseAux, List.length_cons, List.length_nil, reduceCtorEq, false_implies, true_implies, forall_const, not_true_eq_false, not_false_eq_true, ite_true, ite_false, Bool.false_eq_true, I_I, J_J, Nat.add_left_cancel_iff, Nat.reduceEqDiff, Nat.add_eq_left, Nat.left_eq_add, false_and, and_false, Nat.reduceSub, Nat.sub_self, Nat.le_refl, Nat.zero_le, ge_iff_le, Nat.reduceAdd, Nat.reduceLeDiff, Nat.zero_add, Nat.reduceLT, z_lt, z_le, z_eq, z_l0, z_g0, z_le0, z_ge0, z_e0, z_e1, z_vp, z_nc, z_rem, z_div, i_ltT, i_ltF, i_leT, i_leF, i_eqT, i_eqF, n_ltT, n_ltF, n_leT, n_leF, n_eqT, n_eqF, tn_9, tn_12, tn_14, tn_20, tn_28, tn_44, tn_52, tn_68, tn_84, tn_100, tn_116, tn_132, fu_e, up_eq, ob_0, ob_b, oi_add, oi_sub, oi_mul, oi_neg, Int.add_zero, Int.zero_add, or_true, true_or, or_false, false_or, and_self, z_i2l, z_l2i, lo_nat, lo_add, lo_sub, lo_mul, lo_0, e_rem, hF1.1, hV1.1, b4, mr_X10_divide]
        have := hq w1 P1 B1 m1 m2 (by simp only [a_dv]; exact ⟨m3.1, m3.2.1, m3.2.2.1, m3.2.2.2.1, by have := m3.2.2.2.2; omega⟩) m4 (by simp only [a_dv]; exact m5)
        simpa only [a_dv] using this
  | succ c ih =>
    intro P A B t d N w v2 v3 hc ht hT h5 h8 hca hN hd hO hq
    have u : ∀ j, ¬ j = 4 → up A 4 ((c + 1 : Nat) : Int) j = A j := fun j hj => by rw [up_eq, if_neg hj]
    refine rt_X10_divide_26 ?_
    simp (disch := omega) only [wp_c, wp_n, jj_n, v_ct, Int.reduceToNat, Int.toNat_natCast, stE, wlE, lgt, lpu, lpw, v_c2, va_s, true_and, and_true, Option.toList, List.nil_append, List.cons_append, List.take, List.drop, List.reverse, List.reverseAux, List.length_cons, List.length_nil, reduceCtorEq, false_implies, true_implies, forall_const, not_true_eq_false, not_false_eq_true, ite_true, ite_false, Bool.false_eq_true, I_I, J_J, Nat.add_left_cancel_iff, Nat.reduceEqDiff, Nat.add_eq_left, Nat.left_eq_add, false_and, and_false, Nat.reduceSub, Nat.sub_self, Nat.le_refl, Nat.zero_le, ge_iff_le, Nat.reduceAdd, Nat.reduceLeDiff, Nat.zero_add, Nat.reduceLT, z_lt, z_le, z_eq, z_l0, z_g0, z_le0, z_ge0, z_e0, z_e1, z_vp, z_nc, z_rem, z_div, i_ltT, i_ltF, i_leT, i_leF, i_eqT, i_eqF, n_ltT, n_ltF, n_leT, n_leF, n_eqT, n_eqF, tn_9, tn_12, tn_14, tn_20, tn_28, tn_44, tn_52, tn_68, tn_84, tn_100, tn_116, tn_132, fu_e, up_eq, ob_0, ob_b, oi_add, oi_sub, oi_mul, oi_neg, Int.add_zero, Int.zero_add, or_true, true_or, or_false, false_or, and_self, z_i2l, z_l2i, lo_nat, lo_add, lo_sub, lo_mul, lo_0, e_rem]
    have := z_dh_30 (b := b) (o := o) (c := c + 1) (N0 := N0) (Q := Q) (t := t) (by omega) (by omega) 10 0 0 P (up A 4 ((c + 1 : Nat) : Int)) B d N w (by omega) (by omega) hT (by rw [u _ (by omega)]; exact h5) (by rw [u _ (by omega)]; exact h8) (by omega) hN0 (by omega) hO ?_
    · exact this
    · intro w1 P1 B1 d1 m1 m2 m3 m4 m5 m6
      obtain ⟨-, k4, k5, k8⟩ := dh_RI 10 (up A 4 ((c + 1 : Nat) : Int)) 0 hT.1.1 (by rw [u _ (by omega)]; omega) (by rw [u _ (by omega)]; omega)
      have h4 := k4 4 (by omega)
      have h40 := k4 0 (by omega)
      have h41 := k4 1 (by omega)
      rw [up_eq, if_pos rfl] at h4
      rw [u _ (by omega)] at h40 h41 k8
      rw [a_dv] at hq
      have hx := dh_2 10 (up A 4 ((c + 1 : Nat) : Int)) 0
      by_cases hj : 0 < (a_dh 10 (up A 4 ((c + 1 : Nat) : Int)) 0).1 5
      · rw [if_pos hj] at hq
        refine ⟨fun _ => hq w1 P1 B1 m1 m2 ⟨m3.1, m3.2.1, m3.2.2.1, m3.2.2.2.1, by have := m3.2.2.2.2; simp only; omega⟩ m4 m5, fun q => absurd hj q⟩
      · rw [if_neg hj] at hq
        refine ⟨fun q => absurd q hj, fun _ x2 x3 => ?_⟩
        generalize a_dh 10 (up A 4 ((c + 1 : Nat) : Int)) 0 = r at m3 m5 h4 h40 h41 k5 k8 hj hq hx ⊢
        have hV1 := m1.V
        have hF1 := m1.F
        have hge1 := m1.ge
        have b4 : B1 4 = (c : Int) + 1 := by rw [m3.2.1.1.sz.2.2.2.2, h4]; omega
        refine rt_X10_divide_99 ?_
        simp (disch := omega) only [wp_c, wp_n, jj_n, v_ct, Int.reduceToNat, Int.toNat_natCast, stE, wlE, lgt, lpu, lpw, v_c2, va_s, true_and, and_true, Option.toList, List.nil_append, List.cons_append, List.take, List.drop, List.reverse, List.reverseAux, List.length_cons, List.length_nil, reduceCtorEq, false_implies, true_implies, forall_const, not_true_eq_false, not_false_eq_true, ite_true, ite_false, Bool.false_eq_true, I_I, J_J, Nat.add_left_cancel_iff, Nat.reduceEqDiff, Nat.add_eq_left, Nat.left_eq_add, false_and, and_false, Nat.reduceSub, Nat.sub_self, Nat.le_refl, Nat.zero_le, ge_iff_le, Nat.reduceAdd, Nat.reduceLeDiff, Nat.zero_add, Nat.reduceLT, z_lt, z_le, z_eq, z_l0, z_g0, z_le0, z_ge0, z_e0, z_e1, z_vp, z_nc, z_rem, z_div, i_ltT, i_ltF, i_leT, i_leF, i_eqT, i_eqF, n_ltT, n_ltF, n_leT, n_leF, n_eqT, n_eqF, tn_9, tn_12, tn_14, tn_20, tn_28, tn_44, tn_52, tn_68, tn_84, tn_100, tn_116, tn_132, fu_e, up_eq, ob_0, ob_b, oi_add, oi_sub, oi_mul, oi_neg, Int.add_zero, Int.zero_add, or_true, true_or, or_false, false_or, and_self, z_i2l, z_l2i, lo_nat, lo_add, lo_sub, lo_mul, lo_0, e_rem, hF1.1, hV1.1, b4]
        refine rt_X10_divide_108 ?_
        have hc1 : ((c : Int) + 1 - 1) = (c : Int) := by omega
        simp (disch := omega) only [wp_c, wp_n, jj_n, v_ct, Int.reduceToNat, Int.toNat_natCast, stE, wlE, lgt, lpu, lpw, v_c2, va_s, true_and, and_true, Option.toList, List.nil_append, List.cons_append, List.take, List.drop, List.reverse, List.reverseAux, List.length_cons, List.length_nil, reduceCtorEq, false_implies, true_implies, forall_const, not_true_eq_false, not_false_eq_true, ite_true, ite_false, Bool.false_eq_true, I_I, J_J, Nat.add_left_cancel_iff, Nat.reduceEqDiff, Nat.add_eq_left, Nat.left_eq_add, false_and, and_false, Nat.reduceSub, Nat.sub_self, Nat.le_refl, Nat.zero_le, ge_iff_le, Nat.reduceAdd, Nat.reduceLeDiff, Nat.zero_add, Nat.reduceLT, z_lt, z_le, z_eq, z_l0, z_g0, z_le0, z_ge0, z_e0, z_e1, z_vp, z_nc, z_rem, z_div, i_ltT, i_ltF, i_leT, i_leF, i_eqT, i_eqF, n_ltT, n_ltF, n_leT, n_leF, n_eqT, n_eqF, tn_9, tn_12, tn_14, tn_20, tn_28, tn_44, tn_52, tn_68, tn_84, tn_100, tn_116, tn_132, fu_e, up_eq, ob_0, ob_b, oi_add, oi_sub, oi_mul, oi_neg, Int.add_zero, Int.zero_add, or_true, true_or, or_false, false_or, and_self, z_i2l, z_l2i, lo_nat, lo_add, lo_sub, lo_mul, lo_0, e_rem, hF1.1, hV1.1, b4, hc1]
        have hT2 := m3.c (c := (c : Int)) (by omega) (by omega) (by omega)
        refine ih P1 r.1 (up B1 4 (c : Int)) (t + r.2) d1 (N + 11) _ _ _ (by omega) (by omega) ⟨hT2.1, hT2.2.1, hT2.2.2.1, hT2.2.2.2.1, by have := hT2.2.2.2.2; omega⟩ (by omega) (by omega) (by omega) (by omega) (by omega) m1.sc ?_
        intro w2 P2 B2 q1 q2 q3 q4 q5
        refine hq w2 P2 B2 q1 (m2.trans (((FO.refl _ _).I hge1.1).trans q2)) ?_ (by rw [q4, up_eq, if_neg (by omega)]; exact m4) (fun h => q5 (m5 h).c)
        rw [show N + 11 * (((c + 1 : Nat) : Int) + 1) = N + 11 + 11 * ((c : Int) + 1) by omega]
        exact q3
theorem z_divide {b o : Nat} {P : Nat → Nat} {A B : Row} {N : Int} {w : mW} {Q : mW → mO → Prop} (hO : OW w b o P B) (hT : TS A B N) (h5 : A 5 = 0) (hN : N ≤ 800000000)
  (hno : ¬ 0 < p_num A → Q w (.inl (some (.int (Int32.ofInt (-1000))))))
  (hq : 0 < p_num A → ∀ w' P' B', OW w' b o P' B' → FO b w w' → TS (a_dv (A 1 - A 0 + 1).toNat (up A 8 1) 0).1 B' (N + 165) → B' 1000 = B 1000 → (LX A B → LX (a_dv (A 1 - A 0 + 1).toNat (up A 8 1) 0).1 B') → Q w' (.inl (some (.int (Int32.ofInt (a_dv (A 1 - A 0 + 1).toNat (up A 8 1) 0).2))))) :
  CT n_X10_divide [.ref o] w Q := by
  have hF := hO.F
  have hV := hO.V
  have hge := hO.ge
  have hz := hT.1.sz
  have hsz := hT.2.1.1.sz
  have hS : OS B := by
    have hI := beg_TI (way := 1) hT.1.1.1.1 (Or.inl rfl)
    have : OS (o_beg B 1 0) := (rl_beg hT.2.1.1).os hI
    exact this.e (fun j hj => by
      unfold o_beg
      rw [if_neg (by omega), if_neg (by omega), if_neg (by omega), if_neg (by omega), if_neg (by omega)])
  have hp := p_os hS
  have ep : p_num B = p_num A := num_u hsz.1 (by omega) (fun j hj => hT.2.1.1.pin hj)
  refine ct_X10_divide (rt_X10_divide_0 ?_)
  simp (disch := omega) only [wp_c, wp_n, jj_n, v_ct, Int.reduceToNat, Int.toNat_natCast, stE, wlE, lgt, lpu, lpw, v_c2, va_s, true_and, and_true, Option.toList, List.nil_append, List.cons_append, List.take, List.drop, List.reverse, List.reverseAux, List.length_cons, List.length_nil, reduceCtorEq, false_implies, true_implies, forall_const, not_true_eq_false, not_false_eq_true, ite_true, ite_false, Bool.false_eq_true, I_I, J_J, Nat.add_left_cancel_iff, Nat.reduceEqDiff, Nat.add_eq_left, Nat.left_eq_add, false_and, and_false, Nat.reduceSub, Nat.sub_self, Nat.le_refl, Nat.zero_le, ge_iff_le, Nat.reduceAdd, Nat.reduceLeDiff, Nat.zero_add, Nat.reduceLT, z_lt, z_le, z_eq, z_l0, z_g0, z_le0, z_ge0, z_e0, z_e1, z_vp, z_nc, z_rem, z_div, i_ltT, i_ltF, i_leT, i_leF, i_eqT, i_eqF, n_ltT, n_ltF, n_leT, n_leF, n_eqT, n_eqF, tn_9, tn_12, tn_14, tn_20, tn_28, tn_44, tn_52, tn_68, tn_84, tn_100, tn_116, tn_132, fu_e, up_eq, ob_0, ob_b, oi_add, oi_sub, oi_mul, oi_neg, Int.add_zero, Int.zero_add, or_true, true_or, or_false, false_or, and_self, z_i2l, z_l2i, lo_nat, lo_add, lo_sub, lo_mul, lo_0, e_rem, hF.1, mh_X10_divide]
  refine z_pins hO hS ?_
  rw [ep] at hp ⊢
  by_cases h0 : 0 < p_num A
  · simp (disch := omega) only [wp_c, wp_n, jj_n, v_ct, Int.reduceToNat, Int.toNat_natCast, stE, wlE, lgt, lpu, lpw, v_c2, va_s, true_and, and_true, Option.toList, List.nil_append, List.cons_append, List.take, List.drop, List.reverse, List.reverseAux, List.length_cons, List.length_nil, reduceCtorEq, false_implies, true_implies, forall_const, not_true_eq_false, not_false_eq_true, ite_true, ite_false, Bool.false_eq_true, I_I, J_J, Nat.add_left_cancel_iff, Nat.reduceEqDiff, Nat.add_eq_left, Nat.left_eq_add, false_and, and_false, Nat.reduceSub, Nat.sub_self, Nat.le_refl, Nat.zero_le, ge_iff_le, Nat.reduceAdd, Nat.reduceLeDiff, Nat.zero_add, Nat.reduceLT, z_lt, z_le, z_eq, z_l0, z_g0, z_le0, z_ge0, z_e0, z_e1, z_vp, z_nc, z_rem, z_div, i_ltT, i_ltF, i_leT, i_leF, i_eqT, i_eqF, n_ltT, n_ltF, n_leT, n_leF, n_eqT, n_eqF, tn_9, tn_12, tn_14, tn_20, tn_28, tn_44, tn_52, tn_68, tn_84, tn_100, tn_116, tn_132, fu_e, up_eq, ob_0, ob_b, oi_add, oi_sub, oi_mul, oi_neg, Int.add_zero, Int.zero_add, or_true, true_or, or_false, false_or, and_self, z_i2l, z_l2i, lo_nat, lo_add, lo_sub, lo_mul, lo_0, e_rem]
    refine rt_X10_divide_11 ?_
    simp (disch := omega) only [wp_c, wp_n, jj_n, v_ct, Int.reduceToNat, Int.toNat_natCast, stE, wlE, lgt, lpu, lpw, v_c2, va_s, true_and, and_true, Option.toList, List.nil_append, List.cons_append, List.take, List.drop, List.reverse, List.reverseAux, List.length_cons, List.length_nil, reduceCtorEq, false_implies, true_implies, forall_const, not_true_eq_false, not_false_eq_true, ite_true, ite_false, Bool.false_eq_true, I_I, J_J, Nat.add_left_cancel_iff, Nat.reduceEqDiff, Nat.add_eq_left, Nat.left_eq_add, false_and, and_false, Nat.reduceSub, Nat.sub_self, Nat.le_refl, Nat.zero_le, ge_iff_le, Nat.reduceAdd, Nat.reduceLeDiff, Nat.zero_add, Nat.reduceLT, z_lt, z_le, z_eq, z_l0, z_g0, z_le0, z_ge0, z_e0, z_e1, z_vp, z_nc, z_rem, z_div, i_ltT, i_ltF, i_leT, i_leF, i_eqT, i_eqF, n_ltT, n_ltF, n_leT, n_leF, n_eqT, n_eqF, tn_9, tn_12, tn_14, tn_20, tn_28, tn_44, tn_52, tn_68, tn_84, tn_100, tn_116, tn_132, fu_e, up_eq, ob_0, ob_b, oi_add, oi_sub, oi_mul, oi_neg, Int.add_zero, Int.zero_add, or_true, true_or, or_false, false_or, and_self, z_i2l, z_l2i, lo_nat, lo_add, lo_sub, lo_mul, lo_0, e_rem, hF, hV, hsz.1, hsz.2.1]
    obtain ⟨c, hc⟩ : ∃ c : Nat, A 1 - A 0 = c := ⟨(A 1 - A 0).toNat, by omega⟩
    have hn : (A 1 - A 0 + 1).toNat = c + 1 := by omega
    rw [hn] at hq
    rw [hc]
    have u8 : ∀ j, ¬ j = 8 → up A 8 1 j = A j := fun j hj => by rw [up_eq, if_neg hj]
    have hT2 := (hT.d8 (v := 1) h5 (Or.inr rfl)).c (c := (c : Int)) (by rw [u8 _ (by omega)]; exact h5) (by omega) (by rw [u8 _ (by omega), u8 _ (by omega)]; omega)
    have := z_dv_26 (b := b) (o := o) (N0 := 1000000000) (Q := Q) (by omega) c P (up A 8 1) (up B 4 (c : Int)) 0 0 N (s_I w o 5 (Int32.ofInt c)) .null .null (by omega) (by omega) hT2 (by rw [u8 _ (by omega)]; exact h5) (by rw [up_eq, if_pos rfl]) (by rw [u8 _ (by omega), u8 _ (by omega)]; omega) (by omega) (by omega) hO.sc ?_
    · exact this
    · intro w1 P1 B1 m1 m2 m3 m4 m5
      exact hq h0 w1 P1 B1 m1 (((FO.refl _ _).I hge.1).trans m2) ⟨m3.1, m3.2.1, m3.2.2.1, m3.2.2.2.1, by have := m3.2.2.2.2; omega⟩ (m4.trans (by rw [up_eq, if_neg (by omega)])) (fun h => m5 (h.d8.c))
  · have e0 : p_num A = 0 := by omega
    simp (disch := omega) only [wp_c, wp_n, jj_n, v_ct, Int.reduceToNat, Int.toNat_natCast, stE, wlE, lgt, lpu, lpw, v_c2, va_s, true_and, and_true, Option.toList, List.nil_append, List.cons_append, List.take, List.drop, List.reverse, List.reverseAux, List.length_cons, List.length_nil, reduceCtorEq, false_implies, true_implies, forall_const, not_true_eq_false, not_false_eq_true, ite_true, ite_false, Bool.false_eq_true, I_I, J_J, Nat.add_left_cancel_iff, Nat.reduceEqDiff, Nat.add_eq_left, Nat.left_eq_add, false_and, and_false, Nat.reduceSub, Nat.sub_self, Nat.le_refl, Nat.zero_le, ge_iff_le, Nat.reduceAdd, Nat.reduceLeDiff, Nat.zero_add, Nat.reduceLT, z_lt, z_le, z_eq, z_l0, z_g0, z_le0, z_ge0, z_e0, z_e1, z_vp, z_nc, z_rem, z_div, i_ltT, i_ltF, i_leT, i_leF, i_eqT, i_eqF, n_ltT, n_ltF, n_leT, n_leF, n_eqT, n_eqF, tn_9, tn_12, tn_14, tn_20, tn_28, tn_44, tn_52, tn_68, tn_84, tn_100, tn_116, tn_132, fu_e, up_eq, ob_0, ob_b, oi_add, oi_sub, oi_mul, oi_neg, Int.add_zero, Int.zero_add, or_true, true_or, or_false, false_or, and_self, z_i2l, z_l2i, lo_nat, lo_add, lo_sub, lo_mul, lo_0, e_rem, e0, mr_X10_divide]
    exact hno h0
-- 52.own
/-! a turn cranked back -/
theorem bk_at {A : Row} (hG : GR A) (h5 : 0 < A 5) : (∀ i, i < 16 → r_bk A (28 + i) = (A (28 + i) - A 7 * A (84 + i)) % 10) ∧ (∀ i, i < 16 → r_bk A (100 + i) = A (100 + i) + A (84 + i)) ∧ ∀ k, k < 3 → r_bk A (14 + k) = A (14 + k) - A (9 + k) := by
  have hz := hG.sz
  have hb := hG.2.1.2.1
  have v := tb_v (A 1).toNat A 0
  have e : ∀ j, j < 252 → ¬ j = 7 → ¬ j = 5 → ¬ ((52 ≤ j ∧ j < 68) ∨ (84 ≤ j ∧ j < 100) ∨ (9 ≤ j ∧ j < 12)) → r_bk A j = a_bk3 (a_tb (A 1).toNat A 0) j := by
    intro j h1 h2 h3 h4
    rw [← bk_v hG h5 j h1 h2]
    unfold a_bk
    rw [up_eq, if_neg h3, beg_at, if_neg h2, if_neg h4]
  refine ⟨fun i hi => ?_, fun i hi => ?_, fun k hk => ?_⟩
  · rw [e _ (by omega) (by omega) (by omega) (by omega), bk3_s _ _ (by omega), v _ (by omega)]
    by_cases hm : i < (A 1).toNat
    · rw [if_pos (by omega), show 28 + i + 56 = 84 + i by omega]
    · obtain ⟨z1, z2, z3, z4⟩ := hb i hi (by omega)
      rw [if_neg (by omega), if_neg (by omega), z1, z3, Int.mul_zero]; rfl
  · rw [e _ (by omega) (by omega) (by omega) (by omega), bk3_s _ _ (by omega), v _ (by omega)]
    by_cases hm : i < (A 1).toNat
    · rw [if_neg (by omega), if_pos (by omega), show 100 + i - 16 = 84 + i by omega]
    · obtain ⟨z1, z2, z3, z4⟩ := hb i hi (by omega)
      rw [if_neg (by omega), if_neg (by omega), z3, Int.add_zero]
  · rw [e _ (by omega) (by omega) (by omega) (by omega)]
    have t : ∀ j, j < 28 → a_tb (A 1).toNat A 0 j = A j := fun j hj => tb_s _ _ _ _ (by omega) (by omega)
    have t9 := t 9 (by omega)
    have t10 := t 10 (by omega)
    have t11 := t 11 (by omega)
    have t14 := t 14 (by omega)
    have t15 := t 15 (by omega)
    have t16 := t 16 (by omega)
    unfold a_bk3
    rcases (show k = 0 ∨ k = 1 ∨ k = 2 by omega) with rfl | rfl | rfl
    · rw [up_eq, if_neg (by omega), up_eq, if_neg (by omega), up_eq, if_pos rfl, t14, t9]
    · rw [up_eq, if_neg (by omega), up_eq, if_pos rfl, t15, t10]
    · rw [up_eq, if_pos rfl, t16, t11]
theorem bk_12 {A : Row} (hG : GR A) (h5 : 0 < A 5) (j : Nat) (hj : 12 ≤ j ∧ j < 14) : r_bk A j = A j := by
  have hz := hG.sz
  rw [← bk_v hG h5 j (by omega) (by omega)]
  unfold a_bk
  rw [up_eq, if_neg (by omega), beg_at, if_neg (by omega), if_neg (by omega), bk3_s _ _ (by omega)]
  exact tb_s _ _ _ _ (by omega) (by omega)
theorem mct_b (A : Row) : ∀ i : Nat, 0 ≤ m_ct A i ∧ m_ct A i ≤ i := by
  intro i
  induction i with
  | zero => simp [m_ct]
  | succ i ih =>
    rw [m_ct]
    split <;> omega
def o_bs (A B : Row) (i : Nat) : Row := fun j => if 100 ≤ j ∧ j < 100 + i then B j + A (j - 16) else B j
theorem z_bk_4 {b o : Nat} {P : Nat → Nat} {A B : Row} {N : Int} {w0 : mW} {Q : mW → mO → Prop} (hT : TS A B N) (h5 : 0 < A 5)
  (hq : ∀ w' x2 x3, OW w' b o P (o_bs A B (A 1).toNat) → FO b w0 w' → RT n_X10_crankBack 111 [.ref o, .int (Int32.ofInt (m_ct A (A 1).toNat)), x2, x3] [] w' (3, 48, false) Q) : ∀ (n i : Nat) (w : mW) (v3 : Value), (i : Int) + n = A 1 → OW w b o P (o_bs A B i) → FO b w0 w →
  RT n_X10_crankBack 4 [.ref o, .int (Int32.ofInt (m_ct A i)), .int (Int32.ofInt i), v3] [] w (3, 48, false) Q := by
  have hG := hT.1
  have hz := hG.sz
  have hR := hT.2.1.1
  have hJX := hT.2.2.1 h5
  have hJI : JI A := by
    rcases hG.2.2.2 with q | q
    · omega
    · exact q.1
  have hm84 := mb hG h5
  have f : ∀ i j, ¬ (100 ≤ j ∧ j < 100 + i) → o_bs A B i j = B j := fun i j hj => by unfold o_bs; rw [if_neg hj]
  intro n
  induction n with
  | zero =>
    intro i w v3 hi hO hF
    have hV := hO.V
    have hFF := hO.F
    have b1 : o_bs A B i 1 = A 1 := by rw [f _ _ (by omega)]; exact hR.sz.2.1
    refine rt_X10_crankBack_4 ?_
    simp (disch := omega) only [wp_c, wp_n, jj_n, v_ct, Int.reduceToNat, Int.toNat_natCast, stE, wlE, lgt, lpu, lpw, v_c2, va_s, true_and, and_true, Option.toList, List.nil_append, List.cons_append, List.take, List.drop, List.reverse, List.reverseAux, List.length_cons, List.length_nil, reduceCtorEq, false_implies, true_implies, forall_const, not_true_eq_false, not_false_eq_true, ite_true, ite_false, Bool.false_eq_true, I_I, J_J, Nat.add_left_cancel_iff, Nat.reduceEqDiff, Nat.add_eq_left, Nat.left_eq_add, false_and, and_false, Nat.reduceSub, Nat.sub_self, Nat.le_refl, Nat.zero_le, ge_iff_le, Nat.reduceAdd, Nat.reduceLeDiff, Nat.zero_add, Nat.reduceLT, z_lt, z_le, z_eq, z_l0, z_g0, z_le0, z_ge0, z_e0, z_e1, z_vp, z_nc, z_rem, z_div, i_ltT, i_ltF, i_leT, i_leF, i_eqT, i_eqF, n_ltT, n_ltF, n_leT, n_leF, n_eqT, n_eqF, tn_9, tn_12, tn_14, tn_20, tn_28, tn_44, tn_52, tn_68, tn_84, tn_100, tn_116, tn_132, fu_e, up_eq, ob_0, ob_b, oi_add, oi_sub, oi_mul, oi_neg, Int.add_zero, Int.zero_add, or_true, true_or, or_false, false_or, and_self, z_i2l, z_l2i, lo_nat, lo_add, lo_sub, lo_mul, lo_0, e_rem, hV.1, hFF.1, b1]
    rw [show i = (A 1).toNat by omega] at hO ⊢
    exact hq w _ _ hO hF
  | succ n ih =>
    intro i w v3 hi hO hF
    have hV := hO.V
    have hFF := hO.F
    have hE := hO.E
    have hge := hO.ge
    have g19 := hge.2 19 (by omega) (by omega)
    have b1 : o_bs A B i 1 = A 1 := by rw [f _ _ (by omega)]; exact hR.sz.2.1
    have b7 : o_bs A B i 7 = A 7 := by rw [f _ _ (by omega)]; exact hJX.2.1
    have b28 : o_bs A B i (28 + i) = A (28 + i) := by rw [f _ _ (by omega)]; exact hR.dig (by omega)
    have b84 : o_bs A B i (84 + i) = mvd (A (84 + i)) := by rw [f _ _ (by omega)]; exact hR.2 i (by omega)
    have b1020 : o_bs A B i (1020 + i) = (A (28 + i) - A 7 * A (84 + i)) % 10 := by rw [f _ _ (by omega)]; exact hJX.2.2.2.1 i (by omega)
    have b100 : o_bs A B i (100 + i) = A (100 + i) := by rw [f _ _ (by omega)]; exact hR.stp (by omega)
    have hd := TJ_dig hG.1.1 i (by omega)
    have hm := hm84 i (by omega)
    have h7 := hJI.2.1
    generalize hbe : (A (28 + i) - A 7 * A (84 + i)) % 10 = be at b1020
    have hbb : 0 ≤ be ∧ be ≤ 9 := by omega
    have mv01 : 0 ≤ mvd (A (84 + i)) ∧ mvd (A (84 + i)) ≤ 1 := by unfold mvd; split <;> omega
    have emc : m_ct A (i + 1) = m_ct A i + mvd (A (84 + i)) := by
      rw [m_ct]
      unfold mvd
      congr 1
      by_cases q : 0 < A (84 + i)
      · rw [if_pos q, if_pos ((oi_g0 ⟨by omega, by omega⟩).mpr q)]
      · rw [if_neg q, if_neg (fun r => q ((oi_g0 ⟨by omega, by omega⟩).mp r))]
    have hmc : 0 ≤ m_ct A i ∧ m_ct A i ≤ i := mct_b A i
    -- what is added
    have h103 : RT n_X10_crankBack 103 [.ref o, .int (Int32.ofInt (m_ct A (i + 1))), .int (Int32.ofInt i), .int (Int32.ofInt (A (84 + i) % 10))] [.int (Int32.ofInt (A (84 + i))), .int (Int32.ofInt (A (100 + i))), .int (Int32.ofInt i), .ref (P 19)] w (3, 48, false) Q := by
      refine rt_X10_crankBack_103 ?_
      simp (disch := omega) only [wp_c, wp_n, jj_n, v_ct, Int.reduceToNat, Int.toNat_natCast, stE, wlE, lgt, lpu, lpw, v_c2, va_s, true_and, and_true, Option.toList, List.nil_append, List.cons_append, List.take, List.drop, List.reverse, List.reverseAux, List.length_cons, List.length_nil, reduceCtorEq, false_implies, true_implies, forall_const, not_true_eq_false, not_false_eq_true, ite_true, ite_false, Bool.false_eq_true, I_I, J_J, Nat.add_left_cancel_iff, Nat.reduceEqDiff, Nat.add_eq_left, Nat.left_eq_add, false_and, and_false, Nat.reduceSub, Nat.sub_self, Nat.le_refl, Nat.zero_le, ge_iff_le, Nat.reduceAdd, Nat.reduceLeDiff, Nat.zero_add, Nat.reduceLT, z_lt, z_le, z_eq, z_l0, z_g0, z_le0, z_ge0, z_e0, z_e1, z_vp, z_nc, z_rem, z_div, i_ltT, i_ltF, i_leT, i_leF, i_eqT, i_eqF, n_ltT, n_ltF, n_leT, n_leF, n_eqT, n_eqF, tn_9, tn_12, tn_14, tn_20, tn_28, tn_44, tn_52, tn_68, tn_84, tn_100, tn_116, tn_132, fu_e, up_eq, ob_0, ob_b, oi_add, oi_sub, oi_mul, oi_neg, Int.add_zero, Int.zero_add, or_true, true_or, or_false, false_or, and_self, z_i2l, z_l2i, lo_nat, lo_add, lo_sub, lo_mul, lo_0, e_rem, hFF]
      have := ih (i + 1) (s_I w (P 19) i (Int32.ofInt (A (100 + i) + A (84 + i)))) (.int (Int32.ofInt (A (84 + i) % 10))) (by omega) ((hO.sstp (j := i) (v := A (100 + i) + A (84 + i)) (by omega)).cg ?_) (hF.I' g19)
      · exact this
      · funext j
        rw [up_eq]
        unfold o_bs
        by_cases q : j = 100 + i
        · subst q
          rw [if_pos (by omega), if_pos rfl, show 100 + i - 16 = 84 + i by omega, hR.stp (by omega)]
        · rw [if_neg q]
          by_cases q2 : 100 ≤ j ∧ j < 100 + i
          · rw [if_pos (by omega), if_pos q2]
          · rw [if_neg (by omega), if_neg q2]
    have h76 : RT n_X10_crankBack 76 [.ref o, .int (Int32.ofInt (m_ct A (i + 1))), .int (Int32.ofInt i), v3] [.int (Int32.ofInt (A (84 + i) % 10))] w (3, 48, false) Q := by
      refine rt_X10_crankBack_76 ?_
      simp (disch := omega) only [wp_c, wp_n, jj_n, v_ct, Int.reduceToNat, Int.toNat_natCast, stE, wlE, lgt, lpu, lpw, v_c2, va_s, true_and, and_true, Option.toList, List.nil_append, List.cons_append, List.take, List.drop, List.reverse, List.reverseAux, List.length_cons, List.length_nil, reduceCtorEq, false_implies, true_implies, forall_const, not_true_eq_false, not_false_eq_true, ite_true, ite_false, Bool.false_eq_true, I_I, J_J, Nat.add_left_cancel_iff, Nat.reduceEqDiff, Nat.add_eq_left, Nat.left_eq_add, false_and, and_false, Nat.reduceSub, Nat.sub_self, Nat.le_refl, Nat.zero_le, ge_iff_le, Nat.reduceAdd, Nat.reduceLeDiff, Nat.zero_add, Nat.reduceLT, z_lt, z_le, z_eq, z_l0, z_g0, z_le0, z_ge0, z_e0, z_e1, z_vp, z_nc, z_rem, z_div, i_ltT, i_ltF, i_leT, i_leF, i_eqT, i_eqF, n_ltT, n_ltF, n_leT, n_leF, n_eqT, n_eqF, tn_9, tn_12, tn_14, tn_20, tn_28, tn_44, tn_52, tn_68, tn_84, tn_100, tn_116, tn_132, fu_e, up_eq, ob_0, ob_b, oi_add, oi_sub, oi_mul, oi_neg, Int.add_zero, Int.zero_add, or_true, true_or, or_false, false_or, and_self, z_i2l, z_l2i, lo_nat, lo_add, lo_sub, lo_mul, lo_0, e_rem, hFF, hV, b84, b100]
      by_cases q : 0 < A (84 + i)
      · have e1 : mvd (A (84 + i)) = 1 := mvd_p q
        by_cases q2 : A (84 + i) % 10 = 0
        · have e10 : A (84 + i) = 10 := by omega
          simp (disch := omega) only [wp_c, wp_n, jj_n, v_ct, Int.reduceToNat, Int.toNat_natCast, stE, wlE, lgt, lpu, lpw, v_c2, va_s, true_and, and_true, Option.toList, List.nil_append, List.cons_append, List.take, List.drop, List.reverse, List.reverseAux, List.length_cons, List.length_nil, reduceCtorEq, false_implies, true_implies, forall_const, not_true_eq_false, not_false_eq_true, ite_true, ite_false, Bool.false_eq_true, I_I, J_J, Nat.add_left_cancel_iff, Nat.reduceEqDiff, Nat.add_eq_left, Nat.left_eq_add, false_and, and_false, Nat.reduceSub, Nat.sub_self, Nat.le_refl, Nat.zero_le, ge_iff_le, Nat.reduceAdd, Nat.reduceLeDiff, Nat.zero_add, Nat.reduceLT, z_lt, z_le, z_eq, z_l0, z_g0, z_le0, z_ge0, z_e0, z_e1, z_vp, z_nc, z_rem, z_div, i_ltT, i_ltF, i_leT, i_leF, i_eqT, i_eqF, n_ltT, n_ltF, n_leT, n_leF, n_eqT, n_eqF, tn_9, tn_12, tn_14, tn_20, tn_28, tn_44, tn_52, tn_68, tn_84, tn_100, tn_116, tn_132, fu_e, up_eq, ob_0, ob_b, oi_add, oi_sub, oi_mul, oi_neg, Int.add_zero, Int.zero_add, or_true, true_or, or_false, false_or, and_self, z_i2l, z_l2i, lo_nat, lo_add, lo_sub, lo_mul, lo_0, e_rem, e1, q2]
          rw [q2, e10] at h103
          exact h103
        · simp (disch := omega) only [wp_c, wp_n, jj_n, v_ct, Int.reduceToNat, Int.toNat_natCast, stE, wlE, lgt, lpu, lpw, v_c2, va_s, true_and, and_true, Option.toList, List.nil_append, List.cons_append, List.take, List.drop, List.reverse, List.reverseAux, List.length_cons, List.length_nil, reduceCtorEq, false_implies, true_implies, forall_const, not_true_eq_false, not_false_eq_true, ite_true, ite_false, Bool.false_eq_true, I_I, J_J, Nat.add_left_cancel_iff, Nat.reduceEqDiff, Nat.add_eq_left, Nat.left_eq_add, false_and, and_false, Nat.reduceSub, Nat.sub_self, Nat.le_refl, Nat.zero_le, ge_iff_le, Nat.reduceAdd, Nat.reduceLeDiff, Nat.zero_add, Nat.reduceLT, z_lt, z_le, z_eq, z_l0, z_g0, z_le0, z_ge0, z_e0, z_e1, z_vp, z_nc, z_rem, z_div, i_ltT, i_ltF, i_leT, i_leF, i_eqT, i_eqF, n_ltT, n_ltF, n_leT, n_leF, n_eqT, n_eqF, tn_9, tn_12, tn_14, tn_20, tn_28, tn_44, tn_52, tn_68, tn_84, tn_100, tn_116, tn_132, fu_e, up_eq, ob_0, ob_b, oi_add, oi_sub, oi_mul, oi_neg, Int.add_zero, Int.zero_add, or_true, true_or, or_false, false_or, and_self, z_i2l, z_l2i, lo_nat, lo_add, lo_sub, lo_mul, lo_0, e_rem, e1]
          refine rt_X10_crankBack_102 ?_
          simp (disch := omega) only [wp_c, wp_n, jj_n, v_ct, Int.reduceToNat, Int.toNat_natCast, stE, wlE, lgt, lpu, lpw, v_c2, va_s, true_and, and_true, Option.toList, List.nil_append, List.cons_append, List.take, List.drop, List.reverse, List.reverseAux, List.length_cons, List.length_nil, reduceCtorEq, false_implies, true_implies, forall_const, not_true_eq_false, not_false_eq_true, ite_true, ite_false, Bool.false_eq_true, I_I, J_J, Nat.add_left_cancel_iff, Nat.reduceEqDiff, Nat.add_eq_left, Nat.left_eq_add, false_and, and_false, Nat.reduceSub, Nat.sub_self, Nat.le_refl, Nat.zero_le, ge_iff_le, Nat.reduceAdd, Nat.reduceLeDiff, Nat.zero_add, Nat.reduceLT, z_lt, z_le, z_eq, z_l0, z_g0, z_le0, z_ge0, z_e0, z_e1, z_vp, z_nc, z_rem, z_div, i_ltT, i_ltF, i_leT, i_leF, i_eqT, i_eqF, n_ltT, n_ltF, n_leT, n_leF, n_eqT, n_eqF, tn_9, tn_12, tn_14, tn_20, tn_28, tn_44, tn_52, tn_68, tn_84, tn_100, tn_116, tn_132, fu_e, up_eq, ob_0, ob_b, oi_add, oi_sub, oi_mul, oi_neg, Int.add_zero, Int.zero_add, or_true, true_or, or_false, false_or, and_self, z_i2l, z_l2i, lo_nat, lo_add, lo_sub, lo_mul, lo_0, e_rem]
          have e9 : A (84 + i) % 10 = A (84 + i) := by omega
          rw [e9] at h103 ⊢
          exact h103
      · have e0 : A (84 + i) = 0 := by omega
        have e1 : mvd (A (84 + i)) = 0 := by rw [e0]; rfl
        simp (disch := omega) only [wp_c, wp_n, jj_n, v_ct, Int.reduceToNat, Int.toNat_natCast, stE, wlE, lgt, lpu, lpw, v_c2, va_s, true_and, and_true, Option.toList, List.nil_append, List.cons_append, List.take, List.drop, List.reverse, List.reverseAux, List.length_cons, List.length_nil, reduceCtorEq, false_implies, true_implies, forall_const, not_true_eq_false, not_false_eq_true, ite_true, ite_false, Bool.false_eq_true, I_I, J_J, Nat.add_left_cancel_iff, Nat.reduceEqDiff, Nat.add_eq_left, Nat.left_eq_add, false_and, and_false, Nat.reduceSub, Nat.sub_self, Nat.le_refl, Nat.zero_le, ge_iff_le, Nat.reduceAdd, Nat.reduceLeDiff, Nat.zero_add, Nat.reduceLT, z_lt, z_le, z_eq, z_l0, z_g0, z_le0, z_ge0, z_e0, z_e1, z_vp, z_nc, z_rem, z_div, i_ltT, i_ltF, i_leT, i_leF, i_eqT, i_eqF, n_ltT, n_ltF, n_leT, n_leF, n_eqT, n_eqF, tn_9, tn_12, tn_14, tn_20, tn_28, tn_44, tn_52, tn_68, tn_84, tn_100, tn_116, tn_132, fu_e, up_eq, ob_0, ob_b, oi_add, oi_sub, oi_mul, oi_neg, Int.add_zero, Int.zero_add, or_true, true_or, or_false, false_or, and_self, z_i2l, z_l2i, lo_nat, lo_add, lo_sub, lo_mul, lo_0, e_rem, e1]
        refine rt_X10_crankBack_102 ?_
        simp (disch := omega) only [wp_c, wp_n, jj_n, v_ct, Int.reduceToNat, Int.toNat_natCast, stE, wlE, lgt, lpu, lpw, v_c2, va_s, true_and, and_true, Option.toList, List.nil_append, List.cons_append, List.take, List.drop, List.reverse, List.reverseAux, List.length_cons, List.length_nil, reduceCtorEq, false_implies, true_implies, forall_const, not_true_eq_false, not_false_eq_true, ite_true, ite_false, Bool.false_eq_true, I_I, J_J, Nat.add_left_cancel_iff, Nat.reduceEqDiff, Nat.add_eq_left, Nat.left_eq_add, false_and, and_false, Nat.reduceSub, Nat.sub_self, Nat.le_refl, Nat.zero_le, ge_iff_le, Nat.reduceAdd, Nat.reduceLeDiff, Nat.zero_add, Nat.reduceLT, z_lt, z_le, z_eq, z_l0, z_g0, z_le0, z_ge0, z_e0, z_e1, z_vp, z_nc, z_rem, z_div, i_ltT, i_ltF, i_leT, i_leF, i_eqT, i_eqF, n_ltT, n_ltF, n_leT, n_leF, n_eqT, n_eqF, tn_9, tn_12, tn_14, tn_20, tn_28, tn_44, tn_52, tn_68, tn_84, tn_100, tn_116, tn_132, fu_e, up_eq, ob_0, ob_b, oi_add, oi_sub, oi_mul, oi_neg, Int.add_zero, Int.zero_add, or_true, true_or, or_false, false_or, and_self, z_i2l, z_l2i, lo_nat, lo_add, lo_sub, lo_mul, lo_0, e_rem]
        rw [e0] at h103 ⊢
        exact h103
    refine rt_X10_crankBack_4 ?_
    simp (disch := omega) only [wp_c, wp_n, jj_n, v_ct, Int.reduceToNat, Int.toNat_natCast, stE, wlE, lgt, lpu, lpw, v_c2, va_s, true_and, and_true, Option.toList, List.nil_append, List.cons_append, List.take, List.drop, List.reverse, List.reverseAux, List.length_cons, List.length_nil, reduceCtorEq, false_implies, true_implies, forall_const, not_true_eq_false, not_false_eq_true, ite_true, ite_false, Bool.false_eq_true, I_I, J_J, Nat.add_left_cancel_iff, Nat.reduceEqDiff, Nat.add_eq_left, Nat.left_eq_add, false_and, and_false, Nat.reduceSub, Nat.sub_self, Nat.le_refl, Nat.zero_le, ge_iff_le, Nat.reduceAdd, Nat.reduceLeDiff, Nat.zero_add, Nat.reduceLT, z_lt, z_le, z_eq, z_l0, z_g0, z_le0, z_ge0, z_e0, z_e1, z_vp, z_nc, z_rem, z_div, i_ltT, i_ltF, i_leT, i_leF, i_eqT, i_eqF, n_ltT, n_ltF, n_leT, n_leF, n_eqT, n_eqF, tn_9, tn_12, tn_14, tn_20, tn_28, tn_44, tn_52, tn_68, tn_84, tn_100, tn_116, tn_132, fu_e, up_eq, ob_0, ob_b, oi_add, oi_sub, oi_mul, oi_neg, Int.add_zero, Int.zero_add, or_true, true_or, or_false, false_or, and_self, z_i2l, z_l2i, lo_nat, lo_add, lo_sub, lo_mul, lo_0, e_rem, hFF, hV, b1, b84, b28, b1020, mh_X10_crankBack]
    rw [← emc]
    have t10 : ((10 : Nat) : Int) = 10 := rfl
    refine z_within (m := 10) ⟨by omega, by omega⟩ ⟨by omega, by omega⟩ ?_
    have hw1 : 0 ≤ (A (28 + i) - be) % 10 ∧ (A (28 + i) - be) % 10 ≤ 9 := by omega
    have hL : Int64.ofInt ((A (28 + i) - be) % 10) = Int64.ofInt 0 ↔ (A (28 + i) - be) % 10 = 0 := lo_eq ⟨by omega, by omega⟩ ⟨by omega, by omega⟩
    simp (disch := omega) only [wp_c, wp_n, jj_n, v_ct, Int.reduceToNat, Int.toNat_natCast, stE, wlE, lgt, lpu, lpw, v_c2, va_s, true_and, and_true, Option.toList, List.nil_append, List.cons_append, List.take, List.drop, List.reverse, List.reverseAux, List.length_cons, List.length_nil, reduceCtorEq, false_implies, true_implies, forall_const, not_true_eq_false, not_false_eq_true, ite_true, ite_false, Bool.false_eq_true, I_I, J_J, Nat.add_left_cancel_iff, Nat.reduceEqDiff, Nat.add_eq_left, Nat.left_eq_add, false_and, and_false, Nat.reduceSub, Nat.sub_self, Nat.le_refl, Nat.zero_le, ge_iff_le, Nat.reduceAdd, Nat.reduceLeDiff, Nat.zero_add, Nat.reduceLT, z_lt, z_le, z_eq, z_l0, z_g0, z_le0, z_ge0, z_e0, z_e1, z_vp, z_nc, z_rem, z_div, i_ltT, i_ltF, i_leT, i_leF, i_eqT, i_eqF, n_ltT, n_ltF, n_leT, n_leF, n_eqT, n_eqF, tn_9, tn_12, tn_14, tn_20, tn_28, tn_44, tn_52, tn_68, tn_84, tn_100, tn_116, tn_132, fu_e, up_eq, ob_0, ob_b, oi_add, oi_sub, oi_mul, oi_neg, Int.add_zero, Int.zero_add, or_true, true_or, or_false, false_or, and_self, z_i2l, z_l2i, lo_nat, lo_add, lo_sub, lo_mul, lo_0, e_rem, lg_e, hL]
    have hsame : (A (28 + i) - be) % 10 = 0 ↔ A (84 + i) % 10 = 0 := by rw [← hbe]; rcases h7 with q | q <;> rw [q] <;> omega
    by_cases q : (A (28 + i) - be) % 10 = 0
    · simp (disch := omega) only [wp_c, wp_n, jj_n, v_ct, Int.reduceToNat, Int.toNat_natCast, stE, wlE, lgt, lpu, lpw, v_c2, va_s, true_and, and_true, Option.toList, List.nil_append, List.cons_append, List.take, List.drop, List.reverse, List.reverseAux, List.length_cons, List.length_nil, reduceCtorEq, false_implies, true_implies, forall_const, not_true_eq_false, not_false_eq_true, ite_true, ite_false, Bool.false_eq_true, I_I, J_J, Nat.add_left_cancel_iff, Nat.reduceEqDiff, Nat.add_eq_left, Nat.left_eq_add, false_and, and_false, Nat.reduceSub, Nat.sub_self, Nat.le_refl, Nat.zero_le, ge_iff_le, Nat.reduceAdd, Nat.reduceLeDiff, Nat.zero_add, Nat.reduceLT, z_lt, z_le, z_eq, z_l0, z_g0, z_le0, z_ge0, z_e0, z_e1, z_vp, z_nc, z_rem, z_div, i_ltT, i_ltF, i_leT, i_leF, i_eqT, i_eqF, n_ltT, n_ltF, n_leT, n_leF, n_eqT, n_eqF, tn_9, tn_12, tn_14, tn_20, tn_28, tn_44, tn_52, tn_68, tn_84, tn_100, tn_116, tn_132, fu_e, up_eq, ob_0, ob_b, oi_add, oi_sub, oi_mul, oi_neg, Int.add_zero, Int.zero_add, or_true, true_or, or_false, false_or, and_self, z_i2l, z_l2i, lo_nat, lo_add, lo_sub, lo_mul, lo_0, e_rem]
      rw [hsame.mp q] at h76
      exact h76
    · simp (disch := omega) only [wp_c, wp_n, jj_n, v_ct, Int.reduceToNat, Int.toNat_natCast, stE, wlE, lgt, lpu, lpw, v_c2, va_s, true_and, and_true, Option.toList, List.nil_append, List.cons_append, List.take, List.drop, List.reverse, List.reverseAux, List.length_cons, List.length_nil, reduceCtorEq, false_implies, true_implies, forall_const, not_true_eq_false, not_false_eq_true, ite_true, ite_false, Bool.false_eq_true, I_I, J_J, Nat.add_left_cancel_iff, Nat.reduceEqDiff, Nat.add_eq_left, Nat.left_eq_add, false_and, and_false, Nat.reduceSub, Nat.sub_self, Nat.le_refl, Nat.zero_le, ge_iff_le, Nat.reduceAdd, Nat.reduceLeDiff, Nat.zero_add, Nat.reduceLT, z_lt, z_le, z_eq, z_l0, z_g0, z_le0, z_ge0, z_e0, z_e1, z_vp, z_nc, z_rem, z_div, i_ltT, i_ltF, i_leT, i_leF, i_eqT, i_eqF, n_ltT, n_ltF, n_leT, n_leF, n_eqT, n_eqF, tn_9, tn_12, tn_14, tn_20, tn_28, tn_44, tn_52, tn_68, tn_84, tn_100, tn_116, tn_132, fu_e, up_eq, ob_0, ob_b, oi_add, oi_sub, oi_mul, oi_neg, Int.add_zero, Int.zero_add, or_true, true_or, or_false, false_or, and_self, z_i2l, z_l2i, lo_nat, lo_add, lo_sub, lo_mul, lo_0, e_rem]
      refine rt_X10_crankBack_50 ?_
      have hpr : -9 ≤ A 7 * (A (28 + i) - be) ∧ A 7 * (A (28 + i) - be) ≤ 9 := by rcases h7 with r | r <;> rw [r] <;> omega
      simp (disch := omega) only [wp_c, wp_n, jj_n, v_ct, Int.reduceToNat, Int.toNat_natCast, stE, wlE, lgt, lpu, lpw, v_c2, va_s, true_and, and_true, Option.toList, List.nil_append, List.cons_append, List.take, List.drop, List.reverse, List.reverseAux, List.length_cons, List.length_nil, reduceCtorEq, false_implies, true_implies, forall_const, not_true_eq_false, not_false_eq_true, ite_true, ite_false, Bool.false_eq_true, I_I, J_J, Nat.add_left_cancel_iff, Nat.reduceEqDiff, Nat.add_eq_left, Nat.left_eq_add, false_and, and_false, Nat.reduceSub, Nat.sub_self, Nat.le_refl, Nat.zero_le, ge_iff_le, Nat.reduceAdd, Nat.reduceLeDiff, Nat.zero_add, Nat.reduceLT, z_lt, z_le, z_eq, z_l0, z_g0, z_le0, z_ge0, z_e0, z_e1, z_vp, z_nc, z_rem, z_div, i_ltT, i_ltF, i_leT, i_leF, i_eqT, i_eqF, n_ltT, n_ltF, n_leT, n_leF, n_eqT, n_eqF, tn_9, tn_12, tn_14, tn_20, tn_28, tn_44, tn_52, tn_68, tn_84, tn_100, tn_116, tn_132, fu_e, up_eq, ob_0, ob_b, oi_add, oi_sub, oi_mul, oi_neg, Int.add_zero, Int.zero_add, or_true, true_or, or_false, false_or, and_self, z_i2l, z_l2i, lo_nat, lo_add, lo_sub, lo_mul, lo_0, e_rem, hFF, hV, b7, b28, b1020, mh_X10_crankBack]
      refine z_within (m := 10) ⟨by omega, by omega⟩ ⟨by omega, by omega⟩ ?_
      simp (disch := omega) only [wp_c, wp_n, jj_n, v_ct, Int.reduceToNat, Int.toNat_natCast, stE, wlE, lgt, lpu, lpw, v_c2, va_s, true_and, and_true, Option.toList, List.nil_append, List.cons_append, List.take, List.drop, List.reverse, List.reverseAux, List.length_cons, List.length_nil, reduceCtorEq, false_implies, true_implies, forall_const, not_true_eq_false, not_false_eq_true, ite_true, ite_false, Bool.false_eq_true, I_I, J_J, Nat.add_left_cancel_iff, Nat.reduceEqDiff, Nat.add_eq_left, Nat.left_eq_add, false_and, and_false, Nat.reduceSub, Nat.sub_self, Nat.le_refl, Nat.zero_le, ge_iff_le, Nat.reduceAdd, Nat.reduceLeDiff, Nat.zero_add, Nat.reduceLT, z_lt, z_le, z_eq, z_l0, z_g0, z_le0, z_ge0, z_e0, z_e1, z_vp, z_nc, z_rem, z_div, i_ltT, i_ltF, i_leT, i_leF, i_eqT, i_eqF, n_ltT, n_ltF, n_leT, n_leF, n_eqT, n_eqF, tn_9, tn_12, tn_14, tn_20, tn_28, tn_44, tn_52, tn_68, tn_84, tn_100, tn_116, tn_132, fu_e, up_eq, ob_0, ob_b, oi_add, oi_sub, oi_mul, oi_neg, Int.add_zero, Int.zero_add, or_true, true_or, or_false, false_or, and_self, z_i2l, z_l2i, lo_nat, lo_add, lo_sub, lo_mul, lo_0, e_rem]
      have e : A 7 * (A (28 + i) - be) % 10 = A (84 + i) % 10 := by rw [← hbe]; rcases h7 with r | r <;> rw [r] <;> omega
      rw [e]
      exact h76
/-- the counts as they were before -/
def o_b3 (B : Row) (i : Nat) : Row := fun j => if 14 ≤ j ∧ j < 12 + i then B (1040 + (j - 12)) else B j
theorem z_bk_143 {b o : Nat} {P : Nat → Nat} {B : Row} {x1 : Int32} {v3 : Value} {g : mG} {w0 : mW} {Q : mW → mO → Prop} (hq : ∀ w', OW w' b o P (o_b3 B 5) → FO b w0 w' → ∀ x2, RT n_X10_crankBack 166 [.ref o, .int x1, x2, v3] [] w' g Q) : ∀ (n i : Nat) (w : mW), i + n = 5 → 2 ≤ i → OW w b o P (o_b3 B i) → FO b w0 w → RT n_X10_crankBack 143 [.ref o, .int x1, .int (Int32.ofInt i), v3] [] w g Q := by
  intro n
  induction n with
  | zero =>
    intro i w hi h2 hO hF
    have e : i = 5 := by omega
    subst e
    refine rt_X10_crankBack_143 ?_
    simp (disch := omega) only [wp_c, wp_n, jj_n, v_ct, Int.reduceToNat, Int.toNat_natCast, stE, wlE, lgt, lpu, lpw, v_c2, va_s, true_and, and_true, Option.toList, List.nil_append, List.cons_append, List.take, List.drop, List.reverse, List.reverseAux, List.length_cons, List.length_nil, reduceCtorEq, false_implies, true_implies, forall_const, not_true_eq_false, not_false_eq_true, ite_true, ite_false, Bool.false_eq_true, I_I, J_J, Nat.add_left_cancel_iff, Nat.reduceEqDiff, Nat.add_eq_left, Nat.left_eq_add, false_and, and_false, Nat.reduceSub, Nat.sub_self, Nat.le_refl, Nat.zero_le, ge_iff_le, Nat.reduceAdd, Nat.reduceLeDiff, Nat.zero_add, Nat.reduceLT, z_lt, z_le, z_eq, z_l0, z_g0, z_le0, z_ge0, z_e0, z_e1, z_vp, z_nc, z_rem, z_div, i_ltT, i_ltF, i_leT, i_leF, i_eqT, i_eqF, n_ltT, n_ltF, n_leT, n_leF, n_eqT, n_eqF, tn_9, tn_12, tn_14, tn_20, tn_28, tn_44, tn_52, tn_68, tn_84, tn_100, tn_116, tn_132, fu_e, up_eq, ob_0, ob_b, oi_add, oi_sub, oi_mul, oi_neg, Int.add_zero, Int.zero_add, or_true, true_or, or_false, false_or, and_self, z_i2l, z_l2i, lo_nat, lo_add, lo_sub, lo_mul, lo_0, e_rem]
    exact hq w hO hF _
  | succ n ih =>
    intro i w hi h2 hO hF
    have hV := hO.V
    have hFF := hO.F
    have hge := hO.ge
    have g21 := hge.2 21 (by omega) (by omega)
    have b1040 : o_b3 B i (1040 + i) = B (1040 + i) := by unfold o_b3; rw [if_neg (by omega)]
    refine rt_X10_crankBack_143 ?_
    simp (disch := omega) only [wp_c, wp_n, jj_n, v_ct, Int.reduceToNat, Int.toNat_natCast, stE, wlE, lgt, lpu, lpw, v_c2, va_s, true_and, and_true, Option.toList, List.nil_append, List.cons_append, List.take, List.drop, List.reverse, List.reverseAux, List.length_cons, List.length_nil, reduceCtorEq, false_implies, true_implies, forall_const, not_true_eq_false, not_false_eq_true, ite_true, ite_false, Bool.false_eq_true, I_I, J_J, Nat.add_left_cancel_iff, Nat.reduceEqDiff, Nat.add_eq_left, Nat.left_eq_add, false_and, and_false, Nat.reduceSub, Nat.sub_self, Nat.le_refl, Nat.zero_le, ge_iff_le, Nat.reduceAdd, Nat.reduceLeDiff, Nat.zero_add, Nat.reduceLT, z_lt, z_le, z_eq, z_l0, z_g0, z_le0, z_ge0, z_e0, z_e1, z_vp, z_nc, z_rem, z_div, i_ltT, i_ltF, i_leT, i_leF, i_eqT, i_eqF, n_ltT, n_ltF, n_leT, n_leF, n_eqT, n_eqF, tn_9, tn_12, tn_14, tn_20, tn_28, tn_44, tn_52, tn_68, tn_84, tn_100, tn_116, tn_132, fu_e, up_eq, ob_0, ob_b, oi_add, oi_sub, oi_mul, oi_neg, Int.add_zero, Int.zero_add, or_true, true_or, or_false, false_or, and_self, z_i2l, z_l2i, lo_nat, lo_add, lo_sub, lo_mul, lo_0, e_rem, hFF, hV, b1040]
    have := ih (i + 1) (s_I w (P 21) i (Int32.ofInt (B (1040 + i)))) (by omega) (by omega) ((hO.scts (j := i) (v := B (1040 + i)) (by omega)).cg ?_) (hF.I' g21)
    · exact this
    · funext j
      rw [up_eq]
      unfold o_b3
      by_cases q : j = 12 + i
      · subst q
        rw [if_pos (by omega), if_pos rfl, show 12 + i - 12 = i by omega]
      · rw [if_neg q]
        by_cases q2 : 14 ≤ j ∧ j < 12 + i
        · rw [if_pos (by omega), if_pos q2]
        · rw [if_neg (by omega), if_neg q2]
theorem z_back {b o : Nat} {P : Nat → Nat} {A B : Row} {N : Int} {w : mW} {Q : mW → mO → Prop} (hO : OW w b o P B) (hT : TS A B N) (h5 : 0 < A 5)
  (hq : ∀ w' P' B', OW w' b o P' B' → FO b w w' → TS (r_bk A) B' N → B' 1000 = B 1000 → (LX A B → LX (r_bk A) B') → Q w' (.inl (some (.int (Int32.ofInt (m_ct A (A 1).toNat)))))) : CT n_X10_crankBack [.ref o] w Q := by
  have hG := hT.1
  have hz := hG.sz
  have hb0 := hO.1.2.1
  have hge := hO.ge
  have h16 : (Int32.ofInt 16).toNatClampNeg = 16 := by decide
  refine ct_X10_crankBack (rt_X10_crankBack_0 ?_)
  simp only [wp_c, wp_n, jj_n, v_ct, Int.reduceToNat, Int.toNat_natCast, stE, wlE, lgt, lpu, lpw, v_c2, va_s, true_and, and_true, Option.toList, List.nil_append, List.cons_append, List.take, List.drop, List.reverse, List.reverseAux, List.length_cons, List.length_nil, reduceCtorEq, false_implies, true_implies, forall_const, not_true_eq_false, not_false_eq_true, ite_true, ite_false, Bool.false_eq_true, I_I, J_J, Nat.add_left_cancel_iff, Nat.reduceEqDiff, Nat.add_eq_left, Nat.left_eq_add, false_and, and_false, Nat.reduceSub, Nat.sub_self, Nat.le_refl, Nat.zero_le, ge_iff_le, Nat.reduceAdd, Nat.reduceLeDiff, Nat.zero_add, Nat.reduceLT]
  have := z_bk_4 (b := b) (o := o) (P := P) (w0 := w) (Q := Q) hT h5 ?_ (A 1).toNat 0 w .null (by omega) (hO.cg (by funext j; unfold o_bs; rw [if_neg (by omega)])) (FO.refl _ _)
  · exact this
  intro w1 x2 x3 h1 f1
  have F1 := h1.F
  have ge1 := h1.ge
  refine rt_X10_crankBack_111 ?_
  simp (disch := omega) only [wp_c, wp_n, jj_n, v_ct, Int.reduceToNat, Int.toNat_natCast, stE, wlE, lgt, lpu, lpw, v_c2, va_s, true_and, and_true, Option.toList, List.nil_append, List.cons_append, List.take, List.drop, List.reverse, List.reverseAux, List.length_cons, List.length_nil, reduceCtorEq, false_implies, true_implies, forall_const, not_true_eq_false, not_false_eq_true, ite_true, ite_false, Bool.false_eq_true, I_I, J_J, Nat.add_left_cancel_iff, Nat.reduceEqDiff, Nat.add_eq_left, Nat.left_eq_add, false_and, and_false, Nat.reduceSub, Nat.sub_self, Nat.le_refl, Nat.zero_le, ge_iff_le, Nat.reduceAdd, Nat.reduceLeDiff, Nat.zero_add, Nat.reduceLT, z_lt, z_le, z_eq, z_l0, z_g0, z_le0, z_ge0, z_e0, z_e1, z_vp, z_nc, z_rem, z_div, i_ltT, i_ltF, i_leT, i_leF, i_eqT, i_eqF, n_ltT, n_ltF, n_leT, n_leF, n_eqT, n_eqF, tn_9, tn_12, tn_14, tn_20, tn_28, tn_44, tn_52, tn_68, tn_84, tn_100, tn_116, tn_132, fu_e, up_eq, ob_0, ob_b, oi_add, oi_sub, oi_mul, oi_neg, Int.add_zero, Int.zero_add, or_true, true_or, or_false, false_or, and_self, z_i2l, z_l2i, lo_nat, lo_add, lo_sub, lo_mul, lo_0, e_rem, F1]
  intro q1 hq1
  have h2 := h1.copy (f := 16) (g := 22) (by omega) (by omega) rfl hq1
  have hb1 := h1.1.2.1
  have f2 : FO b w (s_R (s_C (s_K w1 q1) (P 22)) o 16 (some (100 + q1))) := (f1.C hq1 (by omega)).R hge.1
  have no1 : ¬ o = 100 + q1 := by omega
  generalize hw2 : s_R (s_C (s_K w1 q1) (P 22)) o 16 (some (100 + q1)) = w2 at h2 f2 ⊢
  have F2 := h2.F
  simp only [Nat.reduceEqDiff, ite_true, ite_false] at F2
  have hn2 : w_n w2 = q1 + 1 := by rw [← hw2]; rfl
  simp (disch := omega) only [wp_c, wp_n, jj_n, v_ct, Int.reduceToNat, Int.toNat_natCast, stE, wlE, lgt, lpu, lpw, v_c2, va_s, true_and, and_true, Option.toList, List.nil_append, List.cons_append, List.take, List.drop, List.reverse, List.reverseAux, List.length_cons, List.length_nil, reduceCtorEq, false_implies, true_implies, forall_const, not_true_eq_false, not_false_eq_true, ite_true, ite_false, Bool.false_eq_true, I_I, J_J, Nat.add_left_cancel_iff, Nat.reduceEqDiff, Nat.add_eq_left, Nat.left_eq_add, false_and, and_false, Nat.reduceSub, Nat.sub_self, Nat.le_refl, Nat.zero_le, ge_iff_le, Nat.reduceAdd, Nat.reduceLeDiff, Nat.zero_add, Nat.reduceLT, z_lt, z_le, z_eq, z_l0, z_g0, z_le0, z_ge0, z_e0, z_e1, z_vp, z_nc, z_rem, z_div, i_ltT, i_ltF, i_leT, i_leF, i_eqT, i_eqF, n_ltT, n_ltF, n_leT, n_leF, n_eqT, n_eqF, tn_9, tn_12, tn_14, tn_20, tn_28, tn_44, tn_52, tn_68, tn_84, tn_100, tn_116, tn_132, fu_e, up_eq, ob_0, ob_b, oi_add, oi_sub, oi_mul, oi_neg, Int.add_zero, Int.zero_add, or_true, true_or, or_false, false_or, and_self, z_i2l, z_l2i, lo_nat, lo_add, lo_sub, lo_mul, lo_0, e_rem, CK_sh, CK_shn no1, CK_Rn no1, F1, F2, h16]
  intro q2 hq2
  have hq2' : w_n w2 ≤ q2 := by omega
  have h3 := h2.new (f := 18) (n := 16) (by omega) rfl hq2'
  have f3 : FO b w (s_R (s_N (s_K w2 q2) (1, 16)) o 18 (some (100 + q2))) := (f2.N hq2' (by omega)).R hge.1
  have no2 : ¬ o = 100 + q2 := by omega
  generalize hw3 : s_R (s_N (s_K w2 q2) (1, 16)) o 18 (some (100 + q2)) = w3 at h3 f3 ⊢
  have F3 := h3.F
  simp only [Nat.reduceEqDiff, ite_true, ite_false] at F3
  have hn3 : w_n w3 = q2 + 1 := by rw [← hw3]; rfl
  simp (disch := omega) only [wp_c, wp_n, jj_n, v_ct, Int.reduceToNat, Int.toNat_natCast, stE, wlE, lgt, lpu, lpw, v_c2, va_s, true_and, and_true, Option.toList, List.nil_append, List.cons_append, List.take, List.drop, List.reverse, List.reverseAux, List.length_cons, List.length_nil, reduceCtorEq, false_implies, true_implies, forall_const, not_true_eq_false, not_false_eq_true, ite_true, ite_false, Bool.false_eq_true, I_I, J_J, Nat.add_left_cancel_iff, Nat.reduceEqDiff, Nat.add_eq_left, Nat.left_eq_add, false_and, and_false, Nat.reduceSub, Nat.sub_self, Nat.le_refl, Nat.zero_le, ge_iff_le, Nat.reduceAdd, Nat.reduceLeDiff, Nat.zero_add, Nat.reduceLT, z_lt, z_le, z_eq, z_l0, z_g0, z_le0, z_ge0, z_e0, z_e1, z_vp, z_nc, z_rem, z_div, i_ltT, i_ltF, i_leT, i_leF, i_eqT, i_eqF, n_ltT, n_ltF, n_leT, n_leF, n_eqT, n_eqF, tn_9, tn_12, tn_14, tn_20, tn_28, tn_44, tn_52, tn_68, tn_84, tn_100, tn_116, tn_132, fu_e, up_eq, ob_0, ob_b, oi_add, oi_sub, oi_mul, oi_neg, Int.add_zero, Int.zero_add, or_true, true_or, or_false, false_or, and_self, z_i2l, z_l2i, lo_nat, lo_add, lo_sub, lo_mul, lo_0, e_rem, NK_sh, NK_shn no2, NK_Rn no2, F2, F3, h16]
  intro q3 hq3
  have hq3' : w_n w3 ≤ q3 := by omega
  have h4 := h3.new (f := 20) (n := 16) (by omega) rfl hq3'
  have f4 : FO b w (s_R (s_N (s_K w3 q3) (1, 16)) o 20 (some (100 + q3))) := (f3.N hq3' (by omega)).R hge.1
  have no3 : ¬ o = 100 + q3 := by omega
  generalize hw4 : s_R (s_N (s_K w3 q3) (1, 16)) o 20 (some (100 + q3)) = w4 at h4 f4 ⊢
  simp (disch := omega) only [wp_c, wp_n, jj_n, v_ct, Int.reduceToNat, Int.toNat_natCast, stE, wlE, lgt, lpu, lpw, v_c2, va_s, true_and, and_true, Option.toList, List.nil_append, List.cons_append, List.take, List.drop, List.reverse, List.reverseAux, List.length_cons, List.length_nil, reduceCtorEq, false_implies, true_implies, forall_const, not_true_eq_false, not_false_eq_true, ite_true, ite_false, Bool.false_eq_true, I_I, J_J, Nat.add_left_cancel_iff, Nat.reduceEqDiff, Nat.add_eq_left, Nat.left_eq_add, false_and, and_false, Nat.reduceSub, Nat.sub_self, Nat.le_refl, Nat.zero_le, ge_iff_le, Nat.reduceAdd, Nat.reduceLeDiff, Nat.zero_add, Nat.reduceLT, z_lt, z_le, z_eq, z_l0, z_g0, z_le0, z_ge0, z_e0, z_e1, z_vp, z_nc, z_rem, z_div, i_ltT, i_ltF, i_leT, i_leF, i_eqT, i_eqF, n_ltT, n_ltF, n_leT, n_leF, n_eqT, n_eqF, tn_9, tn_12, tn_14, tn_20, tn_28, tn_44, tn_52, tn_68, tn_84, tn_100, tn_116, tn_132, fu_e, up_eq, ob_0, ob_b, oi_add, oi_sub, oi_mul, oi_neg, Int.add_zero, Int.zero_add, or_true, true_or, or_false, false_or, and_self, z_i2l, z_l2i, lo_nat, lo_add, lo_sub, lo_mul, lo_0, e_rem, NK_sh, NK_shn no3, NK_Rn no3, F3]
  have hR := hT.2.1.1
  have hJX := hT.2.2.1 h5
  obtain ⟨e28, e100, e14⟩ := bk_at hG h5
  have k0 := bk_0 hG
  have ek : ∀ j, j < 5 ∨ (6 ≤ j ∧ j < 9) ∨ (17 ≤ j ∧ j < 28) ∨ (44 ≤ j ∧ j < 52) ∨ (68 ≤ j ∧ j < 84) ∨ 116 ≤ j → r_bk A j = A j := fun j hj => bk_k (by omega) hj
  -- the row behind it
  have main : ∀ C : Row, (∀ j, C j = if 28 ≤ j ∧ j < 44 then B (1020 + (j - 28)) else if (52 ≤ j ∧ j < 68) ∨ (84 ≤ j ∧ j < 100) then 0 else if 100 ≤ j ∧ j < 100 + (A 1).toNat then B j + A (j - 16) else B j) → ∀ w5, OW w5 b o (fun g => if g = 20 then 100 + q3 else if g = 18 then 100 + q2 else if g = 16 then 100 + q1 else P g) (o_b3 C 5) → FO b w w5 → ∀ x2, RT n_X10_crankBack 166 [.ref o, .int (Int32.ofInt (m_ct A (A 1).toNat)), x2, x3] [] w5 (0, 0, false) Q := by
    intro C hC w5 m1 m2 x2
    have hF5 := m1.F
    have hge5 := m1.ge
    refine rt_X10_crankBack_166 ?_
    simp (disch := omega) only [wp_c, wp_n, jj_n, v_ct, Int.reduceToNat, Int.toNat_natCast, stE, wlE, lgt, lpu, lpw, v_c2, va_s, true_and, and_true, Option.toList, List.nil_append, List.cons_append, List.take, List.drop, List.reverse, List.reverseAux, List.length_cons, List.length_nil, reduceCtorEq, false_implies, true_implies, forall_const, not_true_eq_false, not_false_eq_true, ite_true, ite_false, Bool.false_eq_true, I_I, J_J, Nat.add_left_cancel_iff, Nat.reduceEqDiff, Nat.add_eq_left, Nat.left_eq_add, false_and, and_false, Nat.reduceSub, Nat.sub_self, Nat.le_refl, Nat.zero_le, ge_iff_le, Nat.reduceAdd, Nat.reduceLeDiff, Nat.zero_add, Nat.reduceLT, z_lt, z_le, z_eq, z_l0, z_g0, z_le0, z_ge0, z_e0, z_e1, z_vp, z_nc, z_rem, z_div, i_ltT, i_ltF, i_leT, i_leF, i_eqT, i_eqF, n_ltT, n_ltF, n_leT, n_leF, n_eqT, n_eqF, tn_9, tn_12, tn_14, tn_20, tn_28, tn_44, tn_52, tn_68, tn_84, tn_100, tn_116, tn_132, fu_e, up_eq, ob_0, ob_b, oi_add, oi_sub, oi_mul, oi_neg, Int.add_zero, Int.zero_add, or_true, true_or, or_false, false_or, and_self, z_i2l, z_l2i, lo_nat, lo_add, lo_sub, lo_mul, lo_0, e_rem, hF5.1, mr_X10_crankBack]
    have cB : ∀ j, (j < 5 ∨ (5 ≤ j ∧ j < 14) ∨ (17 ≤ j ∧ j < 28) ∨ (44 ≤ j ∧ j < 52) ∨ (68 ≤ j ∧ j < 84) ∨ 116 ≤ j) → o_b3 C 5 j = B j := fun j hj => by
      unfold o_b3
      rw [if_neg (by omega), hC, if_neg (by omega), if_neg (by omega), if_neg (by omega)]
    have c1 : ∀ j, ¬ (14 ≤ j ∧ j < 17) → o_b3 C 5 j = C j := fun j hj => by unfold o_b3; rw [if_neg (by omega)]
    have u5 : ∀ j, ¬ j = 5 → up (o_b3 C 5) 5 0 j = o_b3 C 5 j := fun j hj => by rw [up_eq, if_neg hj]
    refine hq _ _ (up (o_b3 C 5) 5 0) (m1.spart (v := 0)) (m2.trans ((FO.refl _ _).I hge5.1)) ⟨bk_GR hG, ⟨⟨fun j hj => ?_, fun i hi => ?_⟩, ?_, ?_, ?_, ?_⟩, fun q => ?_, ?_, ?_⟩ ?_ (fun hL => ⟨?_, fun j j1 j2 => ?_⟩)
    · rw [u5 j (by unfold RK at hj; omega)]
      by_cases q1 : 14 ≤ j ∧ j < 17
      · obtain ⟨k, rfl⟩ : ∃ k, j = 14 + k := ⟨j - 14, by omega⟩
        rw [e14 k (by omega)]
        unfold o_b3
        rw [if_pos (by omega), hC, if_neg (by omega), if_neg (by omega), if_neg (by omega), show 1040 + (14 + k - 12) = 1042 + k by omega]
        exact hJX.2.2.2.2 k (by omega)
      · rw [c1 j q1, hC]
        by_cases q2 : 28 ≤ j ∧ j < 44
        · obtain ⟨i, rfl⟩ : ∃ i, j = 28 + i := ⟨j - 28, by omega⟩
          rw [if_pos q2, e28 i (by omega), show 1020 + (28 + i - 28) = 1020 + i by omega]
          exact hJX.2.2.2.1 i (by omega)
        · rw [if_neg q2]
          by_cases q3 : 52 ≤ j ∧ j < 68
          · obtain ⟨i, rfl⟩ : ∃ i, j = 52 + i := ⟨j - 52, by omega⟩
            rw [if_pos (by omega), (k0.2.2 i (by omega)).1]
          · have q84 : ¬ (84 ≤ j ∧ j < 100) := by unfold RK at hj; omega
            rw [if_neg (by omega)]
            by_cases q4 : 100 ≤ j ∧ j < 116
            · obtain ⟨i, rfl⟩ : ∃ i, j = 100 + i := ⟨j - 100, by omega⟩
              rw [e100 i (by omega)]
              by_cases q5 : i < (A 1).toNat
              · rw [if_pos (by omega), show 100 + i - 16 = 84 + i by omega, hR.stp (by omega)]
              · have := (hG.2.1.2.1 i (by omega) (by omega)).2.2.1
                rw [if_neg (by omega), hR.stp (by omega), this, Int.add_zero]
            · rw [if_neg (by omega)]
              by_cases q6 : 12 ≤ j ∧ j < 14
              · rw [hR.1 j hj]
                exact (bk_12 hG h5 j q6).symm
              · rw [ek j (by unfold RK at hj; omega)]; exact hR.1 j hj
    · rw [u5 _ (by omega), c1 _ (by omega), hC, if_neg (by omega), if_pos (by omega), (k0.2.2 i hi).2]; rfl
    · rw [up_eq, if_pos rfl, k0.1]
    · rw [u5 _ (by omega), cB _ (by omega), hT.2.1.2.2.1]
      exact (k_c (ek _ (by omega)) (by omega) (fun j hj => ek _ (by omega))).symm
    · rw [u5 _ (by omega), cB _ (by omega), hT.2.1.2.2.2.1]
      exact (d_c (ek _ (by omega)) (by omega) (fun j hj => ek _ (by omega))).symm
    · rw [u5 _ (by omega), cB _ (by omega), u5 _ (by omega), cB _ (by omega)]; exact hT.2.1.2.2.2.2
    · rw [k0.1] at q; omega
    · have := e14 0 (by omega)
      have h9 : A 9 = 0 := by
        rcases hG.2.2.2 with q | q
        · omega
        · exact q.2.1
      simp only [Nat.add_zero] at this
      have := hT.2.2.2.1
      omega
    · have := e14 0 (by omega)
      have h9 : A 9 = 0 := by
        rcases hG.2.2.2 with q | q
        · omega
        · exact q.2.1
      simp only [Nat.add_zero] at this
      have := hT.2.2.2.2
      omega
    · rw [u5 _ (by omega), cB _ (by omega)]
    · rw [u5 _ (by omega), cB _ (by omega), ek _ (by omega)]; exact hL.1
    · rw [u5 _ (by omega), cB _ (by omega), ek _ (by omega)]; exact hL.2 j j1 j2
  have := z_bk_143 (b := b) (o := o) (w0 := w) (x1 := Int32.ofInt (m_ct A (A 1).toNat)) (v3 := x3) (g := (0, 0, false)) (Q := Q) (B := fun j => if 28 ≤ j ∧ j < 44 then B (1020 + (j - 28)) else if (52 ≤ j ∧ j < 68) ∨ (84 ≤ j ∧ j < 100) then 0 else if 100 ≤ j ∧ j < 100 + (A 1).toNat then B j + A (j - 16) else B j) (fun w5 m1 m2 x2 => main _ (fun j => rfl) w5 m1 m2 x2) 3 2 w4 (by omega) (by omega) (h4.cg ?_) f4
  · exact this
  · funext j
    unfold o_b3
    rw [if_neg (by omega)]
    simp only [olen, oi, o_bs, Nat.reduceEqDiff, ite_true, ite_false, Nat.add_zero, Nat.reduceAdd]
    rcases (show (28 ≤ j ∧ j < 44) ∨ (52 ≤ j ∧ j < 68) ∨ (84 ≤ j ∧ j < 100) ∨ (100 ≤ j ∧ j < 100 + (A 1).toNat) ∨ (¬ (28 ≤ j ∧ j < 44) ∧ ¬ (52 ≤ j ∧ j < 68) ∧ ¬ (84 ≤ j ∧ j < 100) ∧ ¬ (100 ≤ j ∧ j < 100 + (A 1).toNat)) by omega) with q | q | q | q | q
    all_goals simp (disch := omega) only [if_pos, if_neg]
-- 53.own
/-! going on from a jam -/
theorem z_free {b o : Nat} {P : Nat → Nat} {A B : Row} {N : Int} {w : mW} {Q : mW → mO → Prop} (hO : OW w b o P B) (hT : TS A B N) (h5 : 0 < A 5) (hN : N ≤ 900000000)
  (hq : ∀ w' B', OW w' b o P B' → FO b w w' → TS (a_fin (a_go (a_fr A) (A 5 - 1).toNat (A 6).toNat 0 0)) B' (N + 1) → B' 1000 = B 1000 → (LX A B → LX (a_fin (a_go (a_fr A) (A 5 - 1).toNat (A 6).toNat 0 0)) B') → Q w' (.inl (some (.int (Int32.ofInt (match (a_go (a_fr A) (A 5 - 1).toNat (A 6).toNat 0 0).2.1 with | none => 1 | some _ => 0)))))) : CT n_X10_free [.ref o] w Q := by
  obtain ⟨hG, ⟨hR, b5, hk, hdu, h11⟩, hJX, h14⟩ := hT
  obtain ⟨x6, x7, x8, x20, x42⟩ := hJX h5
  have hz := hG.sz
  have hJI : JI A ∧ A 9 = 0 ∧ JM A := by
    rcases hG.2.2.2 with q | q
    · omega
    · exact q
  have hJ := hG.1.1
  have hTI := TJ_TI hJ hJI.1.2.1
  have hjw := JI_jw hJI.1 hJ
  obtain ⟨j, hjn⟩ : ∃ j : Nat, a_jw A = j := ⟨(a_jw A).toNat, by omega⟩
  have hj16 : j < 16 := by omega
  have hf := hTI.2.2.2.2.2.2 j hj16
  have hF := hO.F
  have hV := hO.V
  have hge := hO.ge
  have hs := hR.sz
  have g17 := hge.2 17 (by omega) (by omega)
  have hfr : a_fr A = up (up A (68 + j) (A (68 + j) % 2)) 5 0 := by unfold a_fr; rw [hjn]; rfl
  have hk1 : ∀ i, i ≠ 5 → ¬ i = 68 + j → a_fr A i = A i := fun i h1 h2 => by rw [hfr, up_eq, if_neg h1, up_eq, if_neg h2]
  have hTI1 : TI (a_fr A) := by
    rw [hfr]; exact (flt_TI hTI ⟨by omega, by omega⟩ hj16).up (by omega)
  have b68 := hR.flt hj16
  have h12 : B 5 = 1 ∨ B 5 = 2 := by rcases hJI.1.1 with q | q <;> omega
  have ewh : (if B 5 = 1 then B 4 + B 6 else B 6 + 1) = (j : Int) := by rw [← hjn, a_jw, b5, hs.2.2.2.2, x6]
  have hp : ((A 5 - 1).toNat = 0 ∧ ((A 6).toNat : Int) ≤ a_fr A 0) ∨ ((A 5 - 1).toNat = 1 ∧ ((A 6).toNat : Int) ≤ a_fr A 1) := by
    rw [hk1 0 (by omega) (by omega), hk1 1 (by omega) (by omega)]
    rcases hJI.1.1 with q | q
    · left; omega
    · right; omega
  have e5 : B 5 = ((A 5 - 1).toNat : Int) + 1 := by omega
  have e6 : B 6 = ((A 6).toNat : Int) := by rcases hJI.1.1 with q | q <;> omega
  have hM84 := mb hG h5
  refine ct_X10_free (rt_X10_free_0 ?_)
  simp (disch := omega) only [wp_c, wp_n, jj_n, v_ct, Int.reduceToNat, Int.toNat_natCast, stE, wlE, lgt, lpu, lpw, v_c2, va_s, true_and, and_true, Option.toList, List.nil_append, List.cons_append, List.take, List.drop, List.reverse, List.reverseAux, List.length_cons, List.length_nil, reduceCtorEq, false_implies, true_implies, forall_const, not_true_eq_false, not_false_eq_true, ite_true, ite_false, Bool.false_eq_true, I_I, J_J, Nat.add_left_cancel_iff, Nat.reduceEqDiff, Nat.add_eq_left, Nat.left_eq_add, false_and, and_false, Nat.reduceSub, Nat.sub_self, Nat.le_refl, Nat.zero_le, ge_iff_le, Nat.reduceAdd, Nat.reduceLeDiff, Nat.zero_add, Nat.reduceLT, z_lt, z_le, z_eq, z_l0, z_g0, z_le0, z_ge0, z_e0, z_e1, z_vp, z_nc, z_rem, z_div, i_ltT, i_ltF, i_leT, i_leF, i_eqT, i_eqF, n_ltT, n_ltF, n_leT, n_leF, n_eqT, n_eqF, tn_9, tn_12, tn_14, tn_20, tn_28, tn_44, tn_52, tn_68, tn_84, tn_100, tn_116, tn_132, fu_e, up_eq, ob_0, ob_b, oi_add, oi_sub, oi_mul, oi_neg, Int.add_zero, Int.zero_add, or_true, true_or, or_false, false_or, and_self, z_i2l, z_l2i, lo_nat, lo_add, lo_sub, lo_mul, lo_0, e_rem, hF, mh_X10_free]
  refine z_wheel hO h12 ?_
  rw [ewh]
  have h1 := hO.sflt (j := j) (v := A (68 + j) % 2) hj16
  have f1 : FO b w (s_I w (P 17) j (Int32.ofInt (A (68 + j) % 2))) := (FO.refl _ _).I g17
  have hF1 := h1.F
  have hV1 := h1.V
  have u : ∀ i, ¬ i = 68 + j → up B (68 + j) (A (68 + j) % 2) i = B i := fun i hi => by rw [up_eq, if_neg hi]
  have hE := hO.E
  simp (disch := omega) only [wp_c, wp_n, jj_n, v_ct, Int.reduceToNat, Int.toNat_natCast, stE, wlE, lgt, lpu, lpw, v_c2, va_s, true_and, and_true, Option.toList, List.nil_append, List.cons_append, List.take, List.drop, List.reverse, List.reverseAux, List.length_cons, List.length_nil, reduceCtorEq, false_implies, true_implies, forall_const, not_true_eq_false, not_false_eq_true, ite_true, ite_false, Bool.false_eq_true, I_I, J_J, Nat.add_left_cancel_iff, Nat.reduceEqDiff, Nat.add_eq_left, Nat.left_eq_add, false_and, and_false, Nat.reduceSub, Nat.sub_self, Nat.le_refl, Nat.zero_le, ge_iff_le, Nat.reduceAdd, Nat.reduceLeDiff, Nat.zero_add, Nat.reduceLT, z_lt, z_le, z_eq, z_l0, z_g0, z_le0, z_ge0, z_e0, z_e1, z_vp, z_nc, z_rem, z_div, i_ltT, i_ltF, i_leT, i_leF, i_eqT, i_eqF, n_ltT, n_ltF, n_leT, n_leF, n_eqT, n_eqF, tn_9, tn_12, tn_14, tn_20, tn_28, tn_44, tn_52, tn_68, tn_84, tn_100, tn_116, tn_132, fu_e, up_eq, ob_0, ob_b, oi_add, oi_sub, oi_mul, oi_neg, Int.add_zero, Int.zero_add, or_true, true_or, or_false, false_or, and_self, z_i2l, z_l2i, lo_nat, lo_add, lo_sub, lo_mul, lo_0, e_rem, hF, hE, hV, b68, and_1 _ hf, e5, e6, mh_X10_free]
  have hR1 : RAB (a_fr A) (up B (68 + j) (A (68 + j) % 2)) := by
    rw [hfr]
    refine ⟨fun i hi => ?_, fun i hi => ?_⟩
    · unfold RK at hi
      rw [up_eq (up A (68 + j) (A (68 + j) % 2)), if_neg (by omega), up_eq, up_eq]
      split
      · rfl
      · exact hR.1 i hi
    · rw [up_eq (up A (68 + j) (A (68 + j) % 2)), if_neg (by omega), up_eq, if_neg (by omega), up_eq, if_neg (by omega)]; exact hR.2 i hi
  have c14 : B 1042 = A 14 - A 9 := by have := x42 0 (by omega); simpa using this
  refine z_goOn (A := a_fr A) (part := (A 5 - 1).toNat) (pl := (A 6).toNat) (c := Int32.ofInt (B 1010)) (l := Int32.ofInt (B 1009)) h1 hTI1 (fun i hi => by rw [hk1 _ (by omega) (by omega)]; exact (hM84 i hi).1) hR1 (by rw [u _ (by omega), hk1 _ (by omega) (by omega)]; exact x7) (by rw [u _ (by omega), hk1 _ (by omega) (by omega)]; exact x8) (by rw [hk1 _ (by omega) (by omega)]; exact hG.1.2.1) ?_ ?_ (by rw [u _ (by omega), u _ (by omega)]; exact h11) (by rw [hk1 _ (by omega) (by omega)]; exact hG.1.2.2.1) (fun i hi => by rw [hk1 _ (by omega) (by omega)]; exact hJ.2 i hi)
    (by rw [u _ (by omega), hk1 _ (by omega) (by omega), hk1 _ (by omega) (by omega)]; exact c14) (by rw [u _ (by omega), c14, hJI.2.1]; omega) (by rw [hk1 _ (by omega) (by omega)]; exact hJI.2.1) (by rw [u _ (by omega)]) (by rw [u _ (by omega)]) hp ?_
  · rw [u _ (by omega), hk]
    exact (k_c (hk1 _ (by omega) (by omega)) (by omega) (fun i hi => hk1 _ (by omega) (by omega))).symm
  · rw [u _ (by omega), hdu]
    exact (d_c (hk1 _ (by omega) (by omega)) (by omega) (fun i hi => hk1 _ (by omega) (by omega))).symm
  · intro w2 B2 m1 m2 m3 m4 m5 m6 m7 m8
    have ecl := go_cl (a_fr A) (A 5 - 1).toNat (A 6).toNat (Int32.ofInt (B 1010)) (Int32.ofInt (B 1009)) 0 0
    have efl := fin_cl (a_fr A) (A 5 - 1).toNat (A 6).toNat (Int32.ofInt (B 1010)) (Int32.ofInt (B 1009)) 0 0
    have hfk := (fin_k (c := 0) (l := 0) hTI1 hp (by rw [hk1 _ (by omega) (by omega)]; exact hG.1.2.2.1) (fun i hi => by rw [hk1 _ (by omega) (by omega)]; exact hJ.2 i hi)).1
    have hfG := free_GR hG h5
    rw [efl] at m3 m5 m7 m8
    rw [ecl.2]
    have f7 := m7.1
    rw [hk1 7 (by omega) (by omega)] at f7
    have f8 := hfk 8 (by unfold kg; omega) (by omega) (by omega) (by omega)
    rw [hk1 8 (by omega) (by omega)] at f8
    have s0 := m7.2.1 0 (by omega)
    simp only [Nat.add_zero] at s0
    rw [hk1 14 (by omega) (by omega), hk1 9 (by omega) (by omega)] at s0
    have h9 := hfG.2.2.1
    have hJ9 := hJI.2.1
    have hres : TS (a_fin (a_go (a_fr A) (A 5 - 1).toNat (A 6).toNat 0 0)) B2 (N + 1) := by
      refine ⟨hfG, m3, fun q => ⟨m5 q, ?_, ?_, fun i hi => ?_, fun i hi => ?_⟩, by omega, by omega⟩
      · rw [m4 7 (by omega), u _ (by omega), f7]; exact x7
      · rw [m4 8 (by omega), u _ (by omega), f8]; exact x8
      · have := m7.2.2 i hi
        rw [hk1 7 (by omega) (by omega), hk1 _ (by omega) (by omega), hk1 (84 + i) (by omega) (by omega)] at this
        rw [m4 _ (by omega), u _ (by omega), f7, this]; exact x20 i hi
      · have := m7.2.1 i hi
        rw [hk1 (14 + i) (by omega) (by omega), hk1 (9 + i) (by omega) (by omega)] at this
        rw [m4 _ (by omega), u _ (by omega), this]; exact x42 i hi
    have hqq := hq w2 B2 m1 (f1.trans m2) hres (by rw [m4 1000 (by omega), u _ (by omega)]) (fun hL => m8 ⟨by rw [u _ (by omega), hk1 _ (by omega) (by omega)]; exact hL.1, fun i i1 i2 => by rw [u _ (by omega), hk1 _ (by omega) (by omega)]; exact hL.2 i i1 i2⟩)
    cases ho : (a_go (a_fr A) (A 5 - 1).toNat (A 6).toNat 0 0).2.1 with
    | none =>
      rw [ho] at hqq
      simp (disch := omega) only [wp_c, wp_n, jj_n, v_ct, Int.reduceToNat, Int.toNat_natCast, stE, wlE, lgt, lpu, lpw, v_c2, va_s, true_and, and_true, Option.toList, List.nil_append, List.cons_append, List.take, List.drop, List.reverse, List.reverseAux, List.length_cons, List.length_nil, reduceCtorEq, false_implies, true_implies, forall_const, not_true_eq_false, not_false_eq_true, ite_true, ite_false, Bool.false_eq_true, I_I, J_J, Nat.add_left_cancel_iff, Nat.reduceEqDiff, Nat.add_eq_left, Nat.left_eq_add, false_and, and_false, Nat.reduceSub, Nat.sub_self, Nat.le_refl, Nat.zero_le, ge_iff_le, Nat.reduceAdd, Nat.reduceLeDiff, Nat.zero_add, Nat.reduceLT, z_lt, z_le, z_eq, z_l0, z_g0, z_le0, z_ge0, z_e0, z_e1, z_vp, z_nc, z_rem, z_div, i_ltT, i_ltF, i_leT, i_leF, i_eqT, i_eqF, n_ltT, n_ltF, n_leT, n_leF, n_eqT, n_eqF, tn_9, tn_12, tn_14, tn_20, tn_28, tn_44, tn_52, tn_68, tn_84, tn_100, tn_116, tn_132, fu_e, up_eq, ob_0, ob_b, oi_add, oi_sub, oi_mul, oi_neg, Int.add_zero, Int.zero_add, or_true, true_or, or_false, false_or, and_self, z_i2l, z_l2i, lo_nat, lo_add, lo_sub, lo_mul, lo_0, e_rem]
      refine rt_X10_free_33 ?_
      simp (disch := omega) only [wp_c, wp_n, jj_n, v_ct, Int.reduceToNat, Int.toNat_natCast, stE, wlE, lgt, lpu, lpw, v_c2, va_s, true_and, and_true, Option.toList, List.nil_append, List.cons_append, List.take, List.drop, List.reverse, List.reverseAux, List.length_cons, List.length_nil, reduceCtorEq, false_implies, true_implies, forall_const, not_true_eq_false, not_false_eq_true, ite_true, ite_false, Bool.false_eq_true, I_I, J_J, Nat.add_left_cancel_iff, Nat.reduceEqDiff, Nat.add_eq_left, Nat.left_eq_add, false_and, and_false, Nat.reduceSub, Nat.sub_self, Nat.le_refl, Nat.zero_le, ge_iff_le, Nat.reduceAdd, Nat.reduceLeDiff, Nat.zero_add, Nat.reduceLT, z_lt, z_le, z_eq, z_l0, z_g0, z_le0, z_ge0, z_e0, z_e1, z_vp, z_nc, z_rem, z_div, i_ltT, i_ltF, i_leT, i_leF, i_eqT, i_eqF, n_ltT, n_ltF, n_leT, n_leF, n_eqT, n_eqF, tn_9, tn_12, tn_14, tn_20, tn_28, tn_44, tn_52, tn_68, tn_84, tn_100, tn_116, tn_132, fu_e, up_eq, ob_0, ob_b, oi_add, oi_sub, oi_mul, oi_neg, Int.add_zero, Int.zero_add, or_true, true_or, or_false, false_or, and_self, z_i2l, z_l2i, lo_nat, lo_add, lo_sub, lo_mul, lo_0, e_rem, mr_X10_free]
      exact hqq
    | some y =>
      rw [ho] at hqq
      simp (disch := omega) only [wp_c, wp_n, jj_n, v_ct, Int.reduceToNat, Int.toNat_natCast, stE, wlE, lgt, lpu, lpw, v_c2, va_s, true_and, and_true, Option.toList, List.nil_append, List.cons_append, List.take, List.drop, List.reverse, List.reverseAux, List.length_cons, List.length_nil, reduceCtorEq, false_implies, true_implies, forall_const, not_true_eq_false, not_false_eq_true, ite_true, ite_false, Bool.false_eq_true, I_I, J_J, Nat.add_left_cancel_iff, Nat.reduceEqDiff, Nat.add_eq_left, Nat.left_eq_add, false_and, and_false, Nat.reduceSub, Nat.sub_self, Nat.le_refl, Nat.zero_le, ge_iff_le, Nat.reduceAdd, Nat.reduceLeDiff, Nat.zero_add, Nat.reduceLT, z_lt, z_le, z_eq, z_l0, z_g0, z_le0, z_ge0, z_e0, z_e1, z_vp, z_nc, z_rem, z_div, i_ltT, i_ltF, i_leT, i_leF, i_eqT, i_eqF, n_ltT, n_ltF, n_leT, n_leF, n_eqT, n_eqF, tn_9, tn_12, tn_14, tn_20, tn_28, tn_44, tn_52, tn_68, tn_84, tn_100, tn_116, tn_132, fu_e, up_eq, ob_0, ob_b, oi_add, oi_sub, oi_mul, oi_neg, Int.add_zero, Int.zero_add, or_true, true_or, or_false, false_or, and_self, z_i2l, z_l2i, lo_nat, lo_add, lo_sub, lo_mul, lo_0, e_rem]
      refine rt_X10_free_32 ?_
      simp (disch := omega) only [wp_c, wp_n, jj_n, v_ct, Int.reduceToNat, Int.toNat_natCast, stE, wlE, lgt, lpu, lpw, v_c2, va_s, true_and, and_true, Option.toList, List.nil_append, List.cons_append, List.take, List.drop, List.reverse, List.reverseAux, List.length_cons, List.length_nil, reduceCtorEq, false_implies, true_implies, forall_const, not_true_eq_false, not_false_eq_true, ite_true, ite_false, Bool.false_eq_true, I_I, J_J, Nat.add_left_cancel_iff, Nat.reduceEqDiff, Nat.add_eq_left, Nat.left_eq_add, false_and, and_false, Nat.reduceSub, Nat.sub_self, Nat.le_refl, Nat.zero_le, ge_iff_le, Nat.reduceAdd, Nat.reduceLeDiff, Nat.zero_add, Nat.reduceLT, z_lt, z_le, z_eq, z_l0, z_g0, z_le0, z_ge0, z_e0, z_e1, z_vp, z_nc, z_rem, z_div, i_ltT, i_ltF, i_leT, i_leF, i_eqT, i_eqF, n_ltT, n_ltF, n_leT, n_leF, n_eqT, n_eqF, tn_9, tn_12, tn_14, tn_20, tn_28, tn_44, tn_52, tn_68, tn_84, tn_100, tn_116, tn_132, fu_e, up_eq, ob_0, ob_b, oi_add, oi_sub, oi_mul, oi_neg, Int.add_zero, Int.zero_add, or_true, true_or, or_false, false_or, and_self, z_i2l, z_l2i, lo_nat, lo_add, lo_sub, lo_mul, lo_0, e_rem]
      refine rt_X10_free_33 ?_
      simp (disch := omega) only [wp_c, wp_n, jj_n, v_ct, Int.reduceToNat, Int.toNat_natCast, stE, wlE, lgt, lpu, lpw, v_c2, va_s, true_and, and_true, Option.toList, List.nil_append, List.cons_append, List.take, List.drop, List.reverse, List.reverseAux, List.length_cons, List.length_nil, reduceCtorEq, false_implies, true_implies, forall_const, not_true_eq_false, not_false_eq_true, ite_true, ite_false, Bool.false_eq_true, I_I, J_J, Nat.add_left_cancel_iff, Nat.reduceEqDiff, Nat.add_eq_left, Nat.left_eq_add, false_and, and_false, Nat.reduceSub, Nat.sub_self, Nat.le_refl, Nat.zero_le, ge_iff_le, Nat.reduceAdd, Nat.reduceLeDiff, Nat.zero_add, Nat.reduceLT, z_lt, z_le, z_eq, z_l0, z_g0, z_le0, z_ge0, z_e0, z_e1, z_vp, z_nc, z_rem, z_div, i_ltT, i_ltF, i_leT, i_leF, i_eqT, i_eqF, n_ltT, n_ltF, n_leT, n_leF, n_eqT, n_eqF, tn_9, tn_12, tn_14, tn_20, tn_28, tn_44, tn_52, tn_68, tn_84, tn_100, tn_116, tn_132, fu_e, up_eq, ob_0, ob_b, oi_add, oi_sub, oi_mul, oi_neg, Int.add_zero, Int.zero_add, or_true, true_or, or_false, false_or, and_self, z_i2l, z_l2i, lo_nat, lo_add, lo_sub, lo_mul, lo_0, e_rem, mr_X10_free]
      exact hqq
-- 55.own
/-! clearing -/
theorem clr_at {A : Row} {t : Int} (ht : 0 ≤ t ∧ t ≤ 3) : (∀ j, (a_clear A t).1 j = if ((28 ≤ j ∧ j < 44 ∨ 116 ≤ j ∧ j < 132) ∧ t < 2) ∨ ((44 ≤ j ∧ j < 52) ∧ (t = 0 ∨ t = 2)) ∨ ((20 ≤ j ∧ j < 28) ∧ (t = 0 ∨ t = 3)) then 0 else A j) ∧ (a_clear A t).2 = (if t < 2 then a_zc A 28 16 else 0) + (if t = 0 ∨ t = 2 then a_zc A 44 8 else 0) + (if t = 0 ∨ t = 3 then a_zc A 20 8 else 0) := by
  have zc : ∀ (X : Row) (lo n : Nat), (∀ i, i < n → X (lo + i) = A (lo + i)) → a_zc X lo n = a_zc A lo n := by
    intro X lo n
    induction n with
    | zero => intro _; rfl
    | succ n ih => intro h; rw [a_zc, a_zc, ih (fun i hi => h i (by omega)), h n (by omega)]
  have e1 : ∀ i, i < 8 → a_z 116 16 (a_z 28 16 A) (44 + i) = A (44 + i) := fun i hi => by unfold a_z; rw [if_neg (by omega), if_neg (by omega)]
  have e2 : ∀ i, i < 8 → a_z 116 16 (a_z 28 16 A) (20 + i) = A (20 + i) := fun i hi => by unfold a_z; rw [if_neg (by omega), if_neg (by omega)]
  have e3 : ∀ i, i < 8 → a_z 44 8 (a_z 116 16 (a_z 28 16 A)) (20 + i) = A (20 + i) := fun i hi => by unfold a_z; rw [if_neg (by omega), if_neg (by omega), if_neg (by omega)]
  rcases (show t = 0 ∨ t = 1 ∨ t = 2 ∨ t = 3 by omega) with rfl | rfl | rfl | rfl
  · have e : a_clear A 0 = (a_z 20 8 (a_z 44 8 (a_z 116 16 (a_z 28 16 A))), a_zc A 28 16 + a_zc (a_z 116 16 (a_z 28 16 A)) 44 8 + a_zc (a_z 44 8 (a_z 116 16 (a_z 28 16 A))) 20 8) := by simp [a_clear, a_c1, a_c2, a_c3]
    rw [e]
    refine ⟨fun j => ?_, ?_⟩
    · show a_z 20 8 (a_z 44 8 (a_z 116 16 (a_z 28 16 A))) j = _
      unfold a_z
      repeat' split
      all_goals first | rfl | omega
    · show _ + _ + _ = _
      rw [zc _ _ _ e1, zc _ _ _ e3, if_pos (by omega), if_pos (by omega), if_pos (by omega)]
  · have e : a_clear A 1 = (a_z 116 16 (a_z 28 16 A), a_zc A 28 16) := by simp [a_clear, a_c1, a_c2, a_c3]
    rw [e]
    refine ⟨fun j => ?_, ?_⟩
    · show a_z 116 16 (a_z 28 16 A) j = _
      unfold a_z
      repeat' split
      all_goals first | rfl | omega
    · show a_zc A 28 16 = _
      rw [if_pos (by omega), if_neg (by omega), if_neg (by omega)]; omega
  · have e : a_clear A 2 = (a_z 44 8 A, 0 + a_zc A 44 8) := by simp [a_clear, a_c1, a_c2, a_c3]
    rw [e]
    refine ⟨fun j => ?_, ?_⟩
    · show a_z 44 8 A j = _
      unfold a_z
      repeat' split
      all_goals first | rfl | omega
    · show 0 + a_zc A 44 8 = _
      rw [if_neg (by omega), if_pos (by omega), if_neg (by omega)]; omega
  · have e : a_clear A 3 = (a_z 20 8 A, 0 + a_zc A 20 8) := by simp [a_clear, a_c1, a_c2, a_c3]
    rw [e]
    refine ⟨fun j => ?_, ?_⟩
    · show a_z 20 8 A j = _
      unfold a_z
      repeat' split
      all_goals first | rfl | omega
    · show 0 + a_zc A 20 8 = _
      rw [if_neg (by omega), if_neg (by omega), if_pos (by omega)]; omega
theorem tn_z {f : Nat → Int} : ∀ (n : Nat), (∀ i, i < n → 0 ≤ f i ∧ f i ≤ 9) → tn f n = 0 → ∀ i, i < n → f i = 0 := by
  intro n
  induction n with
  | zero => intro _ _ i hi; omega
  | succ n ih =>
    intro h h0 i hi
    have hp : (0 : Int) < 10 ^ n := Int.pow_pos (by decide)
    have hb := tn_b f n (fun i hi => h i (by omega))
    have hn := h n (by omega)
    rw [tn] at h0
    have hm : 0 ≤ f n * 10 ^ n := Int.mul_nonneg hn.1 (Int.le_of_lt hp)
    have e0 : tn f n = 0 := by omega
    have e1 : f n * 10 ^ n = 0 := by omega
    by_cases q : i = n
    · subst q
      rcases Int.mul_eq_zero.mp e1 with r | r
      · exact r
      · omega
    · exact ih (fun i hi => h i (by omega)) e0 i (by omega)
/-- the counter, from a digit on -/
def ctv (A : Row) (j : Nat) : Int := tn (fun i => A (44 + (j + i))) (8 - j)
theorem ctv_s {A : Row} {j : Nat} (hj : j < 8) : ctv A j = A (44 + j) + 10 * ctv A (j + 1) := by
  unfold ctv
  rw [show 8 - j = (8 - (j + 1)) + 1 by omega, tn_first]
  congr 2
  exact tn_c _ (fun i hi => by rw [show j + (i + 1) = j + 1 + i by omega])
theorem tn_ex {f : Nat → Int} (n : Nat) : ∀ m : Nat, (∀ i, n ≤ i → f i = 0) → tn f (n + m) = tn f n := by
  intro m h
  induction m with
  | zero => rfl
  | succ m ih => rw [← Nat.add_assoc, tn, ih, h _ (by omega), Int.zero_mul, Int.add_zero]
theorem ctv_0 {A : Row} (h2 : 0 ≤ A 2 ∧ A 2 ≤ 8) (hz : ∀ j : Nat, j < 8 → A 2 ≤ j → A (44 + j) = 0) : ctv A 0 = k_num A := by
  unfold ctv k_num
  rw [hn_tn, Int.zero_mul, Int.zero_add]
  obtain ⟨k, hk⟩ : ∃ k : Nat, A 2 = k := ⟨(A 2).toNat, by omega⟩
  rw [show (A 2).toNat = k by omega, show 8 - 0 = k + (8 - k) by omega]
  have e : ∀ n, tn (fun i => A (44 + (0 + i))) n = tn (fun i => A (44 + i)) n := fun n => tn_c _ (fun i _ => by rw [Nat.zero_add])
  rw [e]
  have : ∀ m, k + m ≤ 8 → tn (fun i => A (44 + i)) (k + m) = tn (fun i => A (44 + i)) k := by
    intro m
    induction m with
    | zero => intro _; rfl
    | succ m ih => intro hm; rw [← Nat.add_assoc, tn, ih (by omega), hz (k + m) (by omega) (by omega), Int.zero_mul, Int.add_zero]
  exact this _ (by omega)
theorem ctv_b {A : Row} (hd : ∀ j, j < 8 → 0 ≤ A (44 + j) ∧ A (44 + j) ≤ 9) (j : Nat) (hj : j ≤ 8) : 0 ≤ ctv A j ∧ ctv A j < 100000000 := by
  have := tn_b (fun i => A (44 + (j + i))) (8 - j) (fun i hi => hd (j + i) (by omega))
  have hp := p8 (8 - j) (by omega)
  unfold ctv
  omega
theorem zc_b' (A : Row) (lo n : Nat) : 0 ≤ a_zc A lo n ∧ a_zc A lo n ≤ n := zc_b A lo n
theorem zc_rest {A : Row} {lo j : Nat} : ∀ m : Nat, (∀ i, j ≤ i → i < j + m → A (lo + i) = 0) → a_zc A lo (j + m) = a_zc A lo j := by
  intro m
  induction m with
  | zero => intro _; rfl
  | succ m ih =>
    intro h
    rw [← Nat.add_assoc, a_zc, ih (fun i h1 h2 => h i h1 (by omega)), h (j + m) (by omega) (by omega), if_pos rfl, Int.add_zero]
section
variable {b o : Nat} {P : Nat → Nat} {A B : Row} {t : Int} {w : mW} {g : mG} {Q : mW → mO → Prop}
theorem z_cl_4 (hO : OW w b o P B) (ht : 0 ≤ t ∧ t < 2) (hd : ∀ j, j < 16 → B (28 + j) = A (28 + j) ∧ 0 ≤ A (28 + j) ∧ A (28 + j) ≤ 9) (hq : ∀ v3 v4, RT n_X10_clear 38 [.ref o, .int (Int32.ofInt t), .int (Int32.ofInt (a_zc A 28 16)), v3, v4] [] w g Q) : ∀ (n i : Nat) (v4 : Value), i + n = 16 → RT n_X10_clear 4 [.ref o, .int (Int32.ofInt t), .int (Int32.ofInt (a_zc A 28 i)), .int (Int32.ofInt i), v4] [] w g Q := by
  have hF := hO.F
  have hV := hO.V
  intro n
  induction n with
  | zero =>
    intro i v4 hi
    have e : i = 16 := by omega
    subst e
    refine rt_X10_clear_4 ?_
    simp (disch := omega) only [wp_c, wp_n, jj_n, v_ct, Int.reduceToNat, Int.toNat_natCast, stE, wlE, lgt, lpu, lpw, v_c2, va_s, true_and, and_true, Option.toList, List.nil_append, List.cons_append, List.take, List.drop, List.reverse, List.reverseAux, List.length_cons, List.length_nil, reduceCtorEq, false_implies, true_implies, forall_const, not_true_eq_false, not_false_eq_true, ite_true, ite_false, Bool.false_eq_true, I_I, J_J, Nat.add_left_cancel_iff, Nat.reduceEqDiff, Nat.add_eq_left, Nat.left_eq_add, false_and, and_false, Nat.reduceSub, Nat.sub_self, Nat.le_refl, Nat.zero_le, ge_iff_le, Nat.reduceAdd, Nat.reduceLeDiff, Nat.zero_add, Nat.reduceLT, z_lt, z_le, z_eq, z_l0, z_g0, z_le0, z_ge0, z_e0, z_e1, z_vp, z_nc, z_rem, z_div, i_ltT, i_ltF, i_leT, i_leF, i_eqT, i_eqF, n_ltT, n_ltF, n_leT, n_leF, n_eqT, n_eqF, tn_9, tn_12, tn_14, tn_20, tn_28, tn_44, tn_52, tn_68, tn_84, tn_100, tn_116, tn_132, fu_e, up_eq, ob_0, ob_b, oi_add, oi_sub, oi_mul, oi_neg, Int.add_zero, Int.zero_add, or_true, true_or, or_false, false_or, and_self, z_i2l, z_l2i, lo_nat, lo_add, lo_sub, lo_mul, lo_0, e_rem]
    exact hq _ _
  | succ n ih =>
    intro i v4 hi
    obtain ⟨d1, d2⟩ := hd i (by omega)
    have hz := zc_b A 28 i
    refine rt_X10_clear_4 ?_
    simp (disch := omega) only [wp_c, wp_n, jj_n, v_ct, Int.reduceToNat, Int.toNat_natCast, stE, wlE, lgt, lpu, lpw, v_c2, va_s, true_and, and_true, Option.toList, List.nil_append, List.cons_append, List.take, List.drop, List.reverse, List.reverseAux, List.length_cons, List.length_nil, reduceCtorEq, false_implies, true_implies, forall_const, not_true_eq_false, not_false_eq_true, ite_true, ite_false, Bool.false_eq_true, I_I, J_J, Nat.add_left_cancel_iff, Nat.reduceEqDiff, Nat.add_eq_left, Nat.left_eq_add, false_and, and_false, Nat.reduceSub, Nat.sub_self, Nat.le_refl, Nat.zero_le, ge_iff_le, Nat.reduceAdd, Nat.reduceLeDiff, Nat.zero_add, Nat.reduceLT, z_lt, z_le, z_eq, z_l0, z_g0, z_le0, z_ge0, z_e0, z_e1, z_vp, z_nc, z_rem, z_div, i_ltT, i_ltF, i_leT, i_leF, i_eqT, i_eqF, n_ltT, n_ltF, n_leT, n_leF, n_eqT, n_eqF, tn_9, tn_12, tn_14, tn_20, tn_28, tn_44, tn_52, tn_68, tn_84, tn_100, tn_116, tn_132, fu_e, up_eq, ob_0, ob_b, oi_add, oi_sub, oi_mul, oi_neg, Int.add_zero, Int.zero_add, or_true, true_or, or_false, false_or, and_self, z_i2l, z_l2i, lo_nat, lo_add, lo_sub, lo_mul, lo_0, e_rem, hF, hV, d1]
    have h30 : RT n_X10_clear 30 [.ref o, .int (Int32.ofInt t), .int (Int32.ofInt (a_zc A 28 i)), .int (Int32.ofInt i), v4] [.int (Int32.ofInt (if A (28 + i) = 0 then 0 else 1)), .int (Int32.ofInt (a_zc A 28 i))] w g Q := by
      refine rt_X10_clear_30 ?_
      simp (disch := omega) only [wp_c, wp_n, jj_n, v_ct, Int.reduceToNat, Int.toNat_natCast, stE, wlE, lgt, lpu, lpw, v_c2, va_s, true_and, and_true, Option.toList, List.nil_append, List.cons_append, List.take, List.drop, List.reverse, List.reverseAux, List.length_cons, List.length_nil, reduceCtorEq, false_implies, true_implies, forall_const, not_true_eq_false, not_false_eq_true, ite_true, ite_false, Bool.false_eq_true, I_I, J_J, Nat.add_left_cancel_iff, Nat.reduceEqDiff, Nat.add_eq_left, Nat.left_eq_add, false_and, and_false, Nat.reduceSub, Nat.sub_self, Nat.le_refl, Nat.zero_le, ge_iff_le, Nat.reduceAdd, Nat.reduceLeDiff, Nat.zero_add, Nat.reduceLT, z_lt, z_le, z_eq, z_l0, z_g0, z_le0, z_ge0, z_e0, z_e1, z_vp, z_nc, z_rem, z_div, i_ltT, i_ltF, i_leT, i_leF, i_eqT, i_eqF, n_ltT, n_ltF, n_leT, n_leF, n_eqT, n_eqF, tn_9, tn_12, tn_14, tn_20, tn_28, tn_44, tn_52, tn_68, tn_84, tn_100, tn_116, tn_132, fu_e, up_eq, ob_0, ob_b, oi_add, oi_sub, oi_mul, oi_neg, Int.add_zero, Int.zero_add, or_true, true_or, or_false, false_or, and_self, z_i2l, z_l2i, lo_nat, lo_add, lo_sub, lo_mul, lo_0, e_rem]
      exact ih (i + 1) v4 (by omega)
    by_cases q : A (28 + i) = 0
    · simp (disch := omega) only [wp_c, wp_n, jj_n, v_ct, Int.reduceToNat, Int.toNat_natCast, stE, wlE, lgt, lpu, lpw, v_c2, va_s, true_and, and_true, Option.toList, List.nil_append, List.cons_append, List.take, List.drop, List.reverse, List.reverseAux, List.length_cons, List.length_nil, reduceCtorEq, false_implies, true_implies, forall_const, not_true_eq_false, not_false_eq_true, ite_true, ite_false, Bool.false_eq_true, I_I, J_J, Nat.add_left_cancel_iff, Nat.reduceEqDiff, Nat.add_eq_left, Nat.left_eq_add, false_and, and_false, Nat.reduceSub, Nat.sub_self, Nat.le_refl, Nat.zero_le, ge_iff_le, Nat.reduceAdd, Nat.reduceLeDiff, Nat.zero_add, Nat.reduceLT, z_lt, z_le, z_eq, z_l0, z_g0, z_le0, z_ge0, z_e0, z_e1, z_vp, z_nc, z_rem, z_div, i_ltT, i_ltF, i_leT, i_leF, i_eqT, i_eqF, n_ltT, n_ltF, n_leT, n_leF, n_eqT, n_eqF, tn_9, tn_12, tn_14, tn_20, tn_28, tn_44, tn_52, tn_68, tn_84, tn_100, tn_116, tn_132, fu_e, up_eq, ob_0, ob_b, oi_add, oi_sub, oi_mul, oi_neg, Int.add_zero, Int.zero_add, or_true, true_or, or_false, false_or, and_self, z_i2l, z_l2i, lo_nat, lo_add, lo_sub, lo_mul, lo_0, e_rem]
      refine rt_X10_clear_29 ?_
      simp (disch := omega) only [wp_c, wp_n, jj_n, v_ct, Int.reduceToNat, Int.toNat_natCast, stE, wlE, lgt, lpu, lpw, v_c2, va_s, true_and, and_true, Option.toList, List.nil_append, List.cons_append, List.take, List.drop, List.reverse, List.reverseAux, List.length_cons, List.length_nil, reduceCtorEq, false_implies, true_implies, forall_const, not_true_eq_false, not_false_eq_true, ite_true, ite_false, Bool.false_eq_true, I_I, J_J, Nat.add_left_cancel_iff, Nat.reduceEqDiff, Nat.add_eq_left, Nat.left_eq_add, false_and, and_false, Nat.reduceSub, Nat.sub_self, Nat.le_refl, Nat.zero_le, ge_iff_le, Nat.reduceAdd, Nat.reduceLeDiff, Nat.zero_add, Nat.reduceLT, z_lt, z_le, z_eq, z_l0, z_g0, z_le0, z_ge0, z_e0, z_e1, z_vp, z_nc, z_rem, z_div, i_ltT, i_ltF, i_leT, i_leF, i_eqT, i_eqF, n_ltT, n_ltF, n_leT, n_leF, n_eqT, n_eqF, tn_9, tn_12, tn_14, tn_20, tn_28, tn_44, tn_52, tn_68, tn_84, tn_100, tn_116, tn_132, fu_e, up_eq, ob_0, ob_b, oi_add, oi_sub, oi_mul, oi_neg, Int.add_zero, Int.zero_add, or_true, true_or, or_false, false_or, and_self, z_i2l, z_l2i, lo_nat, lo_add, lo_sub, lo_mul, lo_0, e_rem]
      rw [if_pos q] at h30
      exact h30
    · simp (disch := omega) only [wp_c, wp_n, jj_n, v_ct, Int.reduceToNat, Int.toNat_natCast, stE, wlE, lgt, lpu, lpw, v_c2, va_s, true_and, and_true, Option.toList, List.nil_append, List.cons_append, List.take, List.drop, List.reverse, List.reverseAux, List.length_cons, List.length_nil, reduceCtorEq, false_implies, true_implies, forall_const, not_true_eq_false, not_false_eq_true, ite_true, ite_false, Bool.false_eq_true, I_I, J_J, Nat.add_left_cancel_iff, Nat.reduceEqDiff, Nat.add_eq_left, Nat.left_eq_add, false_and, and_false, Nat.reduceSub, Nat.sub_self, Nat.le_refl, Nat.zero_le, ge_iff_le, Nat.reduceAdd, Nat.reduceLeDiff, Nat.zero_add, Nat.reduceLT, z_lt, z_le, z_eq, z_l0, z_g0, z_le0, z_ge0, z_e0, z_e1, z_vp, z_nc, z_rem, z_div, i_ltT, i_ltF, i_leT, i_leF, i_eqT, i_eqF, n_ltT, n_ltF, n_leT, n_leF, n_eqT, n_eqF, tn_9, tn_12, tn_14, tn_20, tn_28, tn_44, tn_52, tn_68, tn_84, tn_100, tn_116, tn_132, fu_e, up_eq, ob_0, ob_b, oi_add, oi_sub, oi_mul, oi_neg, Int.add_zero, Int.zero_add, or_true, true_or, or_false, false_or, and_self, z_i2l, z_l2i, lo_nat, lo_add, lo_sub, lo_mul, lo_0, e_rem]
      rw [if_neg q] at h30
      exact h30
theorem z_cl_43 (hd : ∀ j, j < 8 → 0 ≤ A (44 + j) ∧ A (44 + j) ≤ 9) (ht : t = 0 ∨ t = 2) {D : Int} (hD : 0 ≤ D ∧ D ≤ 100) (hq : ∀ v3 v4, RT n_X10_clear 85 [.ref o, .int (Int32.ofInt t), .int (Int32.ofInt (D + a_zc A 44 8)), v3, v4] [] w g Q) : ∀ (n j : Nat), j + n = 8 → RT n_X10_clear 43 [.ref o, .int (Int32.ofInt t), .int (Int32.ofInt (D + a_zc A 44 j)), .long (Int64.ofInt (ctv A j)), .null] [] w g Q := by
  intro n
  induction n with
  | zero =>
    intro j hj
    have e : j = 8 := by omega
    subst e
    have e0 : ctv A 8 = 0 := rfl
    refine rt_X10_clear_43 ?_
    have hc : ¬ lg_cmp (Int64.ofInt 0) 0 > 0 := by decide
    simp (disch := omega) only [wp_c, wp_n, jj_n, v_ct, Int.reduceToNat, Int.toNat_natCast, stE, wlE, lgt, lpu, lpw, v_c2, va_s, true_and, and_true, Option.toList, List.nil_append, List.cons_append, List.take, List.drop, List.reverse, List.reverseAux, List.length_cons, List.length_nil, reduceCtorEq, false_implies, true_implies, forall_const, not_true_eq_false, not_false_eq_true, ite_true, ite_false, Bool.false_eq_true, I_I, J_J, Nat.add_left_cancel_iff, Nat.reduceEqDiff, Nat.add_eq_left, Nat.left_eq_add, false_and, and_false, Nat.reduceSub, Nat.sub_self, Nat.le_refl, Nat.zero_le, ge_iff_le, Nat.reduceAdd, Nat.reduceLeDiff, Nat.zero_add, Nat.reduceLT, z_lt, z_le, z_eq, z_l0, z_g0, z_le0, z_ge0, z_e0, z_e1, z_vp, z_nc, z_rem, z_div, i_ltT, i_ltF, i_leT, i_leF, i_eqT, i_eqF, n_ltT, n_ltF, n_leT, n_leF, n_eqT, n_eqF, tn_9, tn_12, tn_14, tn_20, tn_28, tn_44, tn_52, tn_68, tn_84, tn_100, tn_116, tn_132, fu_e, up_eq, ob_0, ob_b, oi_add, oi_sub, oi_mul, oi_neg, Int.add_zero, Int.zero_add, or_true, true_or, or_false, false_or, and_self, z_i2l, z_l2i, lo_nat, lo_add, lo_sub, lo_mul, lo_0, e_rem, e0]
    first | exact hq _ _ | (refine ⟨fun _ => hq _ _, fun q => absurd q ?_⟩; decide)
  | succ n ih =>
    intro j hj
    have hb := ctv_b hd j (by omega)
    have hb1 := ctv_b hd (j + 1) (by omega)
    have hs := ctv_s (A := A) (j := j) (by omega)
    have hdj := hd j (by omega)
    have hz := zc_b A 44 j
    by_cases h0 : ctv A j = 0
    · have hall : ∀ i, j ≤ i → i < j + (8 - j) → A (44 + i) = 0 := by
        intro i h1 h2
        have := tn_z (f := fun i => A (44 + (j + i))) (8 - j) (fun i hi => hd (j + i) (by omega)) h0 (i - j) (by omega)
        simp only [show j + (i - j) = i by omega] at this
        exact this
      have ez := zc_rest (A := A) (lo := 44) (j := j) (8 - j) hall
      rw [show j + (8 - j) = 8 by omega] at ez
      refine rt_X10_clear_43 ?_
      simp (disch := omega) only [wp_c, wp_n, jj_n, v_ct, Int.reduceToNat, Int.toNat_natCast, stE, wlE, lgt, lpu, lpw, v_c2, va_s, true_and, and_true, Option.toList, List.nil_append, List.cons_append, List.take, List.drop, List.reverse, List.reverseAux, List.length_cons, List.length_nil, reduceCtorEq, false_implies, true_implies, forall_const, not_true_eq_false, not_false_eq_true, ite_true, ite_false, Bool.false_eq_true, I_I, J_J, Nat.add_left_cancel_iff, Nat.reduceEqDiff, Nat.add_eq_left, Nat.left_eq_add, false_and, and_false, Nat.reduceSub, Nat.sub_self, Nat.le_refl, Nat.zero_le, ge_iff_le, Nat.reduceAdd, Nat.reduceLeDiff, Nat.zero_add, Nat.reduceLT, z_lt, z_le, z_eq, z_l0, z_g0, z_le0, z_ge0, z_e0, z_e1, z_vp, z_nc, z_rem, z_div, i_ltT, i_ltF, i_leT, i_leF, i_eqT, i_eqF, n_ltT, n_ltF, n_leT, n_leF, n_eqT, n_eqF, tn_9, tn_12, tn_14, tn_20, tn_28, tn_44, tn_52, tn_68, tn_84, tn_100, tn_116, tn_132, fu_e, up_eq, ob_0, ob_b, oi_add, oi_sub, oi_mul, oi_neg, Int.add_zero, Int.zero_add, or_true, true_or, or_false, false_or, and_self, z_i2l, z_l2i, lo_nat, lo_add, lo_sub, lo_mul, lo_0, e_rem, h0]
      rw [← ez]
      first | exact hq _ _ | (refine ⟨fun _ => hq _ _, fun q => absurd q ?_⟩; decide)
    · have hp : lg_cmp (Int64.ofInt (ctv A j)) (Int64.ofInt 0) = 1 := by
        unfold lg_cmp
        rw [if_pos ((lo_lt ⟨by omega, by omega⟩ ⟨by omega, by omega⟩).mpr (by omega))]
      have hrem : Int64.ofInt (ctv A j) - Int64.ofInt (ctv A j) / Int64.ofInt ((10 : Nat) : Int) * Int64.ofInt ((10 : Nat) : Int) = Int64.ofInt (A (44 + j)) := by
        rw [lo_remp ⟨by omega, by omega⟩ ⟨by omega, by omega⟩ (by omega) (by omega)]
        congr 1; omega
      have hdiv : Int64.ofInt (ctv A j) / Int64.ofInt ((10 : Nat) : Int) = Int64.ofInt (ctv A (j + 1)) := by
        rw [lo_divp ⟨by omega, by omega⟩ ⟨by omega, by omega⟩ (by omega) (by omega)]
        congr 1; omega
      have h74 : RT n_X10_clear 74 [.ref o, .int (Int32.ofInt t), .int (Int32.ofInt (D + a_zc A 44 j)), .long (Int64.ofInt (ctv A j)), .null] [.int (Int32.ofInt (if A (44 + j) = 0 then 0 else 1)), .int (Int32.ofInt (D + a_zc A 44 j))] w g Q := by
        have hne : ¬ Int64.ofInt ((10 : Nat) : Int) = Int64.ofInt 0 := by decide
        refine rt_X10_clear_74 ?_
        simp (disch := omega) only [wp_c, wp_n, jj_n, v_ct, Int.reduceToNat, Int.toNat_natCast, stE, wlE, lgt, lpu, lpw, v_c2, va_s, true_and, and_true, Option.toList, List.nil_append, List.cons_append, List.take, List.drop, List.reverse, List.reverseAux, List.length_cons, List.length_nil, reduceCtorEq, false_implies, true_implies, forall_const, not_true_eq_false, not_false_eq_true, ite_true, ite_false, Bool.false_eq_true, I_I, J_J, Nat.add_left_cancel_iff, Nat.reduceEqDiff, Nat.add_eq_left, Nat.left_eq_add, false_and, and_false, Nat.reduceSub, Nat.sub_self, Nat.le_refl, Nat.zero_le, ge_iff_le, Nat.reduceAdd, Nat.reduceLeDiff, Nat.zero_add, Nat.reduceLT, z_lt, z_le, z_eq, z_l0, z_g0, z_le0, z_ge0, z_e0, z_e1, z_vp, z_nc, z_rem, z_div, i_ltT, i_ltF, i_leT, i_leF, i_eqT, i_eqF, n_ltT, n_ltF, n_leT, n_leF, n_eqT, n_eqF, tn_9, tn_12, tn_14, tn_20, tn_28, tn_44, tn_52, tn_68, tn_84, tn_100, tn_116, tn_132, fu_e, up_eq, ob_0, ob_b, oi_add, oi_sub, oi_mul, oi_neg, Int.add_zero, Int.zero_add, or_true, true_or, or_false, false_or, and_self, z_i2l, z_l2i, lo_nat, lo_add, lo_sub, lo_mul, lo_0, e_rem, hdiv, hne, hrem]
        have := ih (j + 1) (by omega)
        rw [a_zc, ← Int.add_assoc] at this
        first | exact this | exact ⟨hne, this⟩ | exact ⟨by decide, this⟩
      have h58 : RT n_X10_clear 58 [.ref o, .int (Int32.ofInt t), .int (Int32.ofInt (D + a_zc A 44 j)), .long (Int64.ofInt (ctv A j)), .null] [] w g Q := by
        refine rt_X10_clear_58 ?_
        have hne : ¬ Int64.ofInt ((10 : Nat) : Int) = Int64.ofInt 0 := by decide
        by_cases q : A (44 + j) = 0
        · have hl : lg_cmp (Int64.ofInt 0) (Int64.ofInt 0) = 0 := by decide
          rw [if_pos q] at h74
          have i00 : ((0 : Int32) ≤ 0) = True := eq_true (by decide)
          simp (disch := omega) only [wp_c, wp_n, jj_n, v_ct, Int.reduceToNat, Int.toNat_natCast, stE, wlE, lgt, lpu, lpw, v_c2, va_s, true_and, and_true, Option.toList, List.nil_append, List.cons_append, List.take, List.drop, List.reverse, List.reverseAux, List.length_cons, List.length_nil, reduceCtorEq, false_implies, true_implies, forall_const, not_true_eq_false, not_false_eq_true, ite_true, ite_false, Bool.false_eq_true, I_I, J_J, Nat.add_left_cancel_iff, Nat.reduceEqDiff, Nat.add_eq_left, Nat.left_eq_add, false_and, and_false, Nat.reduceSub, Nat.sub_self, Nat.le_refl, Nat.zero_le, ge_iff_le, Nat.reduceAdd, Nat.reduceLeDiff, Nat.zero_add, Nat.reduceLT, z_lt, z_le, z_eq, z_l0, z_g0, z_le0, z_ge0, z_e0, z_e1, z_vp, z_nc, z_rem, z_div, i_ltT, i_ltF, i_leT, i_leF, i_eqT, i_eqF, n_ltT, n_ltF, n_leT, n_leF, n_eqT, n_eqF, tn_9, tn_12, tn_14, tn_20, tn_28, tn_44, tn_52, tn_68, tn_84, tn_100, tn_116, tn_132, fu_e, up_eq, ob_0, ob_b, oi_add, oi_sub, oi_mul, oi_neg, Int.add_zero, Int.zero_add, or_true, true_or, or_false, false_or, and_self, z_i2l, z_l2i, lo_nat, lo_add, lo_sub, lo_mul, lo_0, e_rem, hrem, hne, q, hl, i00]
          refine rt_X10_clear_73 ?_
          simp (disch := omega) only [wp_c, wp_n, jj_n, v_ct, Int.reduceToNat, Int.toNat_natCast, stE, wlE, lgt, lpu, lpw, v_c2, va_s, true_and, and_true, Option.toList, List.nil_append, List.cons_append, List.take, List.drop, List.reverse, List.reverseAux, List.length_cons, List.length_nil, reduceCtorEq, false_implies, true_implies, forall_const, not_true_eq_false, not_false_eq_true, ite_true, ite_false, Bool.false_eq_true, I_I, J_J, Nat.add_left_cancel_iff, Nat.reduceEqDiff, Nat.add_eq_left, Nat.left_eq_add, false_and, and_false, Nat.reduceSub, Nat.sub_self, Nat.le_refl, Nat.zero_le, ge_iff_le, Nat.reduceAdd, Nat.reduceLeDiff, Nat.zero_add, Nat.reduceLT, z_lt, z_le, z_eq, z_l0, z_g0, z_le0, z_ge0, z_e0, z_e1, z_vp, z_nc, z_rem, z_div, i_ltT, i_ltF, i_leT, i_leF, i_eqT, i_eqF, n_ltT, n_ltF, n_leT, n_leF, n_eqT, n_eqF, tn_9, tn_12, tn_14, tn_20, tn_28, tn_44, tn_52, tn_68, tn_84, tn_100, tn_116, tn_132, fu_e, up_eq, ob_0, ob_b, oi_add, oi_sub, oi_mul, oi_neg, Int.add_zero, Int.zero_add, or_true, true_or, or_false, false_or, and_self, z_i2l, z_l2i, lo_nat, lo_add, lo_sub, lo_mul, lo_0, e_rem]
          exact h74
        · have hl : lg_cmp (Int64.ofInt (A (44 + j))) (Int64.ofInt 0) = 1 := by
            unfold lg_cmp
            rw [if_pos ((lo_lt ⟨by omega, by omega⟩ ⟨by omega, by omega⟩).mpr (by omega))]
          rw [if_neg q] at h74
          have i1 : ¬ (1 : Int32) ≤ 0 := by decide
          simp (disch := omega) only [wp_c, wp_n, jj_n, v_ct, Int.reduceToNat, Int.toNat_natCast, stE, wlE, lgt, lpu, lpw, v_c2, va_s, true_and, and_true, Option.toList, List.nil_append, List.cons_append, List.take, List.drop, List.reverse, List.reverseAux, List.length_cons, List.length_nil, reduceCtorEq, false_implies, true_implies, forall_const, not_true_eq_false, not_false_eq_true, ite_true, ite_false, Bool.false_eq_true, I_I, J_J, Nat.add_left_cancel_iff, Nat.reduceEqDiff, Nat.add_eq_left, Nat.left_eq_add, false_and, and_false, Nat.reduceSub, Nat.sub_self, Nat.le_refl, Nat.zero_le, ge_iff_le, Nat.reduceAdd, Nat.reduceLeDiff, Nat.zero_add, Nat.reduceLT, z_lt, z_le, z_eq, z_l0, z_g0, z_le0, z_ge0, z_e0, z_e1, z_vp, z_nc, z_rem, z_div, i_ltT, i_ltF, i_leT, i_leF, i_eqT, i_eqF, n_ltT, n_ltF, n_leT, n_leF, n_eqT, n_eqF, tn_9, tn_12, tn_14, tn_20, tn_28, tn_44, tn_52, tn_68, tn_84, tn_100, tn_116, tn_132, fu_e, up_eq, ob_0, ob_b, oi_add, oi_sub, oi_mul, oi_neg, Int.add_zero, Int.zero_add, or_true, true_or, or_false, false_or, and_self, z_i2l, z_l2i, lo_nat, lo_add, lo_sub, lo_mul, lo_0, e_rem, hrem, hne, hl, i1]
          exact h74
      have i1 : ¬ (1 : Int32) ≤ 0 := by decide
      refine rt_X10_clear_43 ?_
      rcases ht with rfl | rfl
      · simp (disch := omega) only [wp_c, wp_n, jj_n, v_ct, Int.reduceToNat, Int.toNat_natCast, stE, wlE, lgt, lpu, lpw, v_c2, va_s, true_and, and_true, Option.toList, List.nil_append, List.cons_append, List.take, List.drop, List.reverse, List.reverseAux, List.length_cons, List.length_nil, reduceCtorEq, false_implies, true_implies, forall_const, not_true_eq_false, not_false_eq_true, ite_true, ite_false, Bool.false_eq_true, I_I, J_J, Nat.add_left_cancel_iff, Nat.reduceEqDiff, Nat.add_eq_left, Nat.left_eq_add, false_and, and_false, Nat.reduceSub, Nat.sub_self, Nat.le_refl, Nat.zero_le, ge_iff_le, Nat.reduceAdd, Nat.reduceLeDiff, Nat.zero_add, Nat.reduceLT, z_lt, z_le, z_eq, z_l0, z_g0, z_le0, z_ge0, z_e0, z_e1, z_vp, z_nc, z_rem, z_div, i_ltT, i_ltF, i_leT, i_leF, i_eqT, i_eqF, n_ltT, n_ltF, n_leT, n_leF, n_eqT, n_eqF, tn_9, tn_12, tn_14, tn_20, tn_28, tn_44, tn_52, tn_68, tn_84, tn_100, tn_116, tn_132, fu_e, up_eq, ob_0, ob_b, oi_add, oi_sub, oi_mul, oi_neg, Int.add_zero, Int.zero_add, or_true, true_or, or_false, false_or, and_self, z_i2l, z_l2i, lo_nat, lo_add, lo_sub, lo_mul, lo_0, e_rem, hp, i1]
        exact h58
      · simp (disch := omega) only [wp_c, wp_n, jj_n, v_ct, Int.reduceToNat, Int.toNat_natCast, stE, wlE, lgt, lpu, lpw, v_c2, va_s, true_and, and_true, Option.toList, List.nil_append, List.cons_append, List.take, List.drop, List.reverse, List.reverseAux, List.length_cons, List.length_nil, reduceCtorEq, false_implies, true_implies, forall_const, not_true_eq_false, not_false_eq_true, ite_true, ite_false, Bool.false_eq_true, I_I, J_J, Nat.add_left_cancel_iff, Nat.reduceEqDiff, Nat.add_eq_left, Nat.left_eq_add, false_and, and_false, Nat.reduceSub, Nat.sub_self, Nat.le_refl, Nat.zero_le, ge_iff_le, Nat.reduceAdd, Nat.reduceLeDiff, Nat.zero_add, Nat.reduceLT, z_lt, z_le, z_eq, z_l0, z_g0, z_le0, z_ge0, z_e0, z_e1, z_vp, z_nc, z_rem, z_div, i_ltT, i_ltF, i_leT, i_leF, i_eqT, i_eqF, n_ltT, n_ltF, n_leT, n_leF, n_eqT, n_eqF, tn_9, tn_12, tn_14, tn_20, tn_28, tn_44, tn_52, tn_68, tn_84, tn_100, tn_116, tn_132, fu_e, up_eq, ob_0, ob_b, oi_add, oi_sub, oi_mul, oi_neg, Int.add_zero, Int.zero_add, or_true, true_or, or_false, false_or, and_self, z_i2l, z_l2i, lo_nat, lo_add, lo_sub, lo_mul, lo_0, e_rem, hp, i1]
        exact h58
theorem z_cl_87 (hO : OW w b o P B) (ht : t = 0 ∨ t = 3) (hd : ∀ j, j < 8 → B (20 + j) = A (20 + j) ∧ 0 ≤ A (20 + j) ∧ A (20 + j) ≤ 9) {D : Int} (hD : 0 ≤ D ∧ D ≤ 100) (hq : ∀ v3 v4, RT n_X10_clear 125 [.ref o, .int (Int32.ofInt t), .int (Int32.ofInt (D + a_zc A 20 8)), v3, v4] [] w g Q) : ∀ (n i : Nat) (v4 : Value), i + n = 8 → RT n_X10_clear 87 [.ref o, .int (Int32.ofInt t), .int (Int32.ofInt (D + a_zc A 20 i)), .int (Int32.ofInt i), v4] [] w g Q := by
  have hF := hO.F
  have hV := hO.V
  intro n
  induction n with
  | zero =>
    intro i v4 hi
    have e : i = 8 := by omega
    subst e
    refine rt_X10_clear_87 ?_
    simp (disch := omega) only [wp_c, wp_n, jj_n, v_ct, Int.reduceToNat, Int.toNat_natCast, stE, wlE, lgt, lpu, lpw, v_c2, va_s, true_and, and_true, Option.toList, List.nil_append, List.cons_append, List.take, List.drop, List.reverse, List.reverseAux, List.length_cons, List.length_nil, reduceCtorEq, false_implies, true_implies, forall_const, not_true_eq_false, not_false_eq_true, ite_true, ite_false, Bool.false_eq_true, I_I, J_J, Nat.add_left_cancel_iff, Nat.reduceEqDiff, Nat.add_eq_left, Nat.left_eq_add, false_and, and_false, Nat.reduceSub, Nat.sub_self, Nat.le_refl, Nat.zero_le, ge_iff_le, Nat.reduceAdd, Nat.reduceLeDiff, Nat.zero_add, Nat.reduceLT, z_lt, z_le, z_eq, z_l0, z_g0, z_le0, z_ge0, z_e0, z_e1, z_vp, z_nc, z_rem, z_div, i_ltT, i_ltF, i_leT, i_leF, i_eqT, i_eqF, n_ltT, n_ltF, n_leT, n_leF, n_eqT, n_eqF, tn_9, tn_12, tn_14, tn_20, tn_28, tn_44, tn_52, tn_68, tn_84, tn_100, tn_116, tn_132, fu_e, up_eq, ob_0, ob_b, oi_add, oi_sub, oi_mul, oi_neg, Int.add_zero, Int.zero_add, or_true, true_or, or_false, false_or, and_self, z_i2l, z_l2i, lo_nat, lo_add, lo_sub, lo_mul, lo_0, e_rem]
    exact hq _ _
  | succ n ih =>
    intro i v4 hi
    obtain ⟨d1, d2⟩ := hd i (by omega)
    have hz := zc_b A 20 i
    have h117 : RT n_X10_clear 117 [.ref o, .int (Int32.ofInt t), .int (Int32.ofInt (D + a_zc A 20 i)), .int (Int32.ofInt i), v4] [.int (Int32.ofInt (if A (20 + i) = 0 then 0 else 1)), .int (Int32.ofInt (D + a_zc A 20 i))] w g Q := by
      refine rt_X10_clear_117 ?_
      simp (disch := omega) only [wp_c, wp_n, jj_n, v_ct, Int.reduceToNat, Int.toNat_natCast, stE, wlE, lgt, lpu, lpw, v_c2, va_s, true_and, and_true, Option.toList, List.nil_append, List.cons_append, List.take, List.drop, List.reverse, List.reverseAux, List.length_cons, List.length_nil, reduceCtorEq, false_implies, true_implies, forall_const, not_true_eq_false, not_false_eq_true, ite_true, ite_false, Bool.false_eq_true, I_I, J_J, Nat.add_left_cancel_iff, Nat.reduceEqDiff, Nat.add_eq_left, Nat.left_eq_add, false_and, and_false, Nat.reduceSub, Nat.sub_self, Nat.le_refl, Nat.zero_le, ge_iff_le, Nat.reduceAdd, Nat.reduceLeDiff, Nat.zero_add, Nat.reduceLT, z_lt, z_le, z_eq, z_l0, z_g0, z_le0, z_ge0, z_e0, z_e1, z_vp, z_nc, z_rem, z_div, i_ltT, i_ltF, i_leT, i_leF, i_eqT, i_eqF, n_ltT, n_ltF, n_leT, n_leF, n_eqT, n_eqF, tn_9, tn_12, tn_14, tn_20, tn_28, tn_44, tn_52, tn_68, tn_84, tn_100, tn_116, tn_132, fu_e, up_eq, ob_0, ob_b, oi_add, oi_sub, oi_mul, oi_neg, Int.add_zero, Int.zero_add, or_true, true_or, or_false, false_or, and_self, z_i2l, z_l2i, lo_nat, lo_add, lo_sub, lo_mul, lo_0, e_rem]
      have := ih (i + 1) v4 (by omega)
      rw [a_zc, ← Int.add_assoc] at this
      exact this
    have h102 : RT n_X10_clear 102 [.ref o, .int (Int32.ofInt t), .int (Int32.ofInt (D + a_zc A 20 i)), .int (Int32.ofInt i), v4] [] w g Q := by
      refine rt_X10_clear_102 ?_
      simp (disch := omega) only [wp_c, wp_n, jj_n, v_ct, Int.reduceToNat, Int.toNat_natCast, stE, wlE, lgt, lpu, lpw, v_c2, va_s, true_and, and_true, Option.toList, List.nil_append, List.cons_append, List.take, List.drop, List.reverse, List.reverseAux, List.length_cons, List.length_nil, reduceCtorEq, false_implies, true_implies, forall_const, not_true_eq_false, not_false_eq_true, ite_true, ite_false, Bool.false_eq_true, I_I, J_J, Nat.add_left_cancel_iff, Nat.reduceEqDiff, Nat.add_eq_left, Nat.left_eq_add, false_and, and_false, Nat.reduceSub, Nat.sub_self, Nat.le_refl, Nat.zero_le, ge_iff_le, Nat.reduceAdd, Nat.reduceLeDiff, Nat.zero_add, Nat.reduceLT, z_lt, z_le, z_eq, z_l0, z_g0, z_le0, z_ge0, z_e0, z_e1, z_vp, z_nc, z_rem, z_div, i_ltT, i_ltF, i_leT, i_leF, i_eqT, i_eqF, n_ltT, n_ltF, n_leT, n_leF, n_eqT, n_eqF, tn_9, tn_12, tn_14, tn_20, tn_28, tn_44, tn_52, tn_68, tn_84, tn_100, tn_116, tn_132, fu_e, up_eq, ob_0, ob_b, oi_add, oi_sub, oi_mul, oi_neg, Int.add_zero, Int.zero_add, or_true, true_or, or_false, false_or, and_self, z_i2l, z_l2i, lo_nat, lo_add, lo_sub, lo_mul, lo_0, e_rem, hF, hV, d1]
      by_cases q : A (20 + i) = 0
      · simp (disch := omega) only [wp_c, wp_n, jj_n, v_ct, Int.reduceToNat, Int.toNat_natCast, stE, wlE, lgt, lpu, lpw, v_c2, va_s, true_and, and_true, Option.toList, List.nil_append, List.cons_append, List.take, List.drop, List.reverse, List.reverseAux, List.length_cons, List.length_nil, reduceCtorEq, false_implies, true_implies, forall_const, not_true_eq_false, not_false_eq_true, ite_true, ite_false, Bool.false_eq_true, I_I, J_J, Nat.add_left_cancel_iff, Nat.reduceEqDiff, Nat.add_eq_left, Nat.left_eq_add, false_and, and_false, Nat.reduceSub, Nat.sub_self, Nat.le_refl, Nat.zero_le, ge_iff_le, Nat.reduceAdd, Nat.reduceLeDiff, Nat.zero_add, Nat.reduceLT, z_lt, z_le, z_eq, z_l0, z_g0, z_le0, z_ge0, z_e0, z_e1, z_vp, z_nc, z_rem, z_div, i_ltT, i_ltF, i_leT, i_leF, i_eqT, i_eqF, n_ltT, n_ltF, n_leT, n_leF, n_eqT, n_eqF, tn_9, tn_12, tn_14, tn_20, tn_28, tn_44, tn_52, tn_68, tn_84, tn_100, tn_116, tn_132, fu_e, up_eq, ob_0, ob_b, oi_add, oi_sub, oi_mul, oi_neg, Int.add_zero, Int.zero_add, or_true, true_or, or_false, false_or, and_self, z_i2l, z_l2i, lo_nat, lo_add, lo_sub, lo_mul, lo_0, e_rem]
        refine rt_X10_clear_116 ?_
        simp (disch := omega) only [wp_c, wp_n, jj_n, v_ct, Int.reduceToNat, Int.toNat_natCast, stE, wlE, lgt, lpu, lpw, v_c2, va_s, true_and, and_true, Option.toList, List.nil_append, List.cons_append, List.take, List.drop, List.reverse, List.reverseAux, List.length_cons, List.length_nil, reduceCtorEq, false_implies, true_implies, forall_const, not_true_eq_false, not_false_eq_true, ite_true, ite_false, Bool.false_eq_true, I_I, J_J, Nat.add_left_cancel_iff, Nat.reduceEqDiff, Nat.add_eq_left, Nat.left_eq_add, false_and, and_false, Nat.reduceSub, Nat.sub_self, Nat.le_refl, Nat.zero_le, ge_iff_le, Nat.reduceAdd, Nat.reduceLeDiff, Nat.zero_add, Nat.reduceLT, z_lt, z_le, z_eq, z_l0, z_g0, z_le0, z_ge0, z_e0, z_e1, z_vp, z_nc, z_rem, z_div, i_ltT, i_ltF, i_leT, i_leF, i_eqT, i_eqF, n_ltT, n_ltF, n_leT, n_leF, n_eqT, n_eqF, tn_9, tn_12, tn_14, tn_20, tn_28, tn_44, tn_52, tn_68, tn_84, tn_100, tn_116, tn_132, fu_e, up_eq, ob_0, ob_b, oi_add, oi_sub, oi_mul, oi_neg, Int.add_zero, Int.zero_add, or_true, true_or, or_false, false_or, and_self, z_i2l, z_l2i, lo_nat, lo_add, lo_sub, lo_mul, lo_0, e_rem]
        rw [if_pos q] at h117
        exact h117
      · simp (disch := omega) only [wp_c, wp_n, jj_n, v_ct, Int.reduceToNat, Int.toNat_natCast, stE, wlE, lgt, lpu, lpw, v_c2, va_s, true_and, and_true, Option.toList, List.nil_append, List.cons_append, List.take, List.drop, List.reverse, List.reverseAux, List.length_cons, List.length_nil, reduceCtorEq, false_implies, true_implies, forall_const, not_true_eq_false, not_false_eq_true, ite_true, ite_false, Bool.false_eq_true, I_I, J_J, Nat.add_left_cancel_iff, Nat.reduceEqDiff, Nat.add_eq_left, Nat.left_eq_add, false_and, and_false, Nat.reduceSub, Nat.sub_self, Nat.le_refl, Nat.zero_le, ge_iff_le, Nat.reduceAdd, Nat.reduceLeDiff, Nat.zero_add, Nat.reduceLT, z_lt, z_le, z_eq, z_l0, z_g0, z_le0, z_ge0, z_e0, z_e1, z_vp, z_nc, z_rem, z_div, i_ltT, i_ltF, i_leT, i_leF, i_eqT, i_eqF, n_ltT, n_ltF, n_leT, n_leF, n_eqT, n_eqF, tn_9, tn_12, tn_14, tn_20, tn_28, tn_44, tn_52, tn_68, tn_84, tn_100, tn_116, tn_132, fu_e, up_eq, ob_0, ob_b, oi_add, oi_sub, oi_mul, oi_neg, Int.add_zero, Int.zero_add, or_true, true_or, or_false, false_or, and_self, z_i2l, z_l2i, lo_nat, lo_add, lo_sub, lo_mul, lo_0, e_rem]
        rw [if_neg q] at h117
        exact h117
    refine rt_X10_clear_87 ?_
    rcases ht with rfl | rfl
    · simp (disch := omega) only [wp_c, wp_n, jj_n, v_ct, Int.reduceToNat, Int.toNat_natCast, stE, wlE, lgt, lpu, lpw, v_c2, va_s, true_and, and_true, Option.toList, List.nil_append, List.cons_append, List.take, List.drop, List.reverse, List.reverseAux, List.length_cons, List.length_nil, reduceCtorEq, false_implies, true_implies, forall_const, not_true_eq_false, not_false_eq_true, ite_true, ite_false, Bool.false_eq_true, I_I, J_J, Nat.add_left_cancel_iff, Nat.reduceEqDiff, Nat.add_eq_left, Nat.left_eq_add, false_and, and_false, Nat.reduceSub, Nat.sub_self, Nat.le_refl, Nat.zero_le, ge_iff_le, Nat.reduceAdd, Nat.reduceLeDiff, Nat.zero_add, Nat.reduceLT, z_lt, z_le, z_eq, z_l0, z_g0, z_le0, z_ge0, z_e0, z_e1, z_vp, z_nc, z_rem, z_div, i_ltT, i_ltF, i_leT, i_leF, i_eqT, i_eqF, n_ltT, n_ltF, n_leT, n_leF, n_eqT, n_eqF, tn_9, tn_12, tn_14, tn_20, tn_28, tn_44, tn_52, tn_68, tn_84, tn_100, tn_116, tn_132, fu_e, up_eq, ob_0, ob_b, oi_add, oi_sub, oi_mul, oi_neg, Int.add_zero, Int.zero_add, or_true, true_or, or_false, false_or, and_self, z_i2l, z_l2i, lo_nat, lo_add, lo_sub, lo_mul, lo_0, e_rem]
      exact h102
    · simp (disch := omega) only [wp_c, wp_n, jj_n, v_ct, Int.reduceToNat, Int.toNat_natCast, stE, wlE, lgt, lpu, lpw, v_c2, va_s, true_and, and_true, Option.toList, List.nil_append, List.cons_append, List.take, List.drop, List.reverse, List.reverseAux, List.length_cons, List.length_nil, reduceCtorEq, false_implies, true_implies, forall_const, not_true_eq_false, not_false_eq_true, ite_true, ite_false, Bool.false_eq_true, I_I, J_J, Nat.add_left_cancel_iff, Nat.reduceEqDiff, Nat.add_eq_left, Nat.left_eq_add, false_and, and_false, Nat.reduceSub, Nat.sub_self, Nat.le_refl, Nat.zero_le, ge_iff_le, Nat.reduceAdd, Nat.reduceLeDiff, Nat.zero_add, Nat.reduceLT, z_lt, z_le, z_eq, z_l0, z_g0, z_le0, z_ge0, z_e0, z_e1, z_vp, z_nc, z_rem, z_div, i_ltT, i_ltF, i_leT, i_leF, i_eqT, i_eqF, n_ltT, n_ltF, n_leT, n_leF, n_eqT, n_eqF, tn_9, tn_12, tn_14, tn_20, tn_28, tn_44, tn_52, tn_68, tn_84, tn_100, tn_116, tn_132, fu_e, up_eq, ob_0, ob_b, oi_add, oi_sub, oi_mul, oi_neg, Int.add_zero, Int.zero_add, or_true, true_or, or_false, false_or, and_self, z_i2l, z_l2i, lo_nat, lo_add, lo_sub, lo_mul, lo_0, e_rem]
      exact h102
end
-- 56.own
theorem FO.K {b q : Nat} {w w' : mW} (h : FO b w w') (hq : w_n w' ≤ q) : FO b w (s_K w' q) := ⟨h.1, by have := h.2; show w_n w ≤ q; omega⟩
section
variable {b o ga gb : Nat} {P : Nat → Nat} {B : Row} {t : Int} {D : Int32} {v3 v4 : Value} {w : mW} {Q : mW → mO → Prop}
theorem z_cl_157 (hO : OW w b o P B) (ht : 0 ≤ t ∧ t ≤ 3) (h1 : 1 ≤ ga) (h8 : 8 ≤ gb) (hq : ∀ w' P' B', OW w' b o P' B' → FO b w w' → (∀ j, B' j = if (20 ≤ j ∧ j < 28) ∧ (t = 0 ∨ t = 3) then 0 else B j) → Q w' (.inl (some (.int D)))) : RT n_X10_clear 157 [.ref o, .int (Int32.ofInt t), .int D, v3, v4] [] w (ga, gb, false) Q := by
  have hF := hO.F
  have hge := hO.ge
  have hlt := hO.lt
  have hb0 := hO.1.2.1
  have c8 : (Int32.ofInt 8).toNatClampNeg = 8 := by decide
  have h166 : (t = 0 ∨ t = 3) → RT n_X10_clear 166 [.ref o, .int (Int32.ofInt t), .int D, v3, v4] [] w (ga, gb, false) Q := by
    intro h03
    refine rt_X10_clear_166 ?_
    simp (disch := omega) only [wp_c, wp_n, jj_n, v_ct, Int.reduceToNat, Int.toNat_natCast, stE, wlE, lgt, lpu, lpw, v_c2, va_s, true_and, and_true, Option.toList, List.nil_append, List.cons_append, List.take, List.drop, List.reverse, List.reverseAux, List.length_cons, List.length_nil, reduceCtorEq, false_implies, true_implies, forall_const, not_true_eq_false, not_false_eq_true, ite_true, ite_false, Bool.false_eq_true, I_I, J_J, Nat.add_left_cancel_iff, Nat.reduceEqDiff, Nat.add_eq_left, Nat.left_eq_add, false_and, and_false, Nat.reduceSub, Nat.sub_self, Nat.le_refl, Nat.zero_le, ge_iff_le, Nat.reduceAdd, Nat.reduceLeDiff, Nat.zero_add, Nat.reduceLT, z_lt, z_le, z_eq, z_l0, z_g0, z_le0, z_ge0, z_e0, z_e1, z_vp, z_nc, z_rem, z_div, i_ltT, i_ltF, i_leT, i_leF, i_eqT, i_eqF, n_ltT, n_ltF, n_leT, n_leF, n_eqT, n_eqF, tn_9, tn_12, tn_14, tn_20, tn_28, tn_44, tn_52, tn_68, tn_84, tn_100, tn_116, tn_132, fu_e, up_eq, ob_0, ob_b, oi_add, oi_sub, oi_mul, oi_neg, Int.add_zero, Int.zero_add, or_true, true_or, or_false, false_or, and_self, z_i2l, z_l2i, lo_nat, lo_add, lo_sub, lo_mul, lo_0, e_rem, hF, c8]
    try refine ⟨by omega, ?_⟩
    intro q hq0
    have h2 := hO.new (f := 15) (n := 8) (by omega) rfl hq0
    have no : ¬ o = 100 + q := by omega
    have f2 : FO b w (s_R (s_N (s_K w q) (1, 8)) o 15 (some (100 + q))) := ((FO.refl _ _).N hq0 (by omega)).R hge.1
    simp (disch := omega) only [wp_c, wp_n, jj_n, v_ct, Int.reduceToNat, Int.toNat_natCast, stE, wlE, lgt, lpu, lpw, v_c2, va_s, true_and, and_true, Option.toList, List.nil_append, List.cons_append, List.take, List.drop, List.reverse, List.reverseAux, List.length_cons, List.length_nil, reduceCtorEq, false_implies, true_implies, forall_const, not_true_eq_false, not_false_eq_true, ite_true, ite_false, Bool.false_eq_true, I_I, J_J, Nat.add_left_cancel_iff, Nat.reduceEqDiff, Nat.add_eq_left, Nat.left_eq_add, false_and, and_false, Nat.reduceSub, Nat.sub_self, Nat.le_refl, Nat.zero_le, ge_iff_le, Nat.reduceAdd, Nat.reduceLeDiff, Nat.zero_add, Nat.reduceLT, z_lt, z_le, z_eq, z_l0, z_g0, z_le0, z_ge0, z_e0, z_e1, z_vp, z_nc, z_rem, z_div, i_ltT, i_ltF, i_leT, i_leF, i_eqT, i_eqF, n_ltT, n_ltF, n_leT, n_leF, n_eqT, n_eqF, tn_9, tn_12, tn_14, tn_20, tn_28, tn_44, tn_52, tn_68, tn_84, tn_100, tn_116, tn_132, fu_e, up_eq, ob_0, ob_b, oi_add, oi_sub, oi_mul, oi_neg, Int.add_zero, Int.zero_add, or_true, true_or, or_false, false_or, and_self, z_i2l, z_l2i, lo_nat, lo_add, lo_sub, lo_mul, lo_0, e_rem, NK_sh, NK_shn no, NK_Rn no, R_sh, hF]
    refine rt_X10_clear_174 ?_
    simp (disch := omega) only [wp_c, wp_n, jj_n, v_ct, Int.reduceToNat, Int.toNat_natCast, stE, wlE, lgt, lpu, lpw, v_c2, va_s, true_and, and_true, Option.toList, List.nil_append, List.cons_append, List.take, List.drop, List.reverse, List.reverseAux, List.length_cons, List.length_nil, reduceCtorEq, false_implies, true_implies, forall_const, not_true_eq_false, not_false_eq_true, ite_true, ite_false, Bool.false_eq_true, I_I, J_J, Nat.add_left_cancel_iff, Nat.reduceEqDiff, Nat.add_eq_left, Nat.left_eq_add, false_and, and_false, Nat.reduceSub, Nat.sub_self, Nat.le_refl, Nat.zero_le, ge_iff_le, Nat.reduceAdd, Nat.reduceLeDiff, Nat.zero_add, Nat.reduceLT, z_lt, z_le, z_eq, z_l0, z_g0, z_le0, z_ge0, z_e0, z_e1, z_vp, z_nc, z_rem, z_div, i_ltT, i_ltF, i_leT, i_leF, i_eqT, i_eqF, n_ltT, n_ltF, n_leT, n_leF, n_eqT, n_eqF, tn_9, tn_12, tn_14, tn_20, tn_28, tn_44, tn_52, tn_68, tn_84, tn_100, tn_116, tn_132, fu_e, up_eq, ob_0, ob_b, oi_add, oi_sub, oi_mul, oi_neg, Int.add_zero, Int.zero_add, or_true, true_or, or_false, false_or, and_self, z_i2l, z_l2i, lo_nat, lo_add, lo_sub, lo_mul, lo_0, e_rem, mr_X10_clear]
    refine hq _ _ _ h2 f2 (fun j => ?_)
    simp only [olen, oi, Nat.reduceEqDiff, ite_true, ite_false, Nat.add_zero, Nat.reduceAdd, h03, and_true]
  have h174 : ¬ (t = 0 ∨ t = 3) → RT n_X10_clear 174 [.ref o, .int (Int32.ofInt t), .int D, v3, v4] [] w (ga, gb, false) Q := by
    intro h03
    refine rt_X10_clear_174 ?_
    simp (disch := omega) only [wp_c, wp_n, jj_n, v_ct, Int.reduceToNat, Int.toNat_natCast, stE, wlE, lgt, lpu, lpw, v_c2, va_s, true_and, and_true, Option.toList, List.nil_append, List.cons_append, List.take, List.drop, List.reverse, List.reverseAux, List.length_cons, List.length_nil, reduceCtorEq, false_implies, true_implies, forall_const, not_true_eq_false, not_false_eq_true, ite_true, ite_false, Bool.false_eq_true, I_I, J_J, Nat.add_left_cancel_iff, Nat.reduceEqDiff, Nat.add_eq_left, Nat.left_eq_add, false_and, and_false, Nat.reduceSub, Nat.sub_self, Nat.le_refl, Nat.zero_le, ge_iff_le, Nat.reduceAdd, Nat.reduceLeDiff, Nat.zero_add, Nat.reduceLT, z_lt, z_le, z_eq, z_l0, z_g0, z_le0, z_ge0, z_e0, z_e1, z_vp, z_nc, z_rem, z_div, i_ltT, i_ltF, i_leT, i_leF, i_eqT, i_eqF, n_ltT, n_ltF, n_leT, n_leF, n_eqT, n_eqF, tn_9, tn_12, tn_14, tn_20, tn_28, tn_44, tn_52, tn_68, tn_84, tn_100, tn_116, tn_132, fu_e, up_eq, ob_0, ob_b, oi_add, oi_sub, oi_mul, oi_neg, Int.add_zero, Int.zero_add, or_true, true_or, or_false, false_or, and_self, z_i2l, z_l2i, lo_nat, lo_add, lo_sub, lo_mul, lo_0, e_rem, mr_X10_clear]
    exact hq w P B hO (FO.refl _ _) (fun j => by rw [if_neg (fun q => h03 q.2)])
  refine rt_X10_clear_157 ?_
  by_cases t0 : t = 0
  · simp (disch := omega) only [wp_c, wp_n, jj_n, v_ct, Int.reduceToNat, Int.toNat_natCast, stE, wlE, lgt, lpu, lpw, v_c2, va_s, true_and, and_true, Option.toList, List.nil_append, List.cons_append, List.take, List.drop, List.reverse, List.reverseAux, List.length_cons, List.length_nil, reduceCtorEq, false_implies, true_implies, forall_const, not_true_eq_false, not_false_eq_true, ite_true, ite_false, Bool.false_eq_true, I_I, J_J, Nat.add_left_cancel_iff, Nat.reduceEqDiff, Nat.add_eq_left, Nat.left_eq_add, false_and, and_false, Nat.reduceSub, Nat.sub_self, Nat.le_refl, Nat.zero_le, ge_iff_le, Nat.reduceAdd, Nat.reduceLeDiff, Nat.zero_add, Nat.reduceLT, z_lt, z_le, z_eq, z_l0, z_g0, z_le0, z_ge0, z_e0, z_e1, z_vp, z_nc, z_rem, z_div, i_ltT, i_ltF, i_leT, i_leF, i_eqT, i_eqF, n_ltT, n_ltF, n_leT, n_leF, n_eqT, n_eqF, tn_9, tn_12, tn_14, tn_20, tn_28, tn_44, tn_52, tn_68, tn_84, tn_100, tn_116, tn_132, fu_e, up_eq, ob_0, ob_b, oi_add, oi_sub, oi_mul, oi_neg, Int.add_zero, Int.zero_add, or_true, true_or, or_false, false_or, and_self, z_i2l, z_l2i, lo_nat, lo_add, lo_sub, lo_mul, lo_0, e_rem]
    exact h166 (Or.inl t0)
  · by_cases t3 : t = 3
    · simp (disch := omega) only [wp_c, wp_n, jj_n, v_ct, Int.reduceToNat, Int.toNat_natCast, stE, wlE, lgt, lpu, lpw, v_c2, va_s, true_and, and_true, Option.toList, List.nil_append, List.cons_append, List.take, List.drop, List.reverse, List.reverseAux, List.length_cons, List.length_nil, reduceCtorEq, false_implies, true_implies, forall_const, not_true_eq_false, not_false_eq_true, ite_true, ite_false, Bool.false_eq_true, I_I, J_J, Nat.add_left_cancel_iff, Nat.reduceEqDiff, Nat.add_eq_left, Nat.left_eq_add, false_and, and_false, Nat.reduceSub, Nat.sub_self, Nat.le_refl, Nat.zero_le, ge_iff_le, Nat.reduceAdd, Nat.reduceLeDiff, Nat.zero_add, Nat.reduceLT, z_lt, z_le, z_eq, z_l0, z_g0, z_le0, z_ge0, z_e0, z_e1, z_vp, z_nc, z_rem, z_div, i_ltT, i_ltF, i_leT, i_leF, i_eqT, i_eqF, n_ltT, n_ltF, n_leT, n_leF, n_eqT, n_eqF, tn_9, tn_12, tn_14, tn_20, tn_28, tn_44, tn_52, tn_68, tn_84, tn_100, tn_116, tn_132, fu_e, up_eq, ob_0, ob_b, oi_add, oi_sub, oi_mul, oi_neg, Int.add_zero, Int.zero_add, or_true, true_or, or_false, false_or, and_self, z_i2l, z_l2i, lo_nat, lo_add, lo_sub, lo_mul, lo_0, e_rem]
      exact h166 (Or.inr t3)
    · simp (disch := omega) only [wp_c, wp_n, jj_n, v_ct, Int.reduceToNat, Int.toNat_natCast, stE, wlE, lgt, lpu, lpw, v_c2, va_s, true_and, and_true, Option.toList, List.nil_append, List.cons_append, List.take, List.drop, List.reverse, List.reverseAux, List.length_cons, List.length_nil, reduceCtorEq, false_implies, true_implies, forall_const, not_true_eq_false, not_false_eq_true, ite_true, ite_false, Bool.false_eq_true, I_I, J_J, Nat.add_left_cancel_iff, Nat.reduceEqDiff, Nat.add_eq_left, Nat.left_eq_add, false_and, and_false, Nat.reduceSub, Nat.sub_self, Nat.le_refl, Nat.zero_le, ge_iff_le, Nat.reduceAdd, Nat.reduceLeDiff, Nat.zero_add, Nat.reduceLT, z_lt, z_le, z_eq, z_l0, z_g0, z_le0, z_ge0, z_e0, z_e1, z_vp, z_nc, z_rem, z_div, i_ltT, i_ltF, i_leT, i_leF, i_eqT, i_eqF, n_ltT, n_ltF, n_leT, n_leF, n_eqT, n_eqF, tn_9, tn_12, tn_14, tn_20, tn_28, tn_44, tn_52, tn_68, tn_84, tn_100, tn_116, tn_132, fu_e, up_eq, ob_0, ob_b, oi_add, oi_sub, oi_mul, oi_neg, Int.add_zero, Int.zero_add, or_true, true_or, or_false, false_or, and_self, z_i2l, z_l2i, lo_nat, lo_add, lo_sub, lo_mul, lo_0, e_rem]
      exact h174 (by omega)
theorem z_cl_143 (hO : OW w b o P B) (ht : 0 ≤ t ∧ t ≤ 3) (h1 : 1 ≤ ga) (h8 : 8 ≤ gb) (hq : ∀ w' P' B', OW w' b o P' B' → FO b w w' → (∀ j, B' j = if ((20 ≤ j ∧ j < 28) ∧ (t = 0 ∨ t = 3)) ∨ (j = 1013 ∧ (t = 0 ∨ t = 2)) then 0 else B j) → Q w' (.inl (some (.int D)))) : RT n_X10_clear 143 [.ref o, .int (Int32.ofInt t), .int D, v3, v4] [] w (ga, gb, false) Q := by
  have hF := hO.F
  have hge := hO.ge
  have h152 : (t = 0 ∨ t = 2) → RT n_X10_clear 152 [.ref o, .int (Int32.ofInt t), .int D, v3, v4] [] w (ga, gb, false) Q := by
    intro h02
    refine rt_X10_clear_152 ?_
    simp (disch := omega) only [wp_c, wp_n, jj_n, v_ct, Int.reduceToNat, Int.toNat_natCast, stE, wlE, lgt, lpu, lpw, v_c2, va_s, true_and, and_true, Option.toList, List.nil_append, List.cons_append, List.take, List.drop, List.reverse, List.reverseAux, List.length_cons, List.length_nil, reduceCtorEq, false_implies, true_implies, forall_const, not_true_eq_false, not_false_eq_true, ite_true, ite_false, Bool.false_eq_true, I_I, J_J, Nat.add_left_cancel_iff, Nat.reduceEqDiff, Nat.add_eq_left, Nat.left_eq_add, false_and, and_false, Nat.reduceSub, Nat.sub_self, Nat.le_refl, Nat.zero_le, ge_iff_le, Nat.reduceAdd, Nat.reduceLeDiff, Nat.zero_add, Nat.reduceLT, z_lt, z_le, z_eq, z_l0, z_g0, z_le0, z_ge0, z_e0, z_e1, z_vp, z_nc, z_rem, z_div, i_ltT, i_ltF, i_leT, i_leF, i_eqT, i_eqF, n_ltT, n_ltF, n_leT, n_leF, n_eqT, n_eqF, tn_9, tn_12, tn_14, tn_20, tn_28, tn_44, tn_52, tn_68, tn_84, tn_100, tn_116, tn_132, fu_e, up_eq, ob_0, ob_b, oi_add, oi_sub, oi_mul, oi_neg, Int.add_zero, Int.zero_add, or_true, true_or, or_false, false_or, and_self, z_i2l, z_l2i, lo_nat, lo_add, lo_sub, lo_mul, lo_0, e_rem, hF]
    have h2 := hO.sctr (v := 0)
    refine z_cl_157 h2 ht h1 h8 (fun w1 P1 B1 m1 m2 m3 => hq w1 P1 B1 m1 (((FO.refl _ _).J hge.1).trans m2) (fun j => ?_))
    rw [m3 j, up_eq]
    by_cases q : (20 ≤ j ∧ j < 28) ∧ (t = 0 ∨ t = 3)
    · rw [if_pos q, if_pos (Or.inl q)]
    · rw [if_neg q]
      by_cases q2 : j = 1013
      · rw [if_pos q2, if_pos (Or.inr ⟨q2, h02⟩)]
      · rw [if_neg q2, if_neg (fun r => r.elim q (fun s => q2 s.1))]
  have h157 : ¬ (t = 0 ∨ t = 2) → RT n_X10_clear 157 [.ref o, .int (Int32.ofInt t), .int D, v3, v4] [] w (ga, gb, false) Q := by
    intro h02
    refine z_cl_157 hO ht h1 h8 (fun w1 P1 B1 m1 m2 m3 => hq w1 P1 B1 m1 m2 (fun j => ?_))
    rw [m3 j]
    by_cases q : (20 ≤ j ∧ j < 28) ∧ (t = 0 ∨ t = 3)
    · rw [if_pos q, if_pos (Or.inl q)]
    · rw [if_neg q, if_neg (fun r => r.elim q (fun s => h02 s.2))]
  refine rt_X10_clear_143 ?_
  by_cases t0 : t = 0
  · simp (disch := omega) only [wp_c, wp_n, jj_n, v_ct, Int.reduceToNat, Int.toNat_natCast, stE, wlE, lgt, lpu, lpw, v_c2, va_s, true_and, and_true, Option.toList, List.nil_append, List.cons_append, List.take, List.drop, List.reverse, List.reverseAux, List.length_cons, List.length_nil, reduceCtorEq, false_implies, true_implies, forall_const, not_true_eq_false, not_false_eq_true, ite_true, ite_false, Bool.false_eq_true, I_I, J_J, Nat.add_left_cancel_iff, Nat.reduceEqDiff, Nat.add_eq_left, Nat.left_eq_add, false_and, and_false, Nat.reduceSub, Nat.sub_self, Nat.le_refl, Nat.zero_le, ge_iff_le, Nat.reduceAdd, Nat.reduceLeDiff, Nat.zero_add, Nat.reduceLT, z_lt, z_le, z_eq, z_l0, z_g0, z_le0, z_ge0, z_e0, z_e1, z_vp, z_nc, z_rem, z_div, i_ltT, i_ltF, i_leT, i_leF, i_eqT, i_eqF, n_ltT, n_ltF, n_leT, n_leF, n_eqT, n_eqF, tn_9, tn_12, tn_14, tn_20, tn_28, tn_44, tn_52, tn_68, tn_84, tn_100, tn_116, tn_132, fu_e, up_eq, ob_0, ob_b, oi_add, oi_sub, oi_mul, oi_neg, Int.add_zero, Int.zero_add, or_true, true_or, or_false, false_or, and_self, z_i2l, z_l2i, lo_nat, lo_add, lo_sub, lo_mul, lo_0, e_rem]
    exact h152 (Or.inl t0)
  · by_cases t2 : t = 2
    · simp (disch := omega) only [wp_c, wp_n, jj_n, v_ct, Int.reduceToNat, Int.toNat_natCast, stE, wlE, lgt, lpu, lpw, v_c2, va_s, true_and, and_true, Option.toList, List.nil_append, List.cons_append, List.take, List.drop, List.reverse, List.reverseAux, List.length_cons, List.length_nil, reduceCtorEq, false_implies, true_implies, forall_const, not_true_eq_false, not_false_eq_true, ite_true, ite_false, Bool.false_eq_true, I_I, J_J, Nat.add_left_cancel_iff, Nat.reduceEqDiff, Nat.add_eq_left, Nat.left_eq_add, false_and, and_false, Nat.reduceSub, Nat.sub_self, Nat.le_refl, Nat.zero_le, ge_iff_le, Nat.reduceAdd, Nat.reduceLeDiff, Nat.zero_add, Nat.reduceLT, z_lt, z_le, z_eq, z_l0, z_g0, z_le0, z_ge0, z_e0, z_e1, z_vp, z_nc, z_rem, z_div, i_ltT, i_ltF, i_leT, i_leF, i_eqT, i_eqF, n_ltT, n_ltF, n_leT, n_leF, n_eqT, n_eqF, tn_9, tn_12, tn_14, tn_20, tn_28, tn_44, tn_52, tn_68, tn_84, tn_100, tn_116, tn_132, fu_e, up_eq, ob_0, ob_b, oi_add, oi_sub, oi_mul, oi_neg, Int.add_zero, Int.zero_add, or_true, true_or, or_false, false_or, and_self, z_i2l, z_l2i, lo_nat, lo_add, lo_sub, lo_mul, lo_0, e_rem]
      exact h152 (Or.inr t2)
    · simp (disch := omega) only [wp_c, wp_n, jj_n, v_ct, Int.reduceToNat, Int.toNat_natCast, stE, wlE, lgt, lpu, lpw, v_c2, va_s, true_and, and_true, Option.toList, List.nil_append, List.cons_append, List.take, List.drop, List.reverse, List.reverseAux, List.length_cons, List.length_nil, reduceCtorEq, false_implies, true_implies, forall_const, not_true_eq_false, not_false_eq_true, ite_true, ite_false, Bool.false_eq_true, I_I, J_J, Nat.add_left_cancel_iff, Nat.reduceEqDiff, Nat.add_eq_left, Nat.left_eq_add, false_and, and_false, Nat.reduceSub, Nat.sub_self, Nat.le_refl, Nat.zero_le, ge_iff_le, Nat.reduceAdd, Nat.reduceLeDiff, Nat.zero_add, Nat.reduceLT, z_lt, z_le, z_eq, z_l0, z_g0, z_le0, z_ge0, z_e0, z_e1, z_vp, z_nc, z_rem, z_div, i_ltT, i_ltF, i_leT, i_leF, i_eqT, i_eqF, n_ltT, n_ltF, n_leT, n_leF, n_eqT, n_eqF, tn_9, tn_12, tn_14, tn_20, tn_28, tn_44, tn_52, tn_68, tn_84, tn_100, tn_116, tn_132, fu_e, up_eq, ob_0, ob_b, oi_add, oi_sub, oi_mul, oi_neg, Int.add_zero, Int.zero_add, or_true, true_or, or_false, false_or, and_self, z_i2l, z_l2i, lo_nat, lo_add, lo_sub, lo_mul, lo_0, e_rem]
      exact h157 (by omega)
theorem z_cl_125 (hO : OW w b o P B) (ht : 0 ≤ t ∧ t ≤ 3) (hq : ∀ w' P' B', OW w' b o P' B' → FO b w w' → (∀ j, B' j = if ((20 ≤ j ∧ j < 28) ∧ (t = 0 ∨ t = 3)) ∨ (j = 1013 ∧ (t = 0 ∨ t = 2)) ∨ ((28 ≤ j ∧ j < 44 ∨ j = 1014) ∧ t < 2) then 0 else B j) → Q w' (.inl (some (.int D)))) : RT n_X10_clear 125 [.ref o, .int (Int32.ofInt t), .int D, v3, v4] [] w (2, 24, false) Q := by
  have hF := hO.F
  have hge := hO.ge
  have hlt := hO.lt
  have hb0 := hO.1.2.1
  have c16 : (Int32.ofInt 16).toNatClampNeg = 16 := by decide
  by_cases t2 : t < 2
  · refine rt_X10_clear_125 ?_
    simp (disch := omega) only [wp_c, wp_n, jj_n, v_ct, Int.reduceToNat, Int.toNat_natCast, stE, wlE, lgt, lpu, lpw, v_c2, va_s, true_and, and_true, Option.toList, List.nil_append, List.cons_append, List.take, List.drop, List.reverse, List.reverseAux, List.length_cons, List.length_nil, reduceCtorEq, false_implies, true_implies, forall_const, not_true_eq_false, not_false_eq_true, ite_true, ite_false, Bool.false_eq_true, I_I, J_J, Nat.add_left_cancel_iff, Nat.reduceEqDiff, Nat.add_eq_left, Nat.left_eq_add, false_and, and_false, Nat.reduceSub, Nat.sub_self, Nat.le_refl, Nat.zero_le, ge_iff_le, Nat.reduceAdd, Nat.reduceLeDiff, Nat.zero_add, Nat.reduceLT, z_lt, z_le, z_eq, z_l0, z_g0, z_le0, z_ge0, z_e0, z_e1, z_vp, z_nc, z_rem, z_div, i_ltT, i_ltF, i_leT, i_leF, i_eqT, i_eqF, n_ltT, n_ltF, n_leT, n_leF, n_eqT, n_eqF, tn_9, tn_12, tn_14, tn_20, tn_28, tn_44, tn_52, tn_68, tn_84, tn_100, tn_116, tn_132, fu_e, up_eq, ob_0, ob_b, oi_add, oi_sub, oi_mul, oi_neg, Int.add_zero, Int.zero_add, or_true, true_or, or_false, false_or, and_self, z_i2l, z_l2i, lo_nat, lo_add, lo_sub, lo_mul, lo_0, e_rem, hF, c16]
    intro q hq0
    have h2 := hO.new (f := 16) (n := 16) (by omega) rfl hq0
    have no : ¬ o = 100 + q := by omega
    have f2 : FO b w (s_R (s_N (s_K w q) (1, 16)) o 16 (some (100 + q))) := ((FO.refl _ _).N hq0 (by omega)).R hge.1
    simp (disch := omega) only [wp_c, wp_n, jj_n, v_ct, Int.reduceToNat, Int.toNat_natCast, stE, wlE, lgt, lpu, lpw, v_c2, va_s, true_and, and_true, Option.toList, List.nil_append, List.cons_append, List.take, List.drop, List.reverse, List.reverseAux, List.length_cons, List.length_nil, reduceCtorEq, false_implies, true_implies, forall_const, not_true_eq_false, not_false_eq_true, ite_true, ite_false, Bool.false_eq_true, I_I, J_J, Nat.add_left_cancel_iff, Nat.reduceEqDiff, Nat.add_eq_left, Nat.left_eq_add, false_and, and_false, Nat.reduceSub, Nat.sub_self, Nat.le_refl, Nat.zero_le, ge_iff_le, Nat.reduceAdd, Nat.reduceLeDiff, Nat.zero_add, Nat.reduceLT, z_lt, z_le, z_eq, z_l0, z_g0, z_le0, z_ge0, z_e0, z_e1, z_vp, z_nc, z_rem, z_div, i_ltT, i_ltF, i_leT, i_leF, i_eqT, i_eqF, n_ltT, n_ltF, n_leT, n_leF, n_eqT, n_eqF, tn_9, tn_12, tn_14, tn_20, tn_28, tn_44, tn_52, tn_68, tn_84, tn_100, tn_116, tn_132, fu_e, up_eq, ob_0, ob_b, oi_add, oi_sub, oi_mul, oi_neg, Int.add_zero, Int.zero_add, or_true, true_or, or_false, false_or, and_self, z_i2l, z_l2i, lo_nat, lo_add, lo_sub, lo_mul, lo_0, e_rem, NK_sh, NK_shn no, NK_Rn no, R_sh, hF]
    have h3 := h2.sdue (v := 0)
    refine z_cl_143 h3 ht (by omega) (by omega) (fun w1 P1 B1 m1 m2 m3 => hq w1 P1 B1 m1 ((f2.J hge.1).trans m2) (fun j => ?_))
    rw [m3 j, up_eq]
    simp only [olen, oi, Nat.reduceEqDiff, ite_true, ite_false, Nat.add_zero, Nat.reduceAdd]
    repeat' split
    all_goals first | rfl | omega
  · refine rt_X10_clear_125 ?_
    simp (disch := omega) only [wp_c, wp_n, jj_n, v_ct, Int.reduceToNat, Int.toNat_natCast, stE, wlE, lgt, lpu, lpw, v_c2, va_s, true_and, and_true, Option.toList, List.nil_append, List.cons_append, List.take, List.drop, List.reverse, List.reverseAux, List.length_cons, List.length_nil, reduceCtorEq, false_implies, true_implies, forall_const, not_true_eq_false, not_false_eq_true, ite_true, ite_false, Bool.false_eq_true, I_I, J_J, Nat.add_left_cancel_iff, Nat.reduceEqDiff, Nat.add_eq_left, Nat.left_eq_add, false_and, and_false, Nat.reduceSub, Nat.sub_self, Nat.le_refl, Nat.zero_le, ge_iff_le, Nat.reduceAdd, Nat.reduceLeDiff, Nat.zero_add, Nat.reduceLT, z_lt, z_le, z_eq, z_l0, z_g0, z_le0, z_ge0, z_e0, z_e1, z_vp, z_nc, z_rem, z_div, i_ltT, i_ltF, i_leT, i_leF, i_eqT, i_eqF, n_ltT, n_ltF, n_leT, n_leF, n_eqT, n_eqF, tn_9, tn_12, tn_14, tn_20, tn_28, tn_44, tn_52, tn_68, tn_84, tn_100, tn_116, tn_132, fu_e, up_eq, ob_0, ob_b, oi_add, oi_sub, oi_mul, oi_neg, Int.add_zero, Int.zero_add, or_true, true_or, or_false, false_or, and_self, z_i2l, z_l2i, lo_nat, lo_add, lo_sub, lo_mul, lo_0, e_rem]
    refine z_cl_143 hO ht (by omega) (by omega) (fun w1 P1 B1 m1 m2 m3 => hq w1 P1 B1 m1 m2 (fun j => ?_))
    rw [m3 j]
    repeat' split
    all_goals first | rfl | omega
end
theorem hn_0 {f : Nat → Int} : ∀ n : Nat, (∀ i, i < n → f i = 0) → hn f n 0 = 0 := by
  intro n
  induction n with
  | zero => intro _; rfl
  | succ n ih =>
    intro h
    rw [hn, h n (by omega)]
    exact ih (fun i hi => h i (by omega))
theorem z_clear {b o : Nat} {P : Nat → Nat} {A B : Row} {t N : Int} {w : mW} {Q : mW → mO → Prop} (hO : OW w b o P B) (hT : TS A B N) (h5 : A 5 = 0) (ht : 0 ≤ t ∧ t ≤ 3)
  (hq : ∀ w' P' B', OW w' b o P' B' → FO b w w' → TS (r_clear A t).1 B' N → B' 1000 = B 1000 → (LX A B → LX (r_clear A t).1 B') → Q w' (.inl (some (.int (Int32.ofInt (r_clear A t).2))))) : CT n_X10_clear [.ref o, .int (Int32.ofInt t)] w Q := by
  obtain ⟨hG, ⟨hR, b5, hk, hdu, h11⟩, hJX, h14⟩ := hT
  have hz := hG.sz
  have hJ := hG.1.1
  have hV := hO.V
  have hF := hO.F
  have hcg := (clear_GR (t := t) hG (by omega)).1
  rw [← clear_e hG ht] at hq hcg
  obtain ⟨c1, c2⟩ := clr_at (A := A) ht
  have z1 := zc_b A 28 16
  have z2 := zc_b A 44 8
  have z3 := zc_b A 20 8
  have hkb := ctv_0 (A := A) (by omega) (fun j hj h2 => hG.2.1.2.2 j hj h2)
  have hkn := ctv_b (A := A) (fun j hj => TJ_cnt hJ j hj) 0 (by omega)
  rw [hkb] at hkn
  -- the end
  have h125 : ∀ v3 v4, RT n_X10_clear 125 [.ref o, .int (Int32.ofInt t), .int (Int32.ofInt (a_clear A t).2), v3, v4] [] w (2, 24, false) Q := by
    intro v3 v4
    refine z_cl_125 hO ht (fun w1 P1 B1 m1 m2 m3 => hq w1 P1 B1 m1 m2 ⟨hcg, ⟨⟨fun j hj => ?_, fun i hi => ?_⟩, ?_, ?_, ?_, ?_⟩, fun q => ?_, ?_, ?_⟩ ?_ (fun hL => ⟨?_, fun j j1 j2 => ?_⟩))
    · have := hR.1 j hj
      unfold RK at hj
      rw [m3 j, c1 j]
      repeat' split
      all_goals first | rfl | omega
    · rw [m3, c1, if_neg (by omega), if_neg (by omega)]; exact hR.2 i hi
    · rw [m3, c1, if_neg (by omega), if_neg (by omega)]; exact b5
    · rw [m3]
      by_cases q : t = 0 ∨ t = 2
      · rw [if_pos (by omega)]
        have e2 : (a_clear A t).1 2 = A 2 := by rw [c1, if_neg (by omega)]
        unfold k_num
        rw [e2]
        exact (hn_0 _ (fun i hi => by rw [c1, if_pos (by omega)])).symm
      · rw [if_neg (by omega), hk]
        exact (k_c (by rw [c1, if_neg (by omega)]) (by omega) (fun j hj => by rw [c1, if_neg (by omega)])).symm
    · rw [m3]
      by_cases q : t < 2
      · rw [if_pos (by omega)]
        have e1 : (a_clear A t).1 1 = A 1 := by rw [c1, if_neg (by omega)]
        unfold du
        rw [e1]
        exact (hn_0 _ (fun i hi => by rw [c1, if_pos (by omega)])).symm
      · rw [if_neg (by omega), hdu]
        exact (d_c (by rw [c1, if_neg (by omega)]) (by omega) (fun j hj => by rw [c1, if_neg (by omega)])).symm
    · rw [m3, m3, if_neg (by omega), if_neg (by omega)]; exact h11
    · rw [c1, if_neg (by omega)] at q; omega
    · rw [c1, if_neg (by omega)]; exact h14.1
    · rw [c1, if_neg (by omega)]; exact h14.2
    · rw [m3, if_neg (by omega)]
    · rw [m3, c1, if_neg (by omega), if_neg (by omega)]; exact hL.1
    · rw [m3, c1, if_neg (by omega), if_neg (by omega)]; exact hL.2 j j1 j2
  have hd20 : ∀ j, j < 8 → B (20 + j) = A (20 + j) ∧ 0 ≤ A (20 + j) ∧ A (20 + j) ≤ 9 := fun j hj => ⟨hR.pin hj, TJ_pin hJ j hj⟩
  have hd28 : ∀ j, j < 16 → B (28 + j) = A (28 + j) ∧ 0 ≤ A (28 + j) ∧ A (28 + j) ≤ 9 := fun j hj => ⟨hR.dig hj, TJ_dig hJ j hj⟩
  have h85 : ∀ D : Int, 0 ≤ D ∧ D ≤ 100 → (a_clear A t).2 = D + (if t = 0 ∨ t = 3 then a_zc A 20 8 else 0) → ∀ v3 v4, RT n_X10_clear 85 [.ref o, .int (Int32.ofInt t), .int (Int32.ofInt D), v3, v4] [] w (2, 24, false) Q := by
    intro D hD he v3 v4
    refine rt_X10_clear_85 ?_
    simp (disch := omega) only [wp_c, wp_n, jj_n, v_ct, Int.reduceToNat, Int.toNat_natCast, stE, wlE, lgt, lpu, lpw, v_c2, va_s, true_and, and_true, Option.toList, List.nil_append, List.cons_append, List.take, List.drop, List.reverse, List.reverseAux, List.length_cons, List.length_nil, reduceCtorEq, false_implies, true_implies, forall_const, not_true_eq_false, not_false_eq_true, ite_true, ite_false, Bool.false_eq_true, I_I, J_J, Nat.add_left_cancel_iff, Nat.reduceEqDiff, Nat.add_eq_left, Nat.left_eq_add, false_and, and_false, Nat.reduceSub, Nat.sub_self, Nat.le_refl, Nat.zero_le, ge_iff_le, Nat.reduceAdd, Nat.reduceLeDiff, Nat.zero_add, Nat.reduceLT, z_lt, z_le, z_eq, z_l0, z_g0, z_le0, z_ge0, z_e0, z_e1, z_vp, z_nc, z_rem, z_div, i_ltT, i_ltF, i_leT, i_leF, i_eqT, i_eqF, n_ltT, n_ltF, n_leT, n_leF, n_eqT, n_eqF, tn_9, tn_12, tn_14, tn_20, tn_28, tn_44, tn_52, tn_68, tn_84, tn_100, tn_116, tn_132, fu_e, up_eq, ob_0, ob_b, oi_add, oi_sub, oi_mul, oi_neg, Int.add_zero, Int.zero_add, or_true, true_or, or_false, false_or, and_self, z_i2l, z_l2i, lo_nat, lo_add, lo_sub, lo_mul, lo_0, e_rem]
    by_cases q : t = 0 ∨ t = 3
    · rw [if_pos q] at he
      have := z_cl_87 (b := b) (o := o) (g := (2, 24, false)) (Q := Q) hO q hd20 hD (by rw [← he]; exact h125) 8 0 v4 (by omega)
      simpa [a_zc] using this
    · rw [if_neg q, Int.add_zero] at he
      refine rt_X10_clear_87 ?_
      simp (disch := omega) only [wp_c, wp_n, jj_n, v_ct, Int.reduceToNat, Int.toNat_natCast, stE, wlE, lgt, lpu, lpw, v_c2, va_s, true_and, and_true, Option.toList, List.nil_append, List.cons_append, List.take, List.drop, List.reverse, List.reverseAux, List.length_cons, List.length_nil, reduceCtorEq, false_implies, true_implies, forall_const, not_true_eq_false, not_false_eq_true, ite_true, ite_false, Bool.false_eq_true, I_I, J_J, Nat.add_left_cancel_iff, Nat.reduceEqDiff, Nat.add_eq_left, Nat.left_eq_add, false_and, and_false, Nat.reduceSub, Nat.sub_self, Nat.le_refl, Nat.zero_le, ge_iff_le, Nat.reduceAdd, Nat.reduceLeDiff, Nat.zero_add, Nat.reduceLT, z_lt, z_le, z_eq, z_l0, z_g0, z_le0, z_ge0, z_e0, z_e1, z_vp, z_nc, z_rem, z_div, i_ltT, i_ltF, i_leT, i_leF, i_eqT, i_eqF, n_ltT, n_ltF, n_leT, n_leF, n_eqT, n_eqF, tn_9, tn_12, tn_14, tn_20, tn_28, tn_44, tn_52, tn_68, tn_84, tn_100, tn_116, tn_132, fu_e, up_eq, ob_0, ob_b, oi_add, oi_sub, oi_mul, oi_neg, Int.add_zero, Int.zero_add, or_true, true_or, or_false, false_or, and_self, z_i2l, z_l2i, lo_nat, lo_add, lo_sub, lo_mul, lo_0, e_rem]
      rw [← he]
      exact h125 _ _
  have h38 : ∀ D : Int, 0 ≤ D ∧ D ≤ 50 → (a_clear A t).2 = D + (if t = 0 ∨ t = 2 then a_zc A 44 8 else 0) + (if t = 0 ∨ t = 3 then a_zc A 20 8 else 0) → ∀ v3 v4, RT n_X10_clear 38 [.ref o, .int (Int32.ofInt t), .int (Int32.ofInt D), v3, v4] [] w (2, 24, false) Q := by
    intro D hD he v3 v4
    refine rt_X10_clear_38 ?_
    simp (disch := omega) only [wp_c, wp_n, jj_n, v_ct, Int.reduceToNat, Int.toNat_natCast, stE, wlE, lgt, lpu, lpw, v_c2, va_s, true_and, and_true, Option.toList, List.nil_append, List.cons_append, List.take, List.drop, List.reverse, List.reverseAux, List.length_cons, List.length_nil, reduceCtorEq, false_implies, true_implies, forall_const, not_true_eq_false, not_false_eq_true, ite_true, ite_false, Bool.false_eq_true, I_I, J_J, Nat.add_left_cancel_iff, Nat.reduceEqDiff, Nat.add_eq_left, Nat.left_eq_add, false_and, and_false, Nat.reduceSub, Nat.sub_self, Nat.le_refl, Nat.zero_le, ge_iff_le, Nat.reduceAdd, Nat.reduceLeDiff, Nat.zero_add, Nat.reduceLT, z_lt, z_le, z_eq, z_l0, z_g0, z_le0, z_ge0, z_e0, z_e1, z_vp, z_nc, z_rem, z_div, i_ltT, i_ltF, i_leT, i_leF, i_eqT, i_eqF, n_ltT, n_ltF, n_leT, n_leF, n_eqT, n_eqF, tn_9, tn_12, tn_14, tn_20, tn_28, tn_44, tn_52, tn_68, tn_84, tn_100, tn_116, tn_132, fu_e, up_eq, ob_0, ob_b, oi_add, oi_sub, oi_mul, oi_neg, Int.add_zero, Int.zero_add, or_true, true_or, or_false, false_or, and_self, z_i2l, z_l2i, lo_nat, lo_add, lo_sub, lo_mul, lo_0, e_rem, hF, hV, hk]
    rw [← hkb]
    by_cases q : t = 0 ∨ t = 2
    · rw [if_pos q] at he
      have := z_cl_43 (o := o) (w := w) (g := (2, 24, false)) (Q := Q) (A := A) (fun j hj => TJ_cnt hJ j hj) q (D := D) (by omega) (h85 _ (by omega) he) 8 0 (by omega)
      simpa [a_zc] using this
    · rw [if_neg q, Int.add_zero] at he
      rw [hkb]
      refine rt_X10_clear_43 ?_
      by_cases q0 : 0 < k_num A
      · have hp : lg_cmp (Int64.ofInt (k_num A)) (Int64.ofInt 0) = 1 := by
          unfold lg_cmp
          rw [if_pos ((lo_lt ⟨by omega, by omega⟩ ⟨by omega, by omega⟩).mpr (by omega))]
        have i1 : ¬ (1 : Int32) ≤ 0 := by decide
        simp (disch := omega) only [wp_c, wp_n, jj_n, v_ct, Int.reduceToNat, Int.toNat_natCast, stE, wlE, lgt, lpu, lpw, v_c2, va_s, true_and, and_true, Option.toList, List.nil_append, List.cons_append, List.take, List.drop, List.reverse, List.reverseAux, List.length_cons, List.length_nil, reduceCtorEq, false_implies, true_implies, forall_const, not_true_eq_false, not_false_eq_true, ite_true, ite_false, Bool.false_eq_true, I_I, J_J, Nat.add_left_cancel_iff, Nat.reduceEqDiff, Nat.add_eq_left, Nat.left_eq_add, false_and, and_false, Nat.reduceSub, Nat.sub_self, Nat.le_refl, Nat.zero_le, ge_iff_le, Nat.reduceAdd, Nat.reduceLeDiff, Nat.zero_add, Nat.reduceLT, z_lt, z_le, z_eq, z_l0, z_g0, z_le0, z_ge0, z_e0, z_e1, z_vp, z_nc, z_rem, z_div, i_ltT, i_ltF, i_leT, i_leF, i_eqT, i_eqF, n_ltT, n_ltF, n_leT, n_leF, n_eqT, n_eqF, tn_9, tn_12, tn_14, tn_20, tn_28, tn_44, tn_52, tn_68, tn_84, tn_100, tn_116, tn_132, fu_e, up_eq, ob_0, ob_b, oi_add, oi_sub, oi_mul, oi_neg, Int.add_zero, Int.zero_add, or_true, true_or, or_false, false_or, and_self, z_i2l, z_l2i, lo_nat, lo_add, lo_sub, lo_mul, lo_0, e_rem, hp, i1]
        exact h85 D (by omega) he _ _
      · have e0 : k_num A = 0 := by omega
        have hp : lg_cmp (Int64.ofInt 0) (Int64.ofInt 0) = 0 := by decide
        simp (disch := omega) only [wp_c, wp_n, jj_n, v_ct, Int.reduceToNat, Int.toNat_natCast, stE, wlE, lgt, lpu, lpw, v_c2, va_s, true_and, and_true, Option.toList, List.nil_append, List.cons_append, List.take, List.drop, List.reverse, List.reverseAux, List.length_cons, List.length_nil, reduceCtorEq, false_implies, true_implies, forall_const, not_true_eq_false, not_false_eq_true, ite_true, ite_false, Bool.false_eq_true, I_I, J_J, Nat.add_left_cancel_iff, Nat.reduceEqDiff, Nat.add_eq_left, Nat.left_eq_add, false_and, and_false, Nat.reduceSub, Nat.sub_self, Nat.le_refl, Nat.zero_le, ge_iff_le, Nat.reduceAdd, Nat.reduceLeDiff, Nat.zero_add, Nat.reduceLT, z_lt, z_le, z_eq, z_l0, z_g0, z_le0, z_ge0, z_e0, z_e1, z_vp, z_nc, z_rem, z_div, i_ltT, i_ltF, i_leT, i_leF, i_eqT, i_eqF, n_ltT, n_ltF, n_leT, n_leF, n_eqT, n_eqF, tn_9, tn_12, tn_14, tn_20, tn_28, tn_44, tn_52, tn_68, tn_84, tn_100, tn_116, tn_132, fu_e, up_eq, ob_0, ob_b, oi_add, oi_sub, oi_mul, oi_neg, Int.add_zero, Int.zero_add, or_true, true_or, or_false, false_or, and_self, z_i2l, z_l2i, lo_nat, lo_add, lo_sub, lo_mul, lo_0, e_rem, e0, hp]
        first | exact h85 D (by omega) he _ _ | (refine ⟨fun _ => h85 D (by omega) he _ _, fun z => absurd z ?_⟩; decide)
  refine ct_X10_clear (rt_X10_clear_0 ?_)
  simp only [wp_c, wp_n, jj_n, v_ct, Int.reduceToNat, Int.toNat_natCast, stE, wlE, lgt, lpu, lpw, v_c2, va_s, true_and, and_true, Option.toList, List.nil_append, List.cons_append, List.take, List.drop, List.reverse, List.reverseAux, List.length_cons, List.length_nil, reduceCtorEq, false_implies, true_implies, forall_const, not_true_eq_false, not_false_eq_true, ite_true, ite_false, Bool.false_eq_true, I_I, J_J, Nat.add_left_cancel_iff, Nat.reduceEqDiff, Nat.add_eq_left, Nat.left_eq_add, false_and, and_false, Nat.reduceSub, Nat.sub_self, Nat.le_refl, Nat.zero_le, ge_iff_le, Nat.reduceAdd, Nat.reduceLeDiff, Nat.zero_add, Nat.reduceLT]
  by_cases q : t < 2
  · rw [if_pos q] at c2
    have := z_cl_4 (b := b) (o := o) (A := A) (g := (2, 24, false)) (Q := Q) hO ⟨ht.1, q⟩ hd28 (h38 _ (by omega) c2) 16 0 .null (by omega)
    exact this
  · rw [if_neg q, Int.zero_add] at c2
    refine rt_X10_clear_4 ?_
    simp (disch := omega) only [wp_c, wp_n, jj_n, v_ct, Int.reduceToNat, Int.toNat_natCast, stE, wlE, lgt, lpu, lpw, v_c2, va_s, true_and, and_true, Option.toList, List.nil_append, List.cons_append, List.take, List.drop, List.reverse, List.reverseAux, List.length_cons, List.length_nil, reduceCtorEq, false_implies, true_implies, forall_const, not_true_eq_false, not_false_eq_true, ite_true, ite_false, Bool.false_eq_true, I_I, J_J, Nat.add_left_cancel_iff, Nat.reduceEqDiff, Nat.add_eq_left, Nat.left_eq_add, false_and, and_false, Nat.reduceSub, Nat.sub_self, Nat.le_refl, Nat.zero_le, ge_iff_le, Nat.reduceAdd, Nat.reduceLeDiff, Nat.zero_add, Nat.reduceLT, z_lt, z_le, z_eq, z_l0, z_g0, z_le0, z_ge0, z_e0, z_e1, z_vp, z_nc, z_rem, z_div, i_ltT, i_ltF, i_leT, i_leF, i_eqT, i_eqF, n_ltT, n_ltF, n_leT, n_leF, n_eqT, n_eqF, tn_9, tn_12, tn_14, tn_20, tn_28, tn_44, tn_52, tn_68, tn_84, tn_100, tn_116, tn_132, fu_e, up_eq, ob_0, ob_b, oi_add, oi_sub, oi_mul, oi_neg, Int.add_zero, Int.zero_add, or_true, true_or, or_false, false_or, and_self, z_i2l, z_l2i, lo_nat, lo_add, lo_sub, lo_mul, lo_0, e_rem]
    exact h38 0 (by omega) (by rw [c2]; omega) _ _
-- 57.own
/-! a copy of an own machine -/
theorem UB.new {b a : Nat} {w : mW} (h : b ≤ a) (h2 : 100 + w_n w ≤ a) : UB b w a := ⟨h, Or.inr h2⟩
def o_cp (B : Row) : Row := fun j => if j < 5 ∨ (12 ≤ j ∧ j < 18) ∨ (20 ≤ j ∧ j < 44) ∨ (52 ≤ j ∧ j < 84) ∨ (100 ≤ j ∧ j < 116) ∨ j = 1013 ∨ j = 1014 then B j else 0
theorem OW.from {W : mW} {b b' o o' f q : Nat} {P P' : Nat → Nat} {B B' : Row} (h : OW W b' o' P' B') (h0 : OW W b o P B) (hf : 15 ≤ f ∧ f ≤ 23) (hq : w_n W ≤ q) :
    OW (s_R (s_C (s_K W q) (P f)) o' f (some (100 + q))) b' o' (fun k => if k = f then 100 + q else P' k) (fun j => if oi f 0 ≤ j ∧ j < oi f 0 + olen f then B j else B' j) := by
  obtain ⟨c1, c2, c3, c4, c5⟩ := C_at (w := W) (a := P f) (q := q)
  have := h.arr' (q := 100 + q) (g := fun i => B (oi f 0 + i)) hf ((FO.refl _ _).C hq (Nat.le_refl _)) (by omega) (by rw [c5]; omega) (by rw [c1, if_pos rfl, h0.1.2.2.1 f hf.1 hf.2]) (fun i hi => by rw [c2, if_pos rfl, h0.2.1.2.2 f i hf.1 hf.2 hi, oi_base f i hf])
  refine this.cg ?_
  funext j
  by_cases e : oi f 0 ≤ j ∧ j < oi f 0 + olen f
  · rw [if_pos e, if_pos e, show oi f 0 + (j - oi f 0) = j by omega]
  · rw [if_neg e, if_neg e]
set_option maxHeartbeats 8000000 in
theorem z_copy {b o : Nat} {P : Nat → Nat} {B : Row} {w : mW} {Q : mW → mO → Prop} (hO : OW w b o P B) (hq : ∀ w' o' P', OW w' (100 + w_n w) o' P' (o_cp B) → FO (100 + w_n w) w w' → Q w' (.inl (some (.ref o')))) : CT n_X10_copy [.ref o] w Q := by
  have hlt := hO.lt
  refine ct_X10_copy (rt_X10_copy_0 ?_)
  have cl10 : (m_cl 10).2.2 = 25 := by decide
  simp (disch := omega) only [wp_c, wp_n, jj_n, v_ct, Int.reduceToNat, Int.toNat_natCast, stE, wlE, lgt, lpu, lpw, v_c2, va_s, true_and, and_true, Option.toList, List.nil_append, List.cons_append, List.take, List.drop, List.reverse, List.reverseAux, List.length_cons, List.length_nil, reduceCtorEq, false_implies, true_implies, forall_const, not_true_eq_false, not_false_eq_true, ite_true, ite_false, Bool.false_eq_true, I_I, J_J, Nat.add_left_cancel_iff, Nat.reduceEqDiff, Nat.add_eq_left, Nat.left_eq_add, false_and, and_false, Nat.reduceSub, Nat.sub_self, Nat.le_refl, Nat.zero_le, ge_iff_le, Nat.reduceAdd, Nat.reduceLeDiff, Nat.zero_add, Nat.reduceLT, z_lt, z_le, z_eq, z_l0, z_g0, z_le0, z_ge0, z_e0, z_e1, z_vp, z_nc, z_rem, z_div, i_ltT, i_ltF, i_leT, i_leF, i_eqT, i_eqF, n_ltT, n_ltF, n_leT, n_leF, n_eqT, n_eqF, tn_9, tn_12, tn_14, tn_20, tn_28, tn_44, tn_52, tn_68, tn_84, tn_100, tn_116, tn_132, fu_e, up_eq, ob_0, ob_b, oi_add, oi_sub, oi_mul, oi_neg, Int.add_zero, Int.zero_add, or_true, true_or, or_false, false_or, and_self, z_i2l, z_l2i, lo_nat, lo_add, lo_sub, lo_mul, lo_0, e_rem, cl10]
  intro q hq0
  have hW1n : w_n (s_N (s_K w q) (0, 10)) = q + 1 := rfl
  have f1 : FO (100 + w_n w) w (s_N (s_K w q) (0, 10)) := (FO.refl _ _).N hq0 (Nat.le_refl _)
  have hsh1 : w_sh (s_N (s_K w q) (0, 10)) (100 + q) = (0, 10) := NK_sh _ _ _
  generalize hW1 : s_N (s_K w q) (0, 10) = W1 at hW1n f1 hsh1 ⊢
  try simp (disch := omega) only [wp_c, wp_n, jj_n, v_ct, Int.reduceToNat, Int.toNat_natCast, stE, wlE, lgt, lpu, lpw, v_c2, va_s, true_and, and_true, Option.toList, List.nil_append, List.cons_append, List.take, List.drop, List.reverse, List.reverseAux, List.length_cons, List.length_nil, reduceCtorEq, false_implies, true_implies, forall_const, not_true_eq_false, not_false_eq_true, ite_true, ite_false, Bool.false_eq_true, I_I, J_J, Nat.add_left_cancel_iff, Nat.reduceEqDiff, Nat.add_eq_left, Nat.left_eq_add, false_and, and_false, Nat.reduceSub, Nat.sub_self, Nat.le_refl, Nat.zero_le, ge_iff_le, Nat.reduceAdd, Nat.reduceLeDiff, Nat.zero_add, Nat.reduceLT, z_lt, z_le, z_eq, z_l0, z_g0, z_le0, z_ge0, z_e0, z_e1, z_vp, z_nc, z_rem, z_div, i_ltT, i_ltF, i_leT, i_leF, i_eqT, i_eqF, n_ltT, n_ltF, n_leT, n_leF, n_eqT, n_eqF, tn_9, tn_12, tn_14, tn_20, tn_28, tn_44, tn_52, tn_68, tn_84, tn_100, tn_116, tn_132, fu_e, up_eq, ob_0, ob_b, oi_add, oi_sub, oi_mul, oi_neg, Int.add_zero, Int.zero_add, or_true, true_or, or_false, false_or, and_self, z_i2l, z_l2i, lo_nat, lo_add, lo_sub, lo_mul, lo_0, e_rem, hW1n]
  intro q' hq1
  have hI0 : w_I (s_K W1 q') (100 + q) = fun _ => 0 := by rw [K_I, ← hW1, N_Ic, K_n, if_pos rfl]
  have hJ0 : w_J (s_K W1 q') (100 + q) = fun _ => 0 := by rw [K_J, ← hW1, N_Jc, K_n, if_pos rfl]
  refine z_init (by rw [K_sh]; exact hsh1) (by rw [K_n]; omega) hI0 hJ0 ?_
  intro W2 k2
  have fK : FO (100 + w_n w) w (s_K W1 q') := f1.K (by omega)
  have hU : UB (100 + w_n w) (s_K W1 q') (100 + q) := ⟨by omega, Or.inl fun z => z.1 (by rw [K_sh]; exact hsh1)⟩
  have hn2 : w_n W2 = q' + 10 := k2.1
  have h2 := k2.ow (b := 100 + w_n w) (by rw [K_n]; omega) (by omega)
  have f2 : FO (100 + w_n w) w W2 := fK.trans (k2.fo hU (by rw [K_n]; omega))
  have g2 := hO.ext f2
  have F2 := h2.F
  have G2 := g2.F
  have V2 := g2.V
  have ge2 := h2.ge
  have hoo : (o = 100 + q) = False := eq_false (by omega)
  simp (disch := omega) only [wp_c, wp_n, jj_n, v_ct, Int.reduceToNat, Int.toNat_natCast, stE, wlE, lgt, lpu, lpw, v_c2, va_s, true_and, and_true, Option.toList, List.nil_append, List.cons_append, List.take, List.drop, List.reverse, List.reverseAux, List.length_cons, List.length_nil, reduceCtorEq, false_implies, true_implies, forall_const, not_true_eq_false, not_false_eq_true, ite_true, ite_false, Bool.false_eq_true, I_I, J_J, Nat.add_left_cancel_iff, Nat.reduceEqDiff, Nat.add_eq_left, Nat.left_eq_add, false_and, and_false, Nat.reduceSub, Nat.sub_self, Nat.le_refl, Nat.zero_le, ge_iff_le, Nat.reduceAdd, Nat.reduceLeDiff, Nat.zero_add, Nat.reduceLT, z_lt, z_le, z_eq, z_l0, z_g0, z_le0, z_ge0, z_e0, z_e1, z_vp, z_nc, z_rem, z_div, i_ltT, i_ltF, i_leT, i_leF, i_eqT, i_eqF, n_ltT, n_ltF, n_leT, n_leF, n_eqT, n_eqF, tn_9, tn_12, tn_14, tn_20, tn_28, tn_44, tn_52, tn_68, tn_84, tn_100, tn_116, tn_132, fu_e, up_eq, ob_0, ob_b, oi_add, oi_sub, oi_mul, oi_neg, Int.add_zero, Int.zero_add, or_true, true_or, or_false, false_or, and_self, z_i2l, z_l2i, lo_nat, lo_add, lo_sub, lo_mul, lo_0, e_rem, F2.1, G2, V2, hoo]
  have h3 := (((((h2.sn (v := B 0)).sm (v := B 1)).sk (v := B 2)).srch (v := B 3)).sc (v := B 4)).sctr (v := B 1013) |>.sdue (v := B 1014)
  have hU2 : UB (100 + w_n w) W2 (100 + q) := ge2.1
  have f3 : FO (100 + w_n w) w (s_J (s_J (s_I (s_I (s_I (s_I (s_I W2 (100 + q) 1 (Int32.ofInt (B 0))) (100 + q) 2 (Int32.ofInt (B 1))) (100 + q) 3 (Int32.ofInt (B 2))) (100 + q) 4 (Int32.ofInt (B 3))) (100 + q) 5 (Int32.ofInt (B 4))) (100 + q) 13 (Int64.ofInt (B 1013))) (100 + q) 14 (Int64.ofInt (B 1014))) := f2.trans (((((((FO.refl _ _).I hU2).I hU2).I hU2).I hU2).I hU2).J hU2 |>.J hU2)
  generalize hW3 : s_J (s_J (s_I (s_I (s_I (s_I (s_I W2 (100 + q) 1 (Int32.ofInt (B 0))) (100 + q) 2 (Int32.ofInt (B 1))) (100 + q) 3 (Int32.ofInt (B 2))) (100 + q) 4 (Int32.ofInt (B 3))) (100 + q) 5 (Int32.ofInt (B 4))) (100 + q) 13 (Int64.ofInt (B 1013))) (100 + q) 14 (Int64.ofInt (B 1014)) = W3 at h3 f3 ⊢
  have hn3 : w_n W3 = q' + 10 := by rw [← hW3]; exact hn2
  have G4 := (hO.ext f3).F
  have U4 : UB (100 + w_n w) W3 (100 + q) := h3.ge.1
  have L4 := h3.lt
  try simp (disch := omega) only [wp_c, wp_n, jj_n, v_ct, Int.reduceToNat, Int.toNat_natCast, stE, wlE, lgt, lpu, lpw, v_c2, va_s, true_and, and_true, Option.toList, List.nil_append, List.cons_append, List.take, List.drop, List.reverse, List.reverseAux, List.length_cons, List.length_nil, reduceCtorEq, false_implies, true_implies, forall_const, not_true_eq_false, not_false_eq_true, ite_true, ite_false, Bool.false_eq_true, I_I, J_J, Nat.add_left_cancel_iff, Nat.reduceEqDiff, Nat.add_eq_left, Nat.left_eq_add, false_and, and_false, Nat.reduceSub, Nat.sub_self, Nat.le_refl, Nat.zero_le, ge_iff_le, Nat.reduceAdd, Nat.reduceLeDiff, Nat.zero_add, Nat.reduceLT, z_lt, z_le, z_eq, z_l0, z_g0, z_le0, z_ge0, z_e0, z_e1, z_vp, z_nc, z_rem, z_div, i_ltT, i_ltF, i_leT, i_leF, i_eqT, i_eqF, n_ltT, n_ltF, n_leT, n_leF, n_eqT, n_eqF, tn_9, tn_12, tn_14, tn_20, tn_28, tn_44, tn_52, tn_68, tn_84, tn_100, tn_116, tn_132, fu_e, up_eq, ob_0, ob_b, oi_add, oi_sub, oi_mul, oi_neg, Int.add_zero, Int.zero_add, or_true, true_or, or_false, false_or, and_self, z_i2l, z_l2i, lo_nat, lo_add, lo_sub, lo_mul, lo_0, e_rem, G4, h3.F.1]
  intro r4 hr4
  have no4 : ¬ 100 + q = 100 + r4 := by omega
  have nq4 : ¬ o = 100 + r4 := by have := (hO.ext f3).lt; omega
  have h4 := h3.from (hO.ext f3) (q := r4) (f := 15) (by omega) (by omega)
  have f4 : FO (100 + w_n w) w (s_R (s_C (s_K W3 r4) (P 15)) (100 + q) 15 (some (100 + r4))) := (f3.C (by omega) (by have := f3.2; omega)).R (UB.new (by omega) (by omega))
  generalize hW4 : s_R (s_C (s_K W3 r4) (P 15)) (100 + q) 15 (some (100 + r4)) = W4 at h4 f4 ⊢
  have hn4 : w_n W4 = r4 + 1 := by rw [← hW4]; rfl
  simp (disch := omega) only [wp_c, wp_n, jj_n, v_ct, Int.reduceToNat, Int.toNat_natCast, stE, wlE, lgt, lpu, lpw, v_c2, va_s, true_and, and_true, Option.toList, List.nil_append, List.cons_append, List.take, List.drop, List.reverse, List.reverseAux, List.length_cons, List.length_nil, reduceCtorEq, false_implies, true_implies, forall_const, not_true_eq_false, not_false_eq_true, ite_true, ite_false, Bool.false_eq_true, I_I, J_J, Nat.add_left_cancel_iff, Nat.reduceEqDiff, Nat.add_eq_left, Nat.left_eq_add, false_and, and_false, Nat.reduceSub, Nat.sub_self, Nat.le_refl, Nat.zero_le, ge_iff_le, Nat.reduceAdd, Nat.reduceLeDiff, Nat.zero_add, Nat.reduceLT, z_lt, z_le, z_eq, z_l0, z_g0, z_le0, z_ge0, z_e0, z_e1, z_vp, z_nc, z_rem, z_div, i_ltT, i_ltF, i_leT, i_leF, i_eqT, i_eqF, n_ltT, n_ltF, n_leT, n_leF, n_eqT, n_eqF, tn_9, tn_12, tn_14, tn_20, tn_28, tn_44, tn_52, tn_68, tn_84, tn_100, tn_116, tn_132, fu_e, up_eq, ob_0, ob_b, oi_add, oi_sub, oi_mul, oi_neg, Int.add_zero, Int.zero_add, or_true, true_or, or_false, false_or, and_self, z_i2l, z_l2i, lo_nat, lo_add, lo_sub, lo_mul, lo_0, e_rem, CK_sh, CK_shn no4, CK_shn nq4, CK_Rn no4, CK_Rn nq4, G4, h3.F.1, h4.F.1, (hO.ext f4).F]
  have G5 := (hO.ext f4).F
  have U5 : UB (100 + w_n w) W4 (100 + q) := h4.ge.1
  have L5 := h4.lt
  try simp (disch := omega) only [wp_c, wp_n, jj_n, v_ct, Int.reduceToNat, Int.toNat_natCast, stE, wlE, lgt, lpu, lpw, v_c2, va_s, true_and, and_true, Option.toList, List.nil_append, List.cons_append, List.take, List.drop, List.reverse, List.reverseAux, List.length_cons, List.length_nil, reduceCtorEq, false_implies, true_implies, forall_const, not_true_eq_false, not_false_eq_true, ite_true, ite_false, Bool.false_eq_true, I_I, J_J, Nat.add_left_cancel_iff, Nat.reduceEqDiff, Nat.add_eq_left, Nat.left_eq_add, false_and, and_false, Nat.reduceSub, Nat.sub_self, Nat.le_refl, Nat.zero_le, ge_iff_le, Nat.reduceAdd, Nat.reduceLeDiff, Nat.zero_add, Nat.reduceLT, z_lt, z_le, z_eq, z_l0, z_g0, z_le0, z_ge0, z_e0, z_e1, z_vp, z_nc, z_rem, z_div, i_ltT, i_ltF, i_leT, i_leF, i_eqT, i_eqF, n_ltT, n_ltF, n_leT, n_leF, n_eqT, n_eqF, tn_9, tn_12, tn_14, tn_20, tn_28, tn_44, tn_52, tn_68, tn_84, tn_100, tn_116, tn_132, fu_e, up_eq, ob_0, ob_b, oi_add, oi_sub, oi_mul, oi_neg, Int.add_zero, Int.zero_add, or_true, true_or, or_false, false_or, and_self, z_i2l, z_l2i, lo_nat, lo_add, lo_sub, lo_mul, lo_0, e_rem, G5, h4.F.1]
  intro r5 hr5
  have no5 : ¬ 100 + q = 100 + r5 := by omega
  have nq5 : ¬ o = 100 + r5 := by have := (hO.ext f4).lt; omega
  have h5 := h4.from (hO.ext f4) (q := r5) (f := 16) (by omega) (by omega)
  have f5 : FO (100 + w_n w) w (s_R (s_C (s_K W4 r5) (P 16)) (100 + q) 16 (some (100 + r5))) := (f4.C (by omega) (by have := f4.2; omega)).R (UB.new (by omega) (by omega))
  generalize hW5 : s_R (s_C (s_K W4 r5) (P 16)) (100 + q) 16 (some (100 + r5)) = W5 at h5 f5 ⊢
  have hn5 : w_n W5 = r5 + 1 := by rw [← hW5]; rfl
  simp (disch := omega) only [wp_c, wp_n, jj_n, v_ct, Int.reduceToNat, Int.toNat_natCast, stE, wlE, lgt, lpu, lpw, v_c2, va_s, true_and, and_true, Option.toList, List.nil_append, List.cons_append, List.take, List.drop, List.reverse, List.reverseAux, List.length_cons, List.length_nil, reduceCtorEq, false_implies, true_implies, forall_const, not_true_eq_false, not_false_eq_true, ite_true, ite_false, Bool.false_eq_true, I_I, J_J, Nat.add_left_cancel_iff, Nat.reduceEqDiff, Nat.add_eq_left, Nat.left_eq_add, false_and, and_false, Nat.reduceSub, Nat.sub_self, Nat.le_refl, Nat.zero_le, ge_iff_le, Nat.reduceAdd, Nat.reduceLeDiff, Nat.zero_add, Nat.reduceLT, z_lt, z_le, z_eq, z_l0, z_g0, z_le0, z_ge0, z_e0, z_e1, z_vp, z_nc, z_rem, z_div, i_ltT, i_ltF, i_leT, i_leF, i_eqT, i_eqF, n_ltT, n_ltF, n_leT, n_leF, n_eqT, n_eqF, tn_9, tn_12, tn_14, tn_20, tn_28, tn_44, tn_52, tn_68, tn_84, tn_100, tn_116, tn_132, fu_e, up_eq, ob_0, ob_b, oi_add, oi_sub, oi_mul, oi_neg, Int.add_zero, Int.zero_add, or_true, true_or, or_false, false_or, and_self, z_i2l, z_l2i, lo_nat, lo_add, lo_sub, lo_mul, lo_0, e_rem, CK_sh, CK_shn no5, CK_shn nq5, CK_Rn no5, CK_Rn nq5, G5, h4.F.1, h5.F.1, (hO.ext f5).F]
  have G6 := (hO.ext f5).F
  have U6 : UB (100 + w_n w) W5 (100 + q) := h5.ge.1
  have L6 := h5.lt
  try simp (disch := omega) only [wp_c, wp_n, jj_n, v_ct, Int.reduceToNat, Int.toNat_natCast, stE, wlE, lgt, lpu, lpw, v_c2, va_s, true_and, and_true, Option.toList, List.nil_append, List.cons_append, List.take, List.drop, List.reverse, List.reverseAux, List.length_cons, List.length_nil, reduceCtorEq, false_implies, true_implies, forall_const, not_true_eq_false, not_false_eq_true, ite_true, ite_false, Bool.false_eq_true, I_I, J_J, Nat.add_left_cancel_iff, Nat.reduceEqDiff, Nat.add_eq_left, Nat.left_eq_add, false_and, and_false, Nat.reduceSub, Nat.sub_self, Nat.le_refl, Nat.zero_le, ge_iff_le, Nat.reduceAdd, Nat.reduceLeDiff, Nat.zero_add, Nat.reduceLT, z_lt, z_le, z_eq, z_l0, z_g0, z_le0, z_ge0, z_e0, z_e1, z_vp, z_nc, z_rem, z_div, i_ltT, i_ltF, i_leT, i_leF, i_eqT, i_eqF, n_ltT, n_ltF, n_leT, n_leF, n_eqT, n_eqF, tn_9, tn_12, tn_14, tn_20, tn_28, tn_44, tn_52, tn_68, tn_84, tn_100, tn_116, tn_132, fu_e, up_eq, ob_0, ob_b, oi_add, oi_sub, oi_mul, oi_neg, Int.add_zero, Int.zero_add, or_true, true_or, or_false, false_or, and_self, z_i2l, z_l2i, lo_nat, lo_add, lo_sub, lo_mul, lo_0, e_rem, G6, h5.F.1]
  intro r6 hr6
  have no6 : ¬ 100 + q = 100 + r6 := by omega
  have nq6 : ¬ o = 100 + r6 := by have := (hO.ext f5).lt; omega
  have h6 := h5.from (hO.ext f5) (q := r6) (f := 17) (by omega) (by omega)
  have f6 : FO (100 + w_n w) w (s_R (s_C (s_K W5 r6) (P 17)) (100 + q) 17 (some (100 + r6))) := (f5.C (by omega) (by have := f5.2; omega)).R (UB.new (by omega) (by omega))
  generalize hW6 : s_R (s_C (s_K W5 r6) (P 17)) (100 + q) 17 (some (100 + r6)) = W6 at h6 f6 ⊢
  have hn6 : w_n W6 = r6 + 1 := by rw [← hW6]; rfl
  simp (disch := omega) only [wp_c, wp_n, jj_n, v_ct, Int.reduceToNat, Int.toNat_natCast, stE, wlE, lgt, lpu, lpw, v_c2, va_s, true_and, and_true, Option.toList, List.nil_append, List.cons_append, List.take, List.drop, List.reverse, List.reverseAux, List.length_cons, List.length_nil, reduceCtorEq, false_implies, true_implies, forall_const, not_true_eq_false, not_false_eq_true, ite_true, ite_false, Bool.false_eq_true, I_I, J_J, Nat.add_left_cancel_iff, Nat.reduceEqDiff, Nat.add_eq_left, Nat.left_eq_add, false_and, and_false, Nat.reduceSub, Nat.sub_self, Nat.le_refl, Nat.zero_le, ge_iff_le, Nat.reduceAdd, Nat.reduceLeDiff, Nat.zero_add, Nat.reduceLT, z_lt, z_le, z_eq, z_l0, z_g0, z_le0, z_ge0, z_e0, z_e1, z_vp, z_nc, z_rem, z_div, i_ltT, i_ltF, i_leT, i_leF, i_eqT, i_eqF, n_ltT, n_ltF, n_leT, n_leF, n_eqT, n_eqF, tn_9, tn_12, tn_14, tn_20, tn_28, tn_44, tn_52, tn_68, tn_84, tn_100, tn_116, tn_132, fu_e, up_eq, ob_0, ob_b, oi_add, oi_sub, oi_mul, oi_neg, Int.add_zero, Int.zero_add, or_true, true_or, or_false, false_or, and_self, z_i2l, z_l2i, lo_nat, lo_add, lo_sub, lo_mul, lo_0, e_rem, CK_sh, CK_shn no6, CK_shn nq6, CK_Rn no6, CK_Rn nq6, G6, h5.F.1, h6.F.1, (hO.ext f6).F]
  have G7 := (hO.ext f6).F
  have U7 : UB (100 + w_n w) W6 (100 + q) := h6.ge.1
  have L7 := h6.lt
  try simp (disch := omega) only [wp_c, wp_n, jj_n, v_ct, Int.reduceToNat, Int.toNat_natCast, stE, wlE, lgt, lpu, lpw, v_c2, va_s, true_and, and_true, Option.toList, List.nil_append, List.cons_append, List.take, List.drop, List.reverse, List.reverseAux, List.length_cons, List.length_nil, reduceCtorEq, false_implies, true_implies, forall_const, not_true_eq_false, not_false_eq_true, ite_true, ite_false, Bool.false_eq_true, I_I, J_J, Nat.add_left_cancel_iff, Nat.reduceEqDiff, Nat.add_eq_left, Nat.left_eq_add, false_and, and_false, Nat.reduceSub, Nat.sub_self, Nat.le_refl, Nat.zero_le, ge_iff_le, Nat.reduceAdd, Nat.reduceLeDiff, Nat.zero_add, Nat.reduceLT, z_lt, z_le, z_eq, z_l0, z_g0, z_le0, z_ge0, z_e0, z_e1, z_vp, z_nc, z_rem, z_div, i_ltT, i_ltF, i_leT, i_leF, i_eqT, i_eqF, n_ltT, n_ltF, n_leT, n_leF, n_eqT, n_eqF, tn_9, tn_12, tn_14, tn_20, tn_28, tn_44, tn_52, tn_68, tn_84, tn_100, tn_116, tn_132, fu_e, up_eq, ob_0, ob_b, oi_add, oi_sub, oi_mul, oi_neg, Int.add_zero, Int.zero_add, or_true, true_or, or_false, false_or, and_self, z_i2l, z_l2i, lo_nat, lo_add, lo_sub, lo_mul, lo_0, e_rem, G7, h6.F.1]
  intro r7 hr7
  have no7 : ¬ 100 + q = 100 + r7 := by omega
  have nq7 : ¬ o = 100 + r7 := by have := (hO.ext f6).lt; omega
  have h7 := h6.from (hO.ext f6) (q := r7) (f := 18) (by omega) (by omega)
  have f7 : FO (100 + w_n w) w (s_R (s_C (s_K W6 r7) (P 18)) (100 + q) 18 (some (100 + r7))) := (f6.C (by omega) (by have := f6.2; omega)).R (UB.new (by omega) (by omega))
  generalize hW7 : s_R (s_C (s_K W6 r7) (P 18)) (100 + q) 18 (some (100 + r7)) = W7 at h7 f7 ⊢
  have hn7 : w_n W7 = r7 + 1 := by rw [← hW7]; rfl
  simp (disch := omega) only [wp_c, wp_n, jj_n, v_ct, Int.reduceToNat, Int.toNat_natCast, stE, wlE, lgt, lpu, lpw, v_c2, va_s, true_and, and_true, Option.toList, List.nil_append, List.cons_append, List.take, List.drop, List.reverse, List.reverseAux, List.length_cons, List.length_nil, reduceCtorEq, false_implies, true_implies, forall_const, not_true_eq_false, not_false_eq_true, ite_true, ite_false, Bool.false_eq_true, I_I, J_J, Nat.add_left_cancel_iff, Nat.reduceEqDiff, Nat.add_eq_left, Nat.left_eq_add, false_and, and_false, Nat.reduceSub, Nat.sub_self, Nat.le_refl, Nat.zero_le, ge_iff_le, Nat.reduceAdd, Nat.reduceLeDiff, Nat.zero_add, Nat.reduceLT, z_lt, z_le, z_eq, z_l0, z_g0, z_le0, z_ge0, z_e0, z_e1, z_vp, z_nc, z_rem, z_div, i_ltT, i_ltF, i_leT, i_leF, i_eqT, i_eqF, n_ltT, n_ltF, n_leT, n_leF, n_eqT, n_eqF, tn_9, tn_12, tn_14, tn_20, tn_28, tn_44, tn_52, tn_68, tn_84, tn_100, tn_116, tn_132, fu_e, up_eq, ob_0, ob_b, oi_add, oi_sub, oi_mul, oi_neg, Int.add_zero, Int.zero_add, or_true, true_or, or_false, false_or, and_self, z_i2l, z_l2i, lo_nat, lo_add, lo_sub, lo_mul, lo_0, e_rem, CK_sh, CK_shn no7, CK_shn nq7, CK_Rn no7, CK_Rn nq7, G7, h6.F.1, h7.F.1, (hO.ext f7).F]
  have G8 := (hO.ext f7).F
  have U8 : UB (100 + w_n w) W7 (100 + q) := h7.ge.1
  have L8 := h7.lt
  try simp (disch := omega) only [wp_c, wp_n, jj_n, v_ct, Int.reduceToNat, Int.toNat_natCast, stE, wlE, lgt, lpu, lpw, v_c2, va_s, true_and, and_true, Option.toList, List.nil_append, List.cons_append, List.take, List.drop, List.reverse, List.reverseAux, List.length_cons, List.length_nil, reduceCtorEq, false_implies, true_implies, forall_const, not_true_eq_false, not_false_eq_true, ite_true, ite_false, Bool.false_eq_true, I_I, J_J, Nat.add_left_cancel_iff, Nat.reduceEqDiff, Nat.add_eq_left, Nat.left_eq_add, false_and, and_false, Nat.reduceSub, Nat.sub_self, Nat.le_refl, Nat.zero_le, ge_iff_le, Nat.reduceAdd, Nat.reduceLeDiff, Nat.zero_add, Nat.reduceLT, z_lt, z_le, z_eq, z_l0, z_g0, z_le0, z_ge0, z_e0, z_e1, z_vp, z_nc, z_rem, z_div, i_ltT, i_ltF, i_leT, i_leF, i_eqT, i_eqF, n_ltT, n_ltF, n_leT, n_leF, n_eqT, n_eqF, tn_9, tn_12, tn_14, tn_20, tn_28, tn_44, tn_52, tn_68, tn_84, tn_100, tn_116, tn_132, fu_e, up_eq, ob_0, ob_b, oi_add, oi_sub, oi_mul, oi_neg, Int.add_zero, Int.zero_add, or_true, true_or, or_false, false_or, and_self, z_i2l, z_l2i, lo_nat, lo_add, lo_sub, lo_mul, lo_0, e_rem, G8, h7.F.1]
  intro r8 hr8
  have no8 : ¬ 100 + q = 100 + r8 := by omega
  have nq8 : ¬ o = 100 + r8 := by have := (hO.ext f7).lt; omega
  have h8 := h7.from (hO.ext f7) (q := r8) (f := 19) (by omega) (by omega)
  have f8 : FO (100 + w_n w) w (s_R (s_C (s_K W7 r8) (P 19)) (100 + q) 19 (some (100 + r8))) := (f7.C (by omega) (by have := f7.2; omega)).R (UB.new (by omega) (by omega))
  generalize hW8 : s_R (s_C (s_K W7 r8) (P 19)) (100 + q) 19 (some (100 + r8)) = W8 at h8 f8 ⊢
  have hn8 : w_n W8 = r8 + 1 := by rw [← hW8]; rfl
  simp (disch := omega) only [wp_c, wp_n, jj_n, v_ct, Int.reduceToNat, Int.toNat_natCast, stE, wlE, lgt, lpu, lpw, v_c2, va_s, true_and, and_true, Option.toList, List.nil_append, List.cons_append, List.take, List.drop, List.reverse, List.reverseAux, List.length_cons, List.length_nil, reduceCtorEq, false_implies, true_implies, forall_const, not_true_eq_false, not_false_eq_true, ite_true, ite_false, Bool.false_eq_true, I_I, J_J, Nat.add_left_cancel_iff, Nat.reduceEqDiff, Nat.add_eq_left, Nat.left_eq_add, false_and, and_false, Nat.reduceSub, Nat.sub_self, Nat.le_refl, Nat.zero_le, ge_iff_le, Nat.reduceAdd, Nat.reduceLeDiff, Nat.zero_add, Nat.reduceLT, z_lt, z_le, z_eq, z_l0, z_g0, z_le0, z_ge0, z_e0, z_e1, z_vp, z_nc, z_rem, z_div, i_ltT, i_ltF, i_leT, i_leF, i_eqT, i_eqF, n_ltT, n_ltF, n_leT, n_leF, n_eqT, n_eqF, tn_9, tn_12, tn_14, tn_20, tn_28, tn_44, tn_52, tn_68, tn_84, tn_100, tn_116, tn_132, fu_e, up_eq, ob_0, ob_b, oi_add, oi_sub, oi_mul, oi_neg, Int.add_zero, Int.zero_add, or_true, true_or, or_false, false_or, and_self, z_i2l, z_l2i, lo_nat, lo_add, lo_sub, lo_mul, lo_0, e_rem, CK_sh, CK_shn no8, CK_shn nq8, CK_Rn no8, CK_Rn nq8, G8, h7.F.1, h8.F.1, (hO.ext f8).F]
  have G9 := (hO.ext f8).F
  have U9 : UB (100 + w_n w) W8 (100 + q) := h8.ge.1
  have L9 := h8.lt
  try simp (disch := omega) only [wp_c, wp_n, jj_n, v_ct, Int.reduceToNat, Int.toNat_natCast, stE, wlE, lgt, lpu, lpw, v_c2, va_s, true_and, and_true, Option.toList, List.nil_append, List.cons_append, List.take, List.drop, List.reverse, List.reverseAux, List.length_cons, List.length_nil, reduceCtorEq, false_implies, true_implies, forall_const, not_true_eq_false, not_false_eq_true, ite_true, ite_false, Bool.false_eq_true, I_I, J_J, Nat.add_left_cancel_iff, Nat.reduceEqDiff, Nat.add_eq_left, Nat.left_eq_add, false_and, and_false, Nat.reduceSub, Nat.sub_self, Nat.le_refl, Nat.zero_le, ge_iff_le, Nat.reduceAdd, Nat.reduceLeDiff, Nat.zero_add, Nat.reduceLT, z_lt, z_le, z_eq, z_l0, z_g0, z_le0, z_ge0, z_e0, z_e1, z_vp, z_nc, z_rem, z_div, i_ltT, i_ltF, i_leT, i_leF, i_eqT, i_eqF, n_ltT, n_ltF, n_leT, n_leF, n_eqT, n_eqF, tn_9, tn_12, tn_14, tn_20, tn_28, tn_44, tn_52, tn_68, tn_84, tn_100, tn_116, tn_132, fu_e, up_eq, ob_0, ob_b, oi_add, oi_sub, oi_mul, oi_neg, Int.add_zero, Int.zero_add, or_true, true_or, or_false, false_or, and_self, z_i2l, z_l2i, lo_nat, lo_add, lo_sub, lo_mul, lo_0, e_rem, G9, h8.F.1]
  intro r9 hr9
  have no9 : ¬ 100 + q = 100 + r9 := by omega
  have nq9 : ¬ o = 100 + r9 := by have := (hO.ext f8).lt; omega
  have h9 := h8.from (hO.ext f8) (q := r9) (f := 21) (by omega) (by omega)
  have f9 : FO (100 + w_n w) w (s_R (s_C (s_K W8 r9) (P 21)) (100 + q) 21 (some (100 + r9))) := (f8.C (by omega) (by have := f8.2; omega)).R (UB.new (by omega) (by omega))
  generalize hW9 : s_R (s_C (s_K W8 r9) (P 21)) (100 + q) 21 (some (100 + r9)) = W9 at h9 f9 ⊢
  have hn9 : w_n W9 = r9 + 1 := by rw [← hW9]; rfl
  simp (disch := omega) only [wp_c, wp_n, jj_n, v_ct, Int.reduceToNat, Int.toNat_natCast, stE, wlE, lgt, lpu, lpw, v_c2, va_s, true_and, and_true, Option.toList, List.nil_append, List.cons_append, List.take, List.drop, List.reverse, List.reverseAux, List.length_cons, List.length_nil, reduceCtorEq, false_implies, true_implies, forall_const, not_true_eq_false, not_false_eq_true, ite_true, ite_false, Bool.false_eq_true, I_I, J_J, Nat.add_left_cancel_iff, Nat.reduceEqDiff, Nat.add_eq_left, Nat.left_eq_add, false_and, and_false, Nat.reduceSub, Nat.sub_self, Nat.le_refl, Nat.zero_le, ge_iff_le, Nat.reduceAdd, Nat.reduceLeDiff, Nat.zero_add, Nat.reduceLT, z_lt, z_le, z_eq, z_l0, z_g0, z_le0, z_ge0, z_e0, z_e1, z_vp, z_nc, z_rem, z_div, i_ltT, i_ltF, i_leT, i_leF, i_eqT, i_eqF, n_ltT, n_ltF, n_leT, n_leF, n_eqT, n_eqF, tn_9, tn_12, tn_14, tn_20, tn_28, tn_44, tn_52, tn_68, tn_84, tn_100, tn_116, tn_132, fu_e, up_eq, ob_0, ob_b, oi_add, oi_sub, oi_mul, oi_neg, Int.add_zero, Int.zero_add, or_true, true_or, or_false, false_or, and_self, z_i2l, z_l2i, lo_nat, lo_add, lo_sub, lo_mul, lo_0, e_rem, CK_sh, CK_shn no9, CK_shn nq9, CK_Rn no9, CK_Rn nq9, G9, h8.F.1, h9.F.1, (hO.ext f9).F]
  try simp (disch := omega) only [wp_c, wp_n, jj_n, v_ct, Int.reduceToNat, Int.toNat_natCast, stE, wlE, lgt, lpu, lpw, v_c2, va_s, true_and, and_true, Option.toList, List.nil_append, List.cons_append, List.take, List.drop, List.reverse, List.reverseAux, List.length_cons, List.length_nil, reduceCtorEq, false_implies, true_implies, forall_const, not_true_eq_false, not_false_eq_true, ite_true, ite_false, Bool.false_eq_true, I_I, J_J, Nat.add_left_cancel_iff, Nat.reduceEqDiff, Nat.add_eq_left, Nat.left_eq_add, false_and, and_false, Nat.reduceSub, Nat.sub_self, Nat.le_refl, Nat.zero_le, ge_iff_le, Nat.reduceAdd, Nat.reduceLeDiff, Nat.zero_add, Nat.reduceLT, z_lt, z_le, z_eq, z_l0, z_g0, z_le0, z_ge0, z_e0, z_e1, z_vp, z_nc, z_rem, z_div, i_ltT, i_ltF, i_leT, i_leF, i_eqT, i_eqF, n_ltT, n_ltF, n_leT, n_leF, n_eqT, n_eqF, tn_9, tn_12, tn_14, tn_20, tn_28, tn_44, tn_52, tn_68, tn_84, tn_100, tn_116, tn_132, fu_e, up_eq, ob_0, ob_b, oi_add, oi_sub, oi_mul, oi_neg, Int.add_zero, Int.zero_add, or_true, true_or, or_false, false_or, and_self, z_i2l, z_l2i, lo_nat, lo_add, lo_sub, lo_mul, lo_0, e_rem, mr_X10_copy]
  refine hq _ _ _ (h9.cg ?_) f9
  funext j
  simp only [olen, oi, Nat.reduceEqDiff, ite_true, ite_false, Nat.add_zero, Nat.reduceAdd]
  rcases (show j = 0 ∨ j = 1 ∨ j = 2 ∨ j = 3 ∨ j = 4 ∨ j = 1013 ∨ j = 1014 ∨ (12 ≤ j ∧ j < 18) ∨ (20 ≤ j ∧ j < 28) ∨ (28 ≤ j ∧ j < 44) ∨ (52 ≤ j ∧ j < 68) ∨ (68 ≤ j ∧ j < 84) ∨ (100 ≤ j ∧ j < 116) ∨ (¬ j < 5 ∧ ¬ j = 1013 ∧ ¬ j = 1014 ∧ ¬ (12 ≤ j ∧ j < 18) ∧ ¬ (20 ≤ j ∧ j < 44) ∧ ¬ (52 ≤ j ∧ j < 84) ∧ ¬ (100 ≤ j ∧ j < 116)) by omega) with q | q | q | q | q | q | q | q | q | q | q | q | q | q
  all_goals simp (disch := omega) only [up_eq, o_cp, n_row, if_pos, if_neg]
  all_goals rw [q]
-- 58.sb
/-- shapes that a text under way has none of -/
def sb (z : Nat × Nat) : Prop := z ≠ (0, 12) ∧ z.1 ≠ 3
def FB (b : Nat) (w w' : mW) : Prop := (∀ a, (a < b ∨ (a < 100 + w_n w ∧ sb (w_sh w a))) → w_sh w' a = w_sh w a ∧ w_R w' a = w_R w a ∧ w_I w' a = w_I w a ∧ w_J w' a = w_J w a) ∧ w_n w ≤ w_n w'
def UC (b : Nat) (w : mW) (a : Nat) : Prop := b ≤ a ∧ (¬ sb (w_sh w a) ∨ 100 + w_n w ≤ a)
theorem UC.no {b a c : Nat} {w : mW} (h : UC b w a) (hc : c < b ∨ (c < 100 + w_n w ∧ sb (w_sh w c))) : ¬ c = a := by
  intro e
  subst e
  rcases hc with q | q
  · have := h.1; omega
  · rcases h.2 with r | r
    · exact r q.2
    · have := q.1; omega
theorem FB.refl (b : Nat) (w : mW) : FB b w w := ⟨fun _ _ => ⟨rfl, rfl, rfl, rfl⟩, Nat.le_refl _⟩
theorem FB.trans {b : Nat} {w w' w'' : mW} (h : FB b w w') (h' : FB b w' w'') : FB b w w'' :=
  ⟨fun a ha => by
    have e := h.1 a ha
    have e' := h'.1 a (by
      rcases ha with q | q
      · exact Or.inl q
      · refine Or.inr ⟨by have := h.2; have := q.1; omega, ?_⟩
        rw [e.1]; exact q.2)
    exact ⟨e'.1.trans e.1, e'.2.1.trans e.2.1, e'.2.2.1.trans e.2.2.1, e'.2.2.2.trans e.2.2.2⟩, Nat.le_trans h.2 h'.2⟩
theorem FB.low {b c : Nat} {w w' : mW} (h : FB b w w') (hc : c ≤ b) : FB c w w' := ⟨fun a ha => h.1 a (by rcases ha with q | q; left; omega; exact Or.inr q), h.2⟩
theorem FB.I {b a i : Nat} {x : Int32} {w w' : mW} (h : FB b w w') (ha : UC b w a) : FB b w (s_I w' a i x) :=
  ⟨fun c hc => ⟨(h.1 c hc).1, (h.1 c hc).2.1, by rw [← (h.1 c hc).2.2.1]; funext j; rw [I_I, if_neg (fun q => ha.no hc q.1)], (h.1 c hc).2.2.2⟩, h.2⟩
theorem FB.I' {b a i : Nat} {x : Int32} {w w' : mW} (h : FB b w w') (ha : UC b w' a) : FB b w (s_I w' a i x) := h.trans ((FB.refl _ _).I ha)
theorem FB.J {b a i : Nat} {x : Int64} {w w' : mW} (h : FB b w w') (ha : UC b w a) : FB b w (s_J w' a i x) :=
  ⟨fun c hc => ⟨(h.1 c hc).1, (h.1 c hc).2.1, (h.1 c hc).2.2.1, by rw [← (h.1 c hc).2.2.2]; funext j; rw [J_J, if_neg (fun q => ha.no hc q.1)]⟩, h.2⟩
theorem FB.R {b a i : Nat} {x : Option Nat} {w w' : mW} (h : FB b w w') (ha : UC b w a) : FB b w (s_R w' a i x) :=
  ⟨fun c hc => ⟨(h.1 c hc).1, by rw [← (h.1 c hc).2.1]; funext j; rw [R_R, if_neg (fun q => ha.no hc q.1)], (h.1 c hc).2.2.1, (h.1 c hc).2.2.2⟩, h.2⟩
theorem FB.lv {b c : Nat} {w w' : mW} (h : FB b w w') (hb : b ≤ 100 + w_n w') (hc : c < b ∨ (c < 100 + w_n w ∧ sb (w_sh w c))) : c < 100 + w_n w' := by
  have := h.2
  rcases hc with q | q
  · omega
  · have := q.1; omega
theorem FB.N {b q : Nat} {z : Nat × Nat} {w w' : mW} (h : FB b w w') (hq : w_n w' ≤ q) (hb : b ≤ 100 + w_n w') : FB b w (s_N (s_K w' q) z) :=
  ⟨fun c hc => by
    have hl := h.lv hb hc
    have hn : ¬ c = 100 + w_n (s_K w' q) := by show ¬ c = 100 + q; omega
    refine ⟨?_, ?_, ?_, ?_⟩
    · rw [N_sh, if_neg hn]; exact (h.1 c hc).1
    · rw [N_Rc, if_neg hn]; exact (h.1 c hc).2.1
    · rw [N_Ic, if_neg hn]; exact (h.1 c hc).2.2.1
    · rw [N_Jc, if_neg hn]; exact (h.1 c hc).2.2.2, by rw [N_n]; show w_n w ≤ q + 1; have := h.2; omega⟩
theorem FB.A {b a : Nat} {x : Nat → Int32} {w w' : mW} (h : FB b w w') (ha : UC b w a) : FB b w (s_A w' a x) :=
  ⟨fun c hc => ⟨(h.1 c hc).1, (h.1 c hc).2.1, by rw [← (h.1 c hc).2.2.1, A_I, if_neg (ha.no hc)], (h.1 c hc).2.2.2⟩, h.2⟩
theorem FB.C {b a q : Nat} {w w' : mW} (h : FB b w w') (hq : w_n w' ≤ q) (hb : b ≤ 100 + w_n w') : FB b w (s_C (s_K w' q) a) := by
  obtain ⟨c1, c2, c3, c4, c5⟩ := C_at (w := w') (a := a) (q := q)
  refine ⟨fun c hc => ?_, by rw [c5]; have := h.2; omega⟩
  have hl := h.lv hb hc
  have hn : ¬ c = 100 + q := by omega
  rw [c1, c2, c3 _ hn, c4 _ hn, if_neg hn, if_neg hn]
  exact h.1 c hc
theorem FB.K {b q : Nat} {w w' : mW} (h : FB b w w') (hq : w_n w' ≤ q) : FB b w (s_K w' q) := ⟨h.1, by have := h.2; show w_n w ≤ q; omega⟩
theorem UC.new {b a : Nat} {w : mW} (h : b ≤ a) (h2 : 100 + w_n w ≤ a) : UC b w a := ⟨h, Or.inr h2⟩
/-- an own machine beside a text -/
theorem OW.fb {w w1 : mW} {b c o : Nat} {P : Nat → Nat} {B : Row} (h : OW w b o P B) (f : FB c w w1) : OW w1 b o P B := by
  have hlt := h.lt
  obtain ⟨⟨p1, p2, p3, p4, p5, p6⟩, ⟨v1, v2, v4⟩, l0, l1⟩ := h
  have fo := f.1 o (Or.inr ⟨p2.2, by rw [p1]; unfold sb; simp⟩)
  have fp : ∀ g, 15 ≤ g → g ≤ 23 → _ := fun g g1 g2 => f.1 (P g) (Or.inr ⟨hlt.2 g g1 (by omega), by rw [p3 g g1 g2]; unfold sb; simp⟩)
  have f24 := f.1 (P 24) (Or.inr ⟨hlt.2 24 (by omega) (by omega), by rw [p4]; unfold sb; simp⟩)
  refine ⟨⟨by rw [fo.1]; exact p1, ⟨p2.1, by have := f.2; omega⟩, fun g g1 g2 => ?_, ?_, fun g g1 g2 => ?_, p6⟩, ⟨fun g hg => ?_, ?_, fun g j g1 g2 hj => ?_⟩, l0, fun k hk => ?_⟩
  · rw [(fp g g1 g2).1]; exact p3 g g1 g2
  · rw [f24.1]; exact p4
  · rw [fo.2.1]
    have := p5 g g1 g2
    exact ⟨this.1, this.2.1, by have := f.2; omega⟩
  · rw [fo.2.2.1]; exact v1 g hg
  · rw [fo.2.2.2]; exact v2
  · rw [(fp g g1 g2).2.2.1]; exact v4 g j g1 g2 hj
  · obtain ⟨q, q1, q2, q3, q4⟩ := l1 k hk
    have fq := f.1 q (Or.inr ⟨q3, by rw [q2]; unfold sb; simp⟩)
    refine ⟨q, ?_, ?_, ?_, fun m hm => ?_⟩
    · rw [f24.2.1]; exact q1
    · rw [fq.1]; exact q2
    · have := f.2; omega
    · rw [fq.2.2.1]; exact q4 m hm
/-- a text under way: the builder at a, its bytes at p -/
def SBu (w : mW) (b a p : Nat) (l : List Int) : Prop := (w_sh w a = (0, 12) ∧ b ≤ a ∧ a < 100 + w_n w) ∧ (w_R w a 0 = some p ∧ b ≤ p ∧ p < 100 + w_n w) ∧ (w_I w a 1 = Int32.ofInt 0 ∧ w_I w a 3 = Int32.ofInt l.length) ∧ (∃ n, w_sh w p = (3, n) ∧ l.length ≤ n ∧ n ≤ 1000) ∧ l.length ≤ 400 ∧ (∀ i, i < l.length → w_I w p i = Int32.ofInt (l.getD i 0) ∧ 0 ≤ l.getD i 0 ∧ l.getD i 0 ≤ 127) ∧ ∀ i, fits .byte (.int (w_I w p i)) = true
theorem sh_ne {w : mW} {a p n : Nat} (h1 : w_sh w a = (0, 12)) (h2 : w_sh w p = (3, n)) : ¬ a = p := by
  intro e
  rw [← e, h1] at h2
  have := congrArg Prod.fst h2
  simp at this
theorem sr0 (x : Int32) : x >>> (Int32.ofInt 0 &&& 31) = x := by
  have e : (Int32.ofInt 0 &&& 31) = 0 := by decide
  rw [e]
  exact Int32.shiftRight_zero
theorem sl0 (x : Int32) : x <<< (Int32.ofInt 0 &&& 31) = x := by
  have e : (Int32.ofInt 0 &&& 31) = 0 := by decide
  rw [e]
  exact Int32.shiftLeft_zero
theorem i10 : ((1 : Int32) = 0) = False := eq_false (by decide)
theorem c_newLen {x y z : Int} {w : mW} {Q : mW → mO → Prop} (hx : 0 ≤ x ∧ x ≤ 100000) (hy : -100000 ≤ y ∧ y ≤ 100000) (hz : 0 < z ∧ z ≤ 100000) (hq : Q w (.inl (some (.int (Int32.ofInt (x + (if z ≤ y then y else z))))))) : CT n_J8_newLength_cabcc [.int (Int32.ofInt x), .int (Int32.ofInt y), .int (Int32.ofInt z)] w Q := by
  refine ct_J8_newLength_cabcc (rt_J8_newLength_cabcc_0 ?_)
  simp (disch := omega) only [wp_c, wp_n, jj_n, v_ct, Int.reduceToNat, Int.toNat_natCast, stE, wlE, lgt, lpu, lpw, v_c2, va_s, true_and, and_true, Option.toList, List.nil_append, List.cons_append, List.take, List.drop, List.reverse, List.reverseAux, List.length_cons, List.length_nil, reduceCtorEq, false_implies, true_implies, forall_const, not_true_eq_false, not_false_eq_true, ite_true, ite_false, Bool.false_eq_true, I_I, J_J, Nat.add_left_cancel_iff, Nat.reduceEqDiff, Nat.add_eq_left, Nat.left_eq_add, false_and, and_false, Nat.reduceSub, Nat.sub_self, Nat.le_refl, Nat.zero_le, ge_iff_le, Nat.reduceAdd, Nat.reduceLeDiff, Nat.zero_add, Nat.reduceLT, z_lt, z_le, z_eq, z_l0, z_g0, z_le0, z_ge0, z_e0, z_e1, z_vp, z_nc, z_rem, z_div, i_ltT, i_ltF, i_leT, i_leF, i_eqT, i_eqF, n_ltT, n_ltF, n_leT, n_leF, n_eqT, n_eqF, tn_9, tn_12, tn_14, tn_20, tn_28, tn_44, tn_52, tn_68, tn_84, tn_100, tn_116, tn_132, fu_e, up_eq, ob_0, ob_b, oi_add, oi_sub, oi_mul, oi_neg, Int.add_zero, Int.zero_add, or_true, true_or, or_false, false_or, and_self, z_i2l, z_l2i, lo_nat, lo_add, lo_sub, lo_mul, lo_0, e_rem, mh_J8_newLength_cabcc]
  refine c_max ⟨by omega, by omega⟩ ⟨by omega, by omega⟩ ?_
  generalize hm : (if z ≤ y then y else z) = m at hq ⊢
  have hmb : 0 < m ∧ m ≤ 100000 := by rw [← hm]; split <;> omega
  simp (disch := omega) only [wp_c, wp_n, jj_n, v_ct, Int.reduceToNat, Int.toNat_natCast, stE, wlE, lgt, lpu, lpw, v_c2, va_s, true_and, and_true, Option.toList, List.nil_append, List.cons_append, List.take, List.drop, List.reverse, List.reverseAux, List.length_cons, List.length_nil, reduceCtorEq, false_implies, true_implies, forall_const, not_true_eq_false, not_false_eq_true, ite_true, ite_false, Bool.false_eq_true, I_I, J_J, Nat.add_left_cancel_iff, Nat.reduceEqDiff, Nat.add_eq_left, Nat.left_eq_add, false_and, and_false, Nat.reduceSub, Nat.sub_self, Nat.le_refl, Nat.zero_le, ge_iff_le, Nat.reduceAdd, Nat.reduceLeDiff, Nat.zero_add, Nat.reduceLT, z_lt, z_le, z_eq, z_l0, z_g0, z_le0, z_ge0, z_e0, z_e1, z_vp, z_nc, z_rem, z_div, i_ltT, i_ltF, i_leT, i_leF, i_eqT, i_eqF, n_ltT, n_ltF, n_leT, n_leF, n_eqT, n_eqF, tn_9, tn_12, tn_14, tn_20, tn_28, tn_44, tn_52, tn_68, tn_84, tn_100, tn_116, tn_132, fu_e, up_eq, ob_0, ob_b, oi_add, oi_sub, oi_mul, oi_neg, Int.add_zero, Int.zero_add, or_true, true_or, or_false, false_or, and_self, z_i2l, z_l2i, lo_nat, lo_add, lo_sub, lo_mul, lo_0, e_rem, oi_nat, mr_J8_newLength_cabcc]
  exact hq
theorem c_newCap {b a p n : Nat} {l : List Int} {m : Int} {w : mW} {Q : mW → mO → Prop} (h : SBu w b a p l) (hn : w_sh w p = (3, n)) (hn2 : n ≤ 1000) (hm : (n : Int) < m ∧ m ≤ 400) (hq : ∀ k : Nat, m ≤ k → k ≤ 1000 → Q w (.inl (some (.int (Int32.ofInt k))))) : CT n_J5_newCapacity_0f7a4 [.ref a, .int (Int32.ofInt m)] w Q := by
  obtain ⟨⟨s1, s2, s3⟩, ⟨r1, r2, r3⟩, ⟨v1, v3⟩, -, hl, -⟩ := h
  refine ct_J5_newCapacity_0f7a4 (rt_J5_newCapacity_0f7a4_0 ?_)
  simp (disch := omega) only [wp_c, wp_n, jj_n, v_ct, Int.reduceToNat, Int.toNat_natCast, stE, wlE, lgt, lpu, lpw, v_c2, va_s, true_and, and_true, Option.toList, List.nil_append, List.cons_append, List.take, List.drop, List.reverse, List.reverseAux, List.length_cons, List.length_nil, reduceCtorEq, false_implies, true_implies, forall_const, not_true_eq_false, not_false_eq_true, ite_true, ite_false, Bool.false_eq_true, I_I, J_J, Nat.add_left_cancel_iff, Nat.reduceEqDiff, Nat.add_eq_left, Nat.left_eq_add, false_and, and_false, Nat.reduceSub, Nat.sub_self, Nat.le_refl, Nat.zero_le, ge_iff_le, Nat.reduceAdd, Nat.reduceLeDiff, Nat.zero_add, Nat.reduceLT, z_lt, z_le, z_eq, z_l0, z_g0, z_le0, z_ge0, z_e0, z_e1, z_vp, z_nc, z_rem, z_div, i_ltT, i_ltF, i_leT, i_leF, i_eqT, i_eqF, n_ltT, n_ltF, n_leT, n_leF, n_eqT, n_eqF, tn_9, tn_12, tn_14, tn_20, tn_28, tn_44, tn_52, tn_68, tn_84, tn_100, tn_116, tn_132, fu_e, up_eq, ob_0, ob_b, oi_add, oi_sub, oi_mul, oi_neg, Int.add_zero, Int.zero_add, or_true, true_or, or_false, false_or, and_self, z_i2l, z_l2i, lo_nat, lo_add, lo_sub, lo_mul, lo_0, e_rem, s1, r1, hn, v1, sl0, oi_nat, mh_J5_newCapacity_0f7a4]
  have e2 : Int32.ofInt 2 <<< (Int32.ofInt 0 &&& 31) = Int32.ofInt 2 := sl0 _
  try simp (disch := omega) only [wp_c, wp_n, jj_n, v_ct, Int.reduceToNat, Int.toNat_natCast, stE, wlE, lgt, lpu, lpw, v_c2, va_s, true_and, and_true, Option.toList, List.nil_append, List.cons_append, List.take, List.drop, List.reverse, List.reverseAux, List.length_cons, List.length_nil, reduceCtorEq, false_implies, true_implies, forall_const, not_true_eq_false, not_false_eq_true, ite_true, ite_false, Bool.false_eq_true, I_I, J_J, Nat.add_left_cancel_iff, Nat.reduceEqDiff, Nat.add_eq_left, Nat.left_eq_add, false_and, and_false, Nat.reduceSub, Nat.sub_self, Nat.le_refl, Nat.zero_le, ge_iff_le, Nat.reduceAdd, Nat.reduceLeDiff, Nat.zero_add, Nat.reduceLT, z_lt, z_le, z_eq, z_l0, z_g0, z_le0, z_ge0, z_e0, z_e1, z_vp, z_nc, z_rem, z_div, i_ltT, i_ltF, i_leT, i_leF, i_eqT, i_eqF, n_ltT, n_ltF, n_leT, n_leF, n_eqT, n_eqF, tn_9, tn_12, tn_14, tn_20, tn_28, tn_44, tn_52, tn_68, tn_84, tn_100, tn_116, tn_132, fu_e, up_eq, ob_0, ob_b, oi_add, oi_sub, oi_mul, oi_neg, Int.add_zero, Int.zero_add, or_true, true_or, or_false, false_or, and_self, z_i2l, z_l2i, lo_nat, lo_add, lo_sub, lo_mul, lo_0, e_rem, e2]
  refine c_newLen ⟨by omega, by omega⟩ ⟨by omega, by omega⟩ ⟨by omega, by omega⟩ ?_
  generalize hk : (n : Int) + (if (n : Int) + 2 ≤ m - n then m - n else (n : Int) + 2) = k
  have hkb : m ≤ k ∧ k ≤ 1000 := by rw [← hk]; split <;> omega
  obtain ⟨k', rfl⟩ : ∃ k' : Nat, k = k' := ⟨k.toNat, by omega⟩
  simp (disch := omega) only [wp_c, wp_n, jj_n, v_ct, Int.reduceToNat, Int.toNat_natCast, stE, wlE, lgt, lpu, lpw, v_c2, va_s, true_and, and_true, Option.toList, List.nil_append, List.cons_append, List.take, List.drop, List.reverse, List.reverseAux, List.length_cons, List.length_nil, reduceCtorEq, false_implies, true_implies, forall_const, not_true_eq_false, not_false_eq_true, ite_true, ite_false, Bool.false_eq_true, I_I, J_J, Nat.add_left_cancel_iff, Nat.reduceEqDiff, Nat.add_eq_left, Nat.left_eq_add, false_and, and_false, Nat.reduceSub, Nat.sub_self, Nat.le_refl, Nat.zero_le, ge_iff_le, Nat.reduceAdd, Nat.reduceLeDiff, Nat.zero_add, Nat.reduceLT, z_lt, z_le, z_eq, z_l0, z_g0, z_le0, z_ge0, z_e0, z_e1, z_vp, z_nc, z_rem, z_div, i_ltT, i_ltF, i_leT, i_leF, i_eqT, i_eqF, n_ltT, n_ltF, n_leT, n_leF, n_eqT, n_eqF, tn_9, tn_12, tn_14, tn_20, tn_28, tn_44, tn_52, tn_68, tn_84, tn_100, tn_116, tn_132, fu_e, up_eq, ob_0, ob_b, oi_add, oi_sub, oi_mul, oi_neg, Int.add_zero, Int.zero_add, or_true, true_or, or_false, false_or, and_self, z_i2l, z_l2i, lo_nat, lo_add, lo_sub, lo_mul, lo_0, e_rem, s1]
  refine rt_J5_newCapacity_0f7a4_51 ?_
  simp (disch := omega) only [wp_c, wp_n, jj_n, v_ct, Int.reduceToNat, Int.toNat_natCast, stE, wlE, lgt, lpu, lpw, v_c2, va_s, true_and, and_true, Option.toList, List.nil_append, List.cons_append, List.take, List.drop, List.reverse, List.reverseAux, List.length_cons, List.length_nil, reduceCtorEq, false_implies, true_implies, forall_const, not_true_eq_false, not_false_eq_true, ite_true, ite_false, Bool.false_eq_true, I_I, J_J, Nat.add_left_cancel_iff, Nat.reduceEqDiff, Nat.add_eq_left, Nat.left_eq_add, false_and, and_false, Nat.reduceSub, Nat.sub_self, Nat.le_refl, Nat.zero_le, ge_iff_le, Nat.reduceAdd, Nat.reduceLeDiff, Nat.zero_add, Nat.reduceLT, z_lt, z_le, z_eq, z_l0, z_g0, z_le0, z_ge0, z_e0, z_e1, z_vp, z_nc, z_rem, z_div, i_ltT, i_ltF, i_leT, i_leF, i_eqT, i_eqF, n_ltT, n_ltF, n_leT, n_leF, n_eqT, n_eqF, tn_9, tn_12, tn_14, tn_20, tn_28, tn_44, tn_52, tn_68, tn_84, tn_100, tn_116, tn_132, fu_e, up_eq, ob_0, ob_b, oi_add, oi_sub, oi_mul, oi_neg, Int.add_zero, Int.zero_add, or_true, true_or, or_false, false_or, and_self, z_i2l, z_l2i, lo_nat, lo_add, lo_sub, lo_mul, lo_0, e_rem, s1, v1, sr0, mr_J5_newCapacity_0f7a4]
  exact hq k' hkb.1 (by omega)
theorem fit_b {x : Int} (h : 0 ≤ x ∧ x ≤ 127) : fits .byte (.int (Int32.ofInt x)) = true := by
  have e1 : (-128 : Int32) = Int32.ofInt (-128) := by decide
  have e2 : (127 : Int32) = Int32.ofInt 127 := by decide
  have h1 : (-128 : Int32) ≤ Int32.ofInt x := by rw [e1]; exact (oi_le ⟨by omega, by omega⟩ ⟨by omega, by omega⟩).mpr (by omega)
  have h2 : Int32.ofInt x ≤ (127 : Int32) := by rw [e2]; exact (oi_le ⟨by omega, by omega⟩ ⟨by omega, by omega⟩).mpr (by omega)
  simp only [fits, Bool.and_eq_true, decide_eq_true_eq]
  exact ⟨h1, h2⟩
theorem cpy_g (f g : Nat → Int32) (sp dp n j : Nat) : va_cpy f g sp dp n j = if dp ≤ j ∧ j < dp + n then f (sp + (j - dp)) else g j := by
  simp only [va_cpy]
theorem c_copyOf {p n k : Nat} {w : mW} {Q : mW → mO → Prop} (hs : w_sh w p = (3, n)) (h1 : 100 ≤ p ∧ p < 100 + w_n w) (hk : n < k ∧ k ≤ 1000) (hf : ∀ i, fits .byte (.int (w_I w p i)) = true)
  (hq : ∀ q, w_n w ≤ q → Q (s_A (s_N (s_K w q) (3, k)) (100 + q) (va_cpy (w_I w p) (fun _ => 0) 0 0 n)) (.inl (some (.ref (100 + q))))) : CT n_J7_copyOf_9075b [.ref p, .int (Int32.ofInt k)] w Q := by
  have hc : (Int32.ofInt (k : Int)).toNatClampNeg = k := by rw [oi_nc ⟨by omega, by omega⟩]; omega
  have hcn : (Int32.ofInt (n : Int)).toNatClampNeg = n := by rw [oi_nc ⟨by omega, by omega⟩]; omega
  have hc0 : (Int32.ofInt 0).toNatClampNeg = 0 := by decide
  refine ct_J7_copyOf_9075b (rt_J7_copyOf_9075b_0 ?_)
  simp (disch := omega) only [wp_c, wp_n, jj_n, v_ct, Int.reduceToNat, Int.toNat_natCast, stE, wlE, lgt, lpu, lpw, v_c2, va_s, true_and, and_true, Option.toList, List.nil_append, List.cons_append, List.take, List.drop, List.reverse, List.reverseAux, List.length_cons, List.length_nil, reduceCtorEq, false_implies, true_implies, forall_const, not_true_eq_false, not_false_eq_true, ite_true, ite_false, Bool.false_eq_true, I_I, J_J, Nat.add_left_cancel_iff, Nat.reduceEqDiff, Nat.add_eq_left, Nat.left_eq_add, false_and, and_false, Nat.reduceSub, Nat.sub_self, Nat.le_refl, Nat.zero_le, ge_iff_le, Nat.reduceAdd, Nat.reduceLeDiff, Nat.zero_add, Nat.reduceLT, z_lt, z_le, z_eq, z_l0, z_g0, z_le0, z_ge0, z_e0, z_e1, z_vp, z_nc, z_rem, z_div, i_ltT, i_ltF, i_leT, i_leF, i_eqT, i_eqF, n_ltT, n_ltF, n_leT, n_leF, n_eqT, n_eqF, tn_9, tn_12, tn_14, tn_20, tn_28, tn_44, tn_52, tn_68, tn_84, tn_100, tn_116, tn_132, fu_e, up_eq, ob_0, ob_b, oi_add, oi_sub, oi_mul, oi_neg, Int.add_zero, Int.zero_add, or_true, true_or, or_false, false_or, and_self, z_i2l, z_l2i, lo_nat, lo_add, lo_sub, lo_mul, lo_0, e_rem, hs, oi_nat]
  refine rt_J7_copyOf_9075b_14 ?_
  simp (disch := omega) only [wp_c, wp_n, jj_n, v_ct, Int.reduceToNat, Int.toNat_natCast, stE, wlE, lgt, lpu, lpw, v_c2, va_s, true_and, and_true, Option.toList, List.nil_append, List.cons_append, List.take, List.drop, List.reverse, List.reverseAux, List.length_cons, List.length_nil, reduceCtorEq, false_implies, true_implies, forall_const, not_true_eq_false, not_false_eq_true, ite_true, ite_false, Bool.false_eq_true, I_I, J_J, Nat.add_left_cancel_iff, Nat.reduceEqDiff, Nat.add_eq_left, Nat.left_eq_add, false_and, and_false, Nat.reduceSub, Nat.sub_self, Nat.le_refl, Nat.zero_le, ge_iff_le, Nat.reduceAdd, Nat.reduceLeDiff, Nat.zero_add, Nat.reduceLT, z_lt, z_le, z_eq, z_l0, z_g0, z_le0, z_ge0, z_e0, z_e1, z_vp, z_nc, z_rem, z_div, i_ltT, i_ltF, i_leT, i_leF, i_eqT, i_eqF, n_ltT, n_ltF, n_leT, n_leF, n_eqT, n_eqF, tn_9, tn_12, tn_14, tn_20, tn_28, tn_44, tn_52, tn_68, tn_84, tn_100, tn_116, tn_132, fu_e, up_eq, ob_0, ob_b, oi_add, oi_sub, oi_mul, oi_neg, Int.add_zero, Int.zero_add, or_true, true_or, or_false, false_or, and_self, z_i2l, z_l2i, lo_nat, lo_add, lo_sub, lo_mul, lo_0, e_rem, hs, hc, mh_J7_copyOf_9075b]
  intro q hq0
  have np : ¬ p = 100 + q := by omega
  simp (disch := omega) only [wp_c, wp_n, jj_n, v_ct, Int.reduceToNat, Int.toNat_natCast, stE, wlE, lgt, lpu, lpw, v_c2, va_s, true_and, and_true, Option.toList, List.nil_append, List.cons_append, List.take, List.drop, List.reverse, List.reverseAux, List.length_cons, List.length_nil, reduceCtorEq, false_implies, true_implies, forall_const, not_true_eq_false, not_false_eq_true, ite_true, ite_false, Bool.false_eq_true, I_I, J_J, Nat.add_left_cancel_iff, Nat.reduceEqDiff, Nat.add_eq_left, Nat.left_eq_add, false_and, and_false, Nat.reduceSub, Nat.sub_self, Nat.le_refl, Nat.zero_le, ge_iff_le, Nat.reduceAdd, Nat.reduceLeDiff, Nat.zero_add, Nat.reduceLT, z_lt, z_le, z_eq, z_l0, z_g0, z_le0, z_ge0, z_e0, z_e1, z_vp, z_nc, z_rem, z_div, i_ltT, i_ltF, i_leT, i_leF, i_eqT, i_eqF, n_ltT, n_ltF, n_leT, n_leF, n_eqT, n_eqF, tn_9, tn_12, tn_14, tn_20, tn_28, tn_44, tn_52, tn_68, tn_84, tn_100, tn_116, tn_132, fu_e, up_eq, ob_0, ob_b, oi_add, oi_sub, oi_mul, oi_neg, Int.add_zero, Int.zero_add, or_true, true_or, or_false, false_or, and_self, z_i2l, z_l2i, lo_nat, lo_add, lo_sub, lo_mul, lo_0, e_rem, NK_sh, NK_shn np, hs, oi_nat, mh_J7_copyOf_9075b]
  refine c_min ⟨by omega, by omega⟩ ⟨by omega, by omega⟩ ?_
  have em : (if (n : Int) ≤ (k : Int) then (n : Int) else (k : Int)) = n := if_pos (by omega)
  have eI : w_I (s_N (s_K w q) (3, k)) p = w_I w p := by rw [N_Ic, K_n, if_neg np, K_I]
  have eQ : w_I (s_N (s_K w q) (3, k)) (100 + q) = fun _ => 0 := by rw [N_Ic, K_n, if_pos rfl]
  have l1 : Nat.lt p 100 = False := eq_false (by show ¬ p < 100; omega)
  have l2 : Nat.le 100 p = True := eq_true h1.1
  simp (disch := omega) only [wp_c, wp_n, jj_n, v_ct, Int.reduceToNat, Int.toNat_natCast, stE, wlE, lgt, lpu, lpw, v_c2, va_s, true_and, and_true, Option.toList, List.nil_append, List.cons_append, List.take, List.drop, List.reverse, List.reverseAux, List.length_cons, List.length_nil, reduceCtorEq, false_implies, true_implies, forall_const, not_true_eq_false, not_false_eq_true, ite_true, ite_false, Bool.false_eq_true, I_I, J_J, Nat.add_left_cancel_iff, Nat.reduceEqDiff, Nat.add_eq_left, Nat.left_eq_add, false_and, and_false, Nat.reduceSub, Nat.sub_self, Nat.le_refl, Nat.zero_le, ge_iff_le, Nat.reduceAdd, Nat.reduceLeDiff, Nat.zero_add, Nat.reduceLT, z_lt, z_le, z_eq, z_l0, z_g0, z_le0, z_ge0, z_e0, z_e1, z_vp, z_nc, z_rem, z_div, i_ltT, i_ltF, i_leT, i_leF, i_eqT, i_eqF, n_ltT, n_ltF, n_leT, n_leF, n_eqT, n_eqF, tn_9, tn_12, tn_14, tn_20, tn_28, tn_44, tn_52, tn_68, tn_84, tn_100, tn_116, tn_132, fu_e, up_eq, ob_0, ob_b, oi_add, oi_sub, oi_mul, oi_neg, Int.add_zero, Int.zero_add, or_true, true_or, or_false, false_or, and_self, z_i2l, z_l2i, lo_nat, lo_add, lo_sub, lo_mul, lo_0, e_rem, em, NK_sh, NK_shn np, hs, hcn, hc0, eI, eQ, l1, l2, mr_J7_copyOf_9075b]
  exact ⟨fun i hi => hf i, hq q hq0⟩
theorem c_ensure {b a p : Nat} {l : List Int} {m : Int} {w : mW} {Q : mW → mO → Prop} (h : SBu w b a p l) (hb : 100 ≤ b) (hm : (l.length : Int) ≤ m ∧ m ≤ 400) (hq : ∀ w' p' n', SBu w' b a p' l → FB b w w' → w_sh w' p' = (3, n') → m ≤ (n' : Int) → n' ≤ 1000 → Q w' (.inl none)) : CT n_J5_ensureCapacityInternal_d00df [.ref a, .int (Int32.ofInt m)] w Q := by
  have h0 := h
  obtain ⟨⟨s1, s2, s3⟩, ⟨r1, r2, r3⟩, ⟨v1, v3⟩, ⟨n, hn, hn1, hn2⟩, hl, hc, hf⟩ := h
  have hap : ¬ a = p := sh_ne s1 hn
  refine ct_J5_ensureCapacityInternal_d00df (rt_J5_ensureCapacityInternal_d00df_0 ?_)
  simp (disch := omega) only [wp_c, wp_n, jj_n, v_ct, Int.reduceToNat, Int.toNat_natCast, stE, wlE, lgt, lpu, lpw, v_c2, va_s, true_and, and_true, Option.toList, List.nil_append, List.cons_append, List.take, List.drop, List.reverse, List.reverseAux, List.length_cons, List.length_nil, reduceCtorEq, false_implies, true_implies, forall_const, not_true_eq_false, not_false_eq_true, ite_true, ite_false, Bool.false_eq_true, I_I, J_J, Nat.add_left_cancel_iff, Nat.reduceEqDiff, Nat.add_eq_left, Nat.left_eq_add, false_and, and_false, Nat.reduceSub, Nat.sub_self, Nat.le_refl, Nat.zero_le, ge_iff_le, Nat.reduceAdd, Nat.reduceLeDiff, Nat.zero_add, Nat.reduceLT, z_lt, z_le, z_eq, z_l0, z_g0, z_le0, z_ge0, z_e0, z_e1, z_vp, z_nc, z_rem, z_div, i_ltT, i_ltF, i_leT, i_leF, i_eqT, i_eqF, n_ltT, n_ltF, n_leT, n_leF, n_eqT, n_eqF, tn_9, tn_12, tn_14, tn_20, tn_28, tn_44, tn_52, tn_68, tn_84, tn_100, tn_116, tn_132, fu_e, up_eq, ob_0, ob_b, oi_add, oi_sub, oi_mul, oi_neg, Int.add_zero, Int.zero_add, or_true, true_or, or_false, false_or, and_self, z_i2l, z_l2i, lo_nat, lo_add, lo_sub, lo_mul, lo_0, e_rem, s1, r1, hn, v1, sr0, oi_nat, mh_J5_ensureCapacityInternal_d00df]
  by_cases hg : (n : Int) < m
  · simp (disch := omega) only [wp_c, wp_n, jj_n, v_ct, Int.reduceToNat, Int.toNat_natCast, stE, wlE, lgt, lpu, lpw, v_c2, va_s, true_and, and_true, Option.toList, List.nil_append, List.cons_append, List.take, List.drop, List.reverse, List.reverseAux, List.length_cons, List.length_nil, reduceCtorEq, false_implies, true_implies, forall_const, not_true_eq_false, not_false_eq_true, ite_true, ite_false, Bool.false_eq_true, I_I, J_J, Nat.add_left_cancel_iff, Nat.reduceEqDiff, Nat.add_eq_left, Nat.left_eq_add, false_and, and_false, Nat.reduceSub, Nat.sub_self, Nat.le_refl, Nat.zero_le, ge_iff_le, Nat.reduceAdd, Nat.reduceLeDiff, Nat.zero_add, Nat.reduceLT, z_lt, z_le, z_eq, z_l0, z_g0, z_le0, z_ge0, z_e0, z_e1, z_vp, z_nc, z_rem, z_div, i_ltT, i_ltF, i_leT, i_leF, i_eqT, i_eqF, n_ltT, n_ltF, n_leT, n_leF, n_eqT, n_eqF, tn_9, tn_12, tn_14, tn_20, tn_28, tn_44, tn_52, tn_68, tn_84, tn_100, tn_116, tn_132, fu_e, up_eq, ob_0, ob_b, oi_add, oi_sub, oi_mul, oi_neg, Int.add_zero, Int.zero_add, or_true, true_or, or_false, false_or, and_self, z_i2l, z_l2i, lo_nat, lo_add, lo_sub, lo_mul, lo_0, e_rem]
    refine c_newCap h0 hn hn2 ⟨hg, hm.2⟩ ?_
    intro k hk hk2
    simp (disch := omega) only [wp_c, wp_n, jj_n, v_ct, Int.reduceToNat, Int.toNat_natCast, stE, wlE, lgt, lpu, lpw, v_c2, va_s, true_and, and_true, Option.toList, List.nil_append, List.cons_append, List.take, List.drop, List.reverse, List.reverseAux, List.length_cons, List.length_nil, reduceCtorEq, false_implies, true_implies, forall_const, not_true_eq_false, not_false_eq_true, ite_true, ite_false, Bool.false_eq_true, I_I, J_J, Nat.add_left_cancel_iff, Nat.reduceEqDiff, Nat.add_eq_left, Nat.left_eq_add, false_and, and_false, Nat.reduceSub, Nat.sub_self, Nat.le_refl, Nat.zero_le, ge_iff_le, Nat.reduceAdd, Nat.reduceLeDiff, Nat.zero_add, Nat.reduceLT, z_lt, z_le, z_eq, z_l0, z_g0, z_le0, z_ge0, z_e0, z_e1, z_vp, z_nc, z_rem, z_div, i_ltT, i_ltF, i_leT, i_leF, i_eqT, i_eqF, n_ltT, n_ltF, n_leT, n_leF, n_eqT, n_eqF, tn_9, tn_12, tn_14, tn_20, tn_28, tn_44, tn_52, tn_68, tn_84, tn_100, tn_116, tn_132, fu_e, up_eq, ob_0, ob_b, oi_add, oi_sub, oi_mul, oi_neg, Int.add_zero, Int.zero_add, or_true, true_or, or_false, false_or, and_self, z_i2l, z_l2i, lo_nat, lo_add, lo_sub, lo_mul, lo_0, e_rem, s1, v1, sl0, r1, mh_J5_ensureCapacityInternal_d00df]
    refine c_copyOf hn ⟨by omega, r3⟩ ⟨by omega, hk2⟩ hf ?_
    intro q hq0
    have na : ¬ a = 100 + q := by omega
    simp (disch := omega) only [wp_c, wp_n, jj_n, v_ct, Int.reduceToNat, Int.toNat_natCast, stE, wlE, lgt, lpu, lpw, v_c2, va_s, true_and, and_true, Option.toList, List.nil_append, List.cons_append, List.take, List.drop, List.reverse, List.reverseAux, List.length_cons, List.length_nil, reduceCtorEq, false_implies, true_implies, forall_const, not_true_eq_false, not_false_eq_true, ite_true, ite_false, Bool.false_eq_true, I_I, J_J, Nat.add_left_cancel_iff, Nat.reduceEqDiff, Nat.add_eq_left, Nat.left_eq_add, false_and, and_false, Nat.reduceSub, Nat.sub_self, Nat.le_refl, Nat.zero_le, ge_iff_le, Nat.reduceAdd, Nat.reduceLeDiff, Nat.zero_add, Nat.reduceLT, z_lt, z_le, z_eq, z_l0, z_g0, z_le0, z_ge0, z_e0, z_e1, z_vp, z_nc, z_rem, z_div, i_ltT, i_ltF, i_leT, i_leF, i_eqT, i_eqF, n_ltT, n_ltF, n_leT, n_leF, n_eqT, n_eqF, tn_9, tn_12, tn_14, tn_20, tn_28, tn_44, tn_52, tn_68, tn_84, tn_100, tn_116, tn_132, fu_e, up_eq, ob_0, ob_b, oi_add, oi_sub, oi_mul, oi_neg, Int.add_zero, Int.zero_add, or_true, true_or, or_false, false_or, and_self, z_i2l, z_l2i, lo_nat, lo_add, lo_sub, lo_mul, lo_0, e_rem, A_sh, NK_shn na, s1]
    refine rt_J5_ensureCapacityInternal_d00df_38 ?_
    simp only [wp_c, wp_n, jj_n, v_ct, Int.reduceToNat, Int.toNat_natCast, stE, wlE, lgt, lpu, lpw, v_c2, va_s, true_and, and_true, Option.toList, List.nil_append, List.cons_append, List.take, List.drop, List.reverse, List.reverseAux, List.length_cons, List.length_nil, reduceCtorEq, false_implies, true_implies, forall_const, not_true_eq_false, not_false_eq_true, ite_true, ite_false, Bool.false_eq_true, I_I, J_J, Nat.add_left_cancel_iff, Nat.reduceEqDiff, Nat.add_eq_left, Nat.left_eq_add, false_and, and_false, Nat.reduceSub, Nat.sub_self, Nat.le_refl, Nat.zero_le, ge_iff_le, Nat.reduceAdd, Nat.reduceLeDiff, Nat.zero_add, Nat.reduceLT, z_lt, z_le, z_eq, z_l0, z_g0, z_le0, z_ge0, z_e0, z_e1, z_vp, z_nc, z_rem, z_div, i_ltT, i_ltF, i_leT, i_leF, i_eqT, i_eqF, n_ltT, n_ltF, n_leT, n_leF, n_eqT, n_eqF, tn_9, tn_12, tn_14, tn_20, tn_28, tn_44, tn_52, tn_68, tn_84, tn_100, tn_116, tn_132, fu_e, up_eq, ob_0, ob_b, oi_add, oi_sub, oi_mul, oi_neg, Int.add_zero, Int.zero_add, or_true, true_or, or_false, false_or, and_self, z_i2l, z_l2i, lo_nat, lo_add, lo_sub, lo_mul, lo_0, e_rem]
    have hnn : w_n (s_R (s_A (s_N (s_K w q) (3, k)) (100 + q) (va_cpy (w_I w p) (fun _ => 0) 0 0 n)) a 0 (some (100 + q))) = q + 1 := rfl
    have nqa : ¬ 100 + q = a := by omega
    refine hq _ (100 + q) k ⟨⟨?_, s2, by omega⟩, ⟨?_, by omega, by omega⟩, ⟨?_, ?_⟩, ⟨k, ?_, by omega, hk2⟩, hl, fun i hi => ?_, fun i => ?_⟩ ((((FB.refl _ _).N hq0 (by omega)).A (UC.new (by omega) (by omega))).R ⟨s2, Or.inl fun z => z.1 s1⟩) ?_ hk hk2
    · rw [R_sh, A_sh, NK_shn na]; exact s1
    · rw [R_R, if_pos ⟨rfl, rfl⟩]
    · rw [R_Ic, A_I, if_neg na, N_Ic, K_n, if_neg na, K_I]; exact v1
    · rw [R_Ic, A_I, if_neg na, N_Ic, K_n, if_neg na, K_I]; exact v3
    · rw [R_sh, A_sh, NK_sh]
    · rw [R_Ic, A_I, if_pos rfl, cpy_g, if_pos (by omega), Nat.zero_add, Nat.sub_zero]; exact hc i hi
    · rw [R_Ic, A_I, if_pos rfl, cpy_g]
      split
      · exact hf _
      · decide
    · rw [R_sh, A_sh, NK_sh]
  · simp (disch := omega) only [wp_c, wp_n, jj_n, v_ct, Int.reduceToNat, Int.toNat_natCast, stE, wlE, lgt, lpu, lpw, v_c2, va_s, true_and, and_true, Option.toList, List.nil_append, List.cons_append, List.take, List.drop, List.reverse, List.reverseAux, List.length_cons, List.length_nil, reduceCtorEq, false_implies, true_implies, forall_const, not_true_eq_false, not_false_eq_true, ite_true, ite_false, Bool.false_eq_true, I_I, J_J, Nat.add_left_cancel_iff, Nat.reduceEqDiff, Nat.add_eq_left, Nat.left_eq_add, false_and, and_false, Nat.reduceSub, Nat.sub_self, Nat.le_refl, Nat.zero_le, ge_iff_le, Nat.reduceAdd, Nat.reduceLeDiff, Nat.zero_add, Nat.reduceLT, z_lt, z_le, z_eq, z_l0, z_g0, z_le0, z_ge0, z_e0, z_e1, z_vp, z_nc, z_rem, z_div, i_ltT, i_ltF, i_leT, i_leF, i_eqT, i_eqF, n_ltT, n_ltF, n_leT, n_leF, n_eqT, n_eqF, tn_9, tn_12, tn_14, tn_20, tn_28, tn_44, tn_52, tn_68, tn_84, tn_100, tn_116, tn_132, fu_e, up_eq, ob_0, ob_b, oi_add, oi_sub, oi_mul, oi_neg, Int.add_zero, Int.zero_add, or_true, true_or, or_false, false_or, and_self, z_i2l, z_l2i, lo_nat, lo_add, lo_sub, lo_mul, lo_0, e_rem]
    refine rt_J5_ensureCapacityInternal_d00df_38 ?_
    simp only [wp_c, wp_n, jj_n, v_ct, Int.reduceToNat, Int.toNat_natCast, stE, wlE, lgt, lpu, lpw, v_c2, va_s, true_and, and_true, Option.toList, List.nil_append, List.cons_append, List.take, List.drop, List.reverse, List.reverseAux, List.length_cons, List.length_nil, reduceCtorEq, false_implies, true_implies, forall_const, not_true_eq_false, not_false_eq_true, ite_true, ite_false, Bool.false_eq_true, I_I, J_J, Nat.add_left_cancel_iff, Nat.reduceEqDiff, Nat.add_eq_left, Nat.left_eq_add, false_and, and_false, Nat.reduceSub, Nat.sub_self, Nat.le_refl, Nat.zero_le, ge_iff_le, Nat.reduceAdd, Nat.reduceLeDiff, Nat.zero_add, Nat.reduceLT, z_lt, z_le, z_eq, z_l0, z_g0, z_le0, z_ge0, z_e0, z_e1, z_vp, z_nc, z_rem, z_div, i_ltT, i_ltF, i_leT, i_leF, i_eqT, i_eqF, n_ltT, n_ltF, n_leT, n_leF, n_eqT, n_eqF, tn_9, tn_12, tn_14, tn_20, tn_28, tn_44, tn_52, tn_68, tn_84, tn_100, tn_116, tn_132, fu_e, up_eq, ob_0, ob_b, oi_add, oi_sub, oi_mul, oi_neg, Int.add_zero, Int.zero_add, or_true, true_or, or_false, false_or, and_self, z_i2l, z_l2i, lo_nat, lo_add, lo_sub, lo_mul, lo_0, e_rem]
    exact hq w p n h0 (FB.refl _ _) hn (by omega) hn2
theorem c_lat5 {b a p : Nat} {l : List Int} {w : mW} {Q : mW → mO → Prop} (h : SBu w b a p l) (hq : Q w (.inl (some (.int (Int32.ofInt 1))))) : CT n_J5_isLatin1_aae02 [.ref a] w Q := by
  obtain ⟨⟨s1, s2, s3⟩, ⟨r1, r2, r3⟩, ⟨v1, v3⟩, -⟩ := h
  refine ct_J5_isLatin1_aae02 (rt_J5_isLatin1_aae02_0 ?_)
  simp (disch := omega) only [wp_c, wp_n, jj_n, v_ct, Int.reduceToNat, Int.toNat_natCast, stE, wlE, lgt, lpu, lpw, v_c2, va_s, true_and, and_true, Option.toList, List.nil_append, List.cons_append, List.take, List.drop, List.reverse, List.reverseAux, List.length_cons, List.length_nil, reduceCtorEq, false_implies, true_implies, forall_const, not_true_eq_false, not_false_eq_true, ite_true, ite_false, Bool.false_eq_true, I_I, J_J, Nat.add_left_cancel_iff, Nat.reduceEqDiff, Nat.add_eq_left, Nat.left_eq_add, false_and, and_false, Nat.reduceSub, Nat.sub_self, Nat.le_refl, Nat.zero_le, ge_iff_le, Nat.reduceAdd, Nat.reduceLeDiff, Nat.zero_add, Nat.reduceLT, z_lt, z_le, z_eq, z_l0, z_g0, z_le0, z_ge0, z_e0, z_e1, z_vp, z_nc, z_rem, z_div, i_ltT, i_ltF, i_leT, i_leF, i_eqT, i_eqF, n_ltT, n_ltF, n_leT, n_leF, n_eqT, n_eqF, tn_9, tn_12, tn_14, tn_20, tn_28, tn_44, tn_52, tn_68, tn_84, tn_100, tn_116, tn_132, fu_e, up_eq, ob_0, ob_b, oi_add, oi_sub, oi_mul, oi_neg, Int.add_zero, Int.zero_add, or_true, true_or, or_false, false_or, and_self, z_i2l, z_l2i, lo_nat, lo_add, lo_sub, lo_mul, lo_0, e_rem, s1, v1, i10]
  refine rt_J5_isLatin1_aae02_18 ?_
  simp (disch := omega) only [wp_c, wp_n, jj_n, v_ct, Int.reduceToNat, Int.toNat_natCast, stE, wlE, lgt, lpu, lpw, v_c2, va_s, true_and, and_true, Option.toList, List.nil_append, List.cons_append, List.take, List.drop, List.reverse, List.reverseAux, List.length_cons, List.length_nil, reduceCtorEq, false_implies, true_implies, forall_const, not_true_eq_false, not_false_eq_true, ite_true, ite_false, Bool.false_eq_true, I_I, J_J, Nat.add_left_cancel_iff, Nat.reduceEqDiff, Nat.add_eq_left, Nat.left_eq_add, false_and, and_false, Nat.reduceSub, Nat.sub_self, Nat.le_refl, Nat.zero_le, ge_iff_le, Nat.reduceAdd, Nat.reduceLeDiff, Nat.zero_add, Nat.reduceLT, z_lt, z_le, z_eq, z_l0, z_g0, z_le0, z_ge0, z_e0, z_e1, z_vp, z_nc, z_rem, z_div, i_ltT, i_ltF, i_leT, i_leF, i_eqT, i_eqF, n_ltT, n_ltF, n_leT, n_leF, n_eqT, n_eqF, tn_9, tn_12, tn_14, tn_20, tn_28, tn_44, tn_52, tn_68, tn_84, tn_100, tn_116, tn_132, fu_e, up_eq, ob_0, ob_b, oi_add, oi_sub, oi_mul, oi_neg, Int.add_zero, Int.zero_add, or_true, true_or, or_false, false_or, and_self, z_i2l, z_l2i, lo_nat, lo_add, lo_sub, lo_mul, lo_0, e_rem, mr_J5_isLatin1_aae02]
  first | exact hq | exact ⟨Or.inr rfl, hq⟩
theorem gD_ap (l : List Int) (c : Int) (i : Nat) : (l ++ [c]).getD i 0 = if i < l.length then l.getD i 0 else if i = l.length then c else 0 := getD_ap l c i
/-- a sign is appended -/
theorem c_apc {b a p : Nat} {l : List Int} {c : Int} {w : mW} {Q : mW → mO → Prop} (h : SBu w b a p l) (hb : 100 ≤ b) (hc0 : 0 ≤ c ∧ c ≤ 127) (hl : l.length + 1 ≤ 400) (hq : ∀ w' p', SBu w' b a p' (l ++ [c]) → FB b w w' → Q w' (.inl (some (.ref a)))) : CT n_J5_append_3fe6f [.ref a, .int (Int32.ofInt c)] w Q := by
  have h0 := h
  obtain ⟨⟨s1, s2, s3⟩, ⟨r1, r2, r3⟩, ⟨v1, v3⟩, -, hl0, -⟩ := h
  refine ct_J5_append_3fe6f (rt_J5_append_3fe6f_0 ?_)
  simp (disch := omega) only [wp_c, wp_n, jj_n, v_ct, Int.reduceToNat, Int.toNat_natCast, stE, wlE, lgt, lpu, lpw, v_c2, va_s, true_and, and_true, Option.toList, List.nil_append, List.cons_append, List.take, List.drop, List.reverse, List.reverseAux, List.length_cons, List.length_nil, reduceCtorEq, false_implies, true_implies, forall_const, not_true_eq_false, not_false_eq_true, ite_true, ite_false, Bool.false_eq_true, I_I, J_J, Nat.add_left_cancel_iff, Nat.reduceEqDiff, Nat.add_eq_left, Nat.left_eq_add, false_and, and_false, Nat.reduceSub, Nat.sub_self, Nat.le_refl, Nat.zero_le, ge_iff_le, Nat.reduceAdd, Nat.reduceLeDiff, Nat.zero_add, Nat.reduceLT, z_lt, z_le, z_eq, z_l0, z_g0, z_le0, z_ge0, z_e0, z_e1, z_vp, z_nc, z_rem, z_div, i_ltT, i_ltF, i_leT, i_leF, i_eqT, i_eqF, n_ltT, n_ltF, n_leT, n_leF, n_eqT, n_eqF, tn_9, tn_12, tn_14, tn_20, tn_28, tn_44, tn_52, tn_68, tn_84, tn_100, tn_116, tn_132, fu_e, up_eq, ob_0, ob_b, oi_add, oi_sub, oi_mul, oi_neg, Int.add_zero, Int.zero_add, or_true, true_or, or_false, false_or, and_self, z_i2l, z_l2i, lo_nat, lo_add, lo_sub, lo_mul, lo_0, e_rem, s1, v3, mh_J5_append_3fe6f]
  refine c_ensure h0 hb ⟨by omega, by omega⟩ ?_
  intro w1 p1 n1 k1 f1 hn1 hm1 hk1
  simp (disch := omega) only [wp_c, wp_n, jj_n, v_ct, Int.reduceToNat, Int.toNat_natCast, stE, wlE, lgt, lpu, lpw, v_c2, va_s, true_and, and_true, Option.toList, List.nil_append, List.cons_append, List.take, List.drop, List.reverse, List.reverseAux, List.length_cons, List.length_nil, reduceCtorEq, false_implies, true_implies, forall_const, not_true_eq_false, not_false_eq_true, ite_true, ite_false, Bool.false_eq_true, I_I, J_J, Nat.add_left_cancel_iff, Nat.reduceEqDiff, Nat.add_eq_left, Nat.left_eq_add, false_and, and_false, Nat.reduceSub, Nat.sub_self, Nat.le_refl, Nat.zero_le, ge_iff_le, Nat.reduceAdd, Nat.reduceLeDiff, Nat.zero_add, Nat.reduceLT, z_lt, z_le, z_eq, z_l0, z_g0, z_le0, z_ge0, z_e0, z_e1, z_vp, z_nc, z_rem, z_div, i_ltT, i_ltF, i_leT, i_leF, i_eqT, i_eqF, n_ltT, n_ltF, n_leT, n_leF, n_eqT, n_eqF, tn_9, tn_12, tn_14, tn_20, tn_28, tn_44, tn_52, tn_68, tn_84, tn_100, tn_116, tn_132, fu_e, up_eq, ob_0, ob_b, oi_add, oi_sub, oi_mul, oi_neg, Int.add_zero, Int.zero_add, or_true, true_or, or_false, false_or, and_self, z_i2l, z_l2i, lo_nat, lo_add, lo_sub, lo_mul, lo_0, e_rem, k1.1.1, mh_J5_append_3fe6f]
  refine c_lat5 k1 ?_
  have hcan : ∀ (Q : mW → mO → Prop) (w : mW), Q w (.inl (some (.int (Int32.ofInt 1)))) → CT n_J1_canEncode_fc78d [.int (Int32.ofInt c)] w Q := by
    intro Q w hq
    refine ct_J1_canEncode_fc78d (rt_J1_canEncode_fc78d_0 ?_)
    simp (disch := omega) only [wp_c, wp_n, jj_n, v_ct, Int.reduceToNat, Int.toNat_natCast, stE, wlE, lgt, lpu, lpw, v_c2, va_s, true_and, and_true, Option.toList, List.nil_append, List.cons_append, List.take, List.drop, List.reverse, List.reverseAux, List.length_cons, List.length_nil, reduceCtorEq, false_implies, true_implies, forall_const, not_true_eq_false, not_false_eq_true, ite_true, ite_false, Bool.false_eq_true, I_I, J_J, Nat.add_left_cancel_iff, Nat.reduceEqDiff, Nat.add_eq_left, Nat.left_eq_add, false_and, and_false, Nat.reduceSub, Nat.sub_self, Nat.le_refl, Nat.zero_le, ge_iff_le, Nat.reduceAdd, Nat.reduceLeDiff, Nat.zero_add, Nat.reduceLT, z_lt, z_le, z_eq, z_l0, z_g0, z_le0, z_ge0, z_e0, z_e1, z_vp, z_nc, z_rem, z_div, i_ltT, i_ltF, i_leT, i_leF, i_eqT, i_eqF, n_ltT, n_ltF, n_leT, n_leF, n_eqT, n_eqF, tn_9, tn_12, tn_14, tn_20, tn_28, tn_44, tn_52, tn_68, tn_84, tn_100, tn_116, tn_132, fu_e, up_eq, ob_0, ob_b, oi_add, oi_sub, oi_mul, oi_neg, Int.add_zero, Int.zero_add, or_true, true_or, or_false, false_or, and_self, z_i2l, z_l2i, lo_nat, lo_add, lo_sub, lo_mul, lo_0, e_rem]
    refine rt_J1_canEncode_fc78d_12 ?_
    simp (disch := omega) only [wp_c, wp_n, jj_n, v_ct, Int.reduceToNat, Int.toNat_natCast, stE, wlE, lgt, lpu, lpw, v_c2, va_s, true_and, and_true, Option.toList, List.nil_append, List.cons_append, List.take, List.drop, List.reverse, List.reverseAux, List.length_cons, List.length_nil, reduceCtorEq, false_implies, true_implies, forall_const, not_true_eq_false, not_false_eq_true, ite_true, ite_false, Bool.false_eq_true, I_I, J_J, Nat.add_left_cancel_iff, Nat.reduceEqDiff, Nat.add_eq_left, Nat.left_eq_add, false_and, and_false, Nat.reduceSub, Nat.sub_self, Nat.le_refl, Nat.zero_le, ge_iff_le, Nat.reduceAdd, Nat.reduceLeDiff, Nat.zero_add, Nat.reduceLT, z_lt, z_le, z_eq, z_l0, z_g0, z_le0, z_ge0, z_e0, z_e1, z_vp, z_nc, z_rem, z_div, i_ltT, i_ltF, i_leT, i_leF, i_eqT, i_eqF, n_ltT, n_ltF, n_leT, n_leF, n_eqT, n_eqF, tn_9, tn_12, tn_14, tn_20, tn_28, tn_44, tn_52, tn_68, tn_84, tn_100, tn_116, tn_132, fu_e, up_eq, ob_0, ob_b, oi_add, oi_sub, oi_mul, oi_neg, Int.add_zero, Int.zero_add, or_true, true_or, or_false, false_or, and_self, z_i2l, z_l2i, lo_nat, lo_add, lo_sub, lo_mul, lo_0, e_rem, mr_J1_canEncode_fc78d]
    first | exact hq | exact ⟨Or.inr rfl, hq⟩
  simp (disch := omega) only [wp_c, wp_n, jj_n, v_ct, Int.reduceToNat, Int.toNat_natCast, stE, wlE, lgt, lpu, lpw, v_c2, va_s, true_and, and_true, Option.toList, List.nil_append, List.cons_append, List.take, List.drop, List.reverse, List.reverseAux, List.length_cons, List.length_nil, reduceCtorEq, false_implies, true_implies, forall_const, not_true_eq_false, not_false_eq_true, ite_true, ite_false, Bool.false_eq_true, I_I, J_J, Nat.add_left_cancel_iff, Nat.reduceEqDiff, Nat.add_eq_left, Nat.left_eq_add, false_and, and_false, Nat.reduceSub, Nat.sub_self, Nat.le_refl, Nat.zero_le, ge_iff_le, Nat.reduceAdd, Nat.reduceLeDiff, Nat.zero_add, Nat.reduceLT, z_lt, z_le, z_eq, z_l0, z_g0, z_le0, z_ge0, z_e0, z_e1, z_vp, z_nc, z_rem, z_div, i_ltT, i_ltF, i_leT, i_leF, i_eqT, i_eqF, n_ltT, n_ltF, n_leT, n_leF, n_eqT, n_eqF, tn_9, tn_12, tn_14, tn_20, tn_28, tn_44, tn_52, tn_68, tn_84, tn_100, tn_116, tn_132, fu_e, up_eq, ob_0, ob_b, oi_add, oi_sub, oi_mul, oi_neg, Int.add_zero, Int.zero_add, or_true, true_or, or_false, false_or, and_self, z_i2l, z_l2i, lo_nat, lo_add, lo_sub, lo_mul, lo_0, e_rem, mh_J5_append_3fe6f]
  refine hcan _ _ ?_
  obtain ⟨⟨t1, t2, t3⟩, ⟨u1, u2, u3⟩, ⟨x1, x3⟩, ⟨n, hn, hn2, hn3⟩, hl1, hc1, hf1⟩ := k1
  have hap : ¬ a = p1 := sh_ne t1 hn
  have hpa : ¬ p1 = a := fun e => hap e.symm
  have enn : n1 = n := by rw [hn] at hn1; exact (congrArg Prod.snd hn1).symm
  have hb8 : (Int32.ofInt c).toInt8.toInt32 = Int32.ofInt c := by
    have h128 : (Int32.ofInt c).toInt8 = Int8.ofInt c := Int32.toInt8_ofInt
    rw [h128, ← Int32.toInt_inj, Int8.toInt_toInt32, oi_to ⟨by omega, by omega⟩, Int8.toInt_ofInt_of_le (by omega) (by omega)]
  have hnar : vp_nar .byte (Int32.ofInt c) = Int32.ofInt c := hb8
  simp (disch := omega) only [wp_c, wp_n, jj_n, v_ct, Int.reduceToNat, Int.toNat_natCast, stE, wlE, lgt, lpu, lpw, v_c2, va_s, true_and, and_true, Option.toList, List.nil_append, List.cons_append, List.take, List.drop, List.reverse, List.reverseAux, List.length_cons, List.length_nil, reduceCtorEq, false_implies, true_implies, forall_const, not_true_eq_false, not_false_eq_true, ite_true, ite_false, Bool.false_eq_true, I_I, J_J, Nat.add_left_cancel_iff, Nat.reduceEqDiff, Nat.add_eq_left, Nat.left_eq_add, false_and, and_false, Nat.reduceSub, Nat.sub_self, Nat.le_refl, Nat.zero_le, ge_iff_le, Nat.reduceAdd, Nat.reduceLeDiff, Nat.zero_add, Nat.reduceLT, z_lt, z_le, z_eq, z_l0, z_g0, z_le0, z_ge0, z_e0, z_e1, z_vp, z_nc, z_rem, z_div, i_ltT, i_ltF, i_leT, i_leF, i_eqT, i_eqF, n_ltT, n_ltF, n_leT, n_leF, n_eqT, n_eqF, tn_9, tn_12, tn_14, tn_20, tn_28, tn_44, tn_52, tn_68, tn_84, tn_100, tn_116, tn_132, fu_e, up_eq, ob_0, ob_b, oi_add, oi_sub, oi_mul, oi_neg, Int.add_zero, Int.zero_add, or_true, true_or, or_false, false_or, and_self, z_i2l, z_l2i, lo_nat, lo_add, lo_sub, lo_mul, lo_0, e_rem, t1, u1, x3, hn, hap, hpa, hb8, hnar]
  refine rt_J5_append_3fe6f_75 ?_
  simp (disch := omega) only [wp_c, wp_n, jj_n, v_ct, Int.reduceToNat, Int.toNat_natCast, stE, wlE, lgt, lpu, lpw, v_c2, va_s, true_and, and_true, Option.toList, List.nil_append, List.cons_append, List.take, List.drop, List.reverse, List.reverseAux, List.length_cons, List.length_nil, reduceCtorEq, false_implies, true_implies, forall_const, not_true_eq_false, not_false_eq_true, ite_true, ite_false, Bool.false_eq_true, I_I, J_J, Nat.add_left_cancel_iff, Nat.reduceEqDiff, Nat.add_eq_left, Nat.left_eq_add, false_and, and_false, Nat.reduceSub, Nat.sub_self, Nat.le_refl, Nat.zero_le, ge_iff_le, Nat.reduceAdd, Nat.reduceLeDiff, Nat.zero_add, Nat.reduceLT, z_lt, z_le, z_eq, z_l0, z_g0, z_le0, z_ge0, z_e0, z_e1, z_vp, z_nc, z_rem, z_div, i_ltT, i_ltF, i_leT, i_leF, i_eqT, i_eqF, n_ltT, n_ltF, n_leT, n_leF, n_eqT, n_eqF, tn_9, tn_12, tn_14, tn_20, tn_28, tn_44, tn_52, tn_68, tn_84, tn_100, tn_116, tn_132, fu_e, up_eq, ob_0, ob_b, oi_add, oi_sub, oi_mul, oi_neg, Int.add_zero, Int.zero_add, or_true, true_or, or_false, false_or, and_self, z_i2l, z_l2i, lo_nat, lo_add, lo_sub, lo_mul, lo_0, e_rem, mr_J5_append_3fe6f]
  refine hq _ p1 ⟨⟨t1, t2, t3⟩, ⟨u1, u2, u3⟩, ⟨?_, ?_⟩, ⟨n, hn, by rw [List.length_append]; simp only [List.length_cons, List.length_nil]; omega, hn3⟩, by rw [List.length_append]; simp only [List.length_cons, List.length_nil]; omega, fun i hi => ?_, fun i => ?_⟩ (f1.trans (((FB.refl _ _).I ⟨t2, Or.inl fun z => z.1 t1⟩).I ⟨u2, Or.inl fun z => z.2 (by rw [hn])⟩))
  · rw [I_I, if_neg (fun q => hap q.1), I_I, if_neg (by omega)]; exact x1
  · rw [I_I, if_neg (fun q => hap q.1), I_I, if_pos ⟨rfl, rfl⟩, List.length_append]; rfl
  · rw [List.length_append] at hi
    simp only [List.length_cons, List.length_nil] at hi
    rw [I_I, gD_ap]
    by_cases q : i = l.length
    · rw [if_pos ⟨rfl, q⟩, if_neg (by omega), if_pos q]; exact ⟨rfl, hc0⟩
    · rw [if_neg (fun z => q z.2), I_I, if_neg (fun z => hpa z.1), if_pos (by omega)]; exact hc1 i (by omega)
  · rw [I_I]
    split
    · exact fit_b hc0
    · rw [I_I, if_neg (fun z => hpa z.1)]; exact hf1 i
theorem c_apC {b a p : Nat} {l : List Int} {c : Int} {w : mW} {Q : mW → mO → Prop} (h : SBu w b a p l) (hb : 100 ≤ b) (hc0 : 0 ≤ c ∧ c ≤ 127) (hl : l.length + 1 ≤ 400) (hq : ∀ w' p', SBu w' b a p' (l ++ [c]) → FB b w w' → Q w' (.inl (some (.ref a)))) : CT n_J4_append_cf468 [.ref a, .int (Int32.ofInt c)] w Q := by
  refine ct_J4_append_cf468 (rt_J4_append_cf468_0 ?_)
  simp (disch := omega) only [wp_c, wp_n, jj_n, v_ct, Int.reduceToNat, Int.toNat_natCast, stE, wlE, lgt, lpu, lpw, v_c2, va_s, true_and, and_true, Option.toList, List.nil_append, List.cons_append, List.take, List.drop, List.reverse, List.reverseAux, List.length_cons, List.length_nil, reduceCtorEq, false_implies, true_implies, forall_const, not_true_eq_false, not_false_eq_true, ite_true, ite_false, Bool.false_eq_true, I_I, J_J, Nat.add_left_cancel_iff, Nat.reduceEqDiff, Nat.add_eq_left, Nat.left_eq_add, false_and, and_false, Nat.reduceSub, Nat.sub_self, Nat.le_refl, Nat.zero_le, ge_iff_le, Nat.reduceAdd, Nat.reduceLeDiff, Nat.zero_add, Nat.reduceLT, z_lt, z_le, z_eq, z_l0, z_g0, z_le0, z_ge0, z_e0, z_e1, z_vp, z_nc, z_rem, z_div, i_ltT, i_ltF, i_leT, i_leF, i_eqT, i_eqF, n_ltT, n_ltF, n_leT, n_leF, n_eqT, n_eqF, tn_9, tn_12, tn_14, tn_20, tn_28, tn_44, tn_52, tn_68, tn_84, tn_100, tn_116, tn_132, fu_e, up_eq, ob_0, ob_b, oi_add, oi_sub, oi_mul, oi_neg, Int.add_zero, Int.zero_add, or_true, true_or, or_false, false_or, and_self, z_i2l, z_l2i, lo_nat, lo_add, lo_sub, lo_mul, lo_0, e_rem, h.1.1, mh_J4_append_cf468]
  refine c_apc h hb hc0 hl ?_
  intro w1 p1 k1 f1
  simp (disch := omega) only [wp_c, wp_n, jj_n, v_ct, Int.reduceToNat, Int.toNat_natCast, stE, wlE, lgt, lpu, lpw, v_c2, va_s, true_and, and_true, Option.toList, List.nil_append, List.cons_append, List.take, List.drop, List.reverse, List.reverseAux, List.length_cons, List.length_nil, reduceCtorEq, false_implies, true_implies, forall_const, not_true_eq_false, not_false_eq_true, ite_true, ite_false, Bool.false_eq_true, I_I, J_J, Nat.add_left_cancel_iff, Nat.reduceEqDiff, Nat.add_eq_left, Nat.left_eq_add, false_and, and_false, Nat.reduceSub, Nat.sub_self, Nat.le_refl, Nat.zero_le, ge_iff_le, Nat.reduceAdd, Nat.reduceLeDiff, Nat.zero_add, Nat.reduceLT, z_lt, z_le, z_eq, z_l0, z_g0, z_le0, z_ge0, z_e0, z_e1, z_vp, z_nc, z_rem, z_div, i_ltT, i_ltF, i_leT, i_leF, i_eqT, i_eqF, n_ltT, n_ltF, n_leT, n_leF, n_eqT, n_eqF, tn_9, tn_12, tn_14, tn_20, tn_28, tn_44, tn_52, tn_68, tn_84, tn_100, tn_116, tn_132, fu_e, up_eq, ob_0, ob_b, oi_add, oi_sub, oi_mul, oi_neg, Int.add_zero, Int.zero_add, or_true, true_or, or_false, false_or, and_self, z_i2l, z_l2i, lo_nat, lo_add, lo_sub, lo_mul, lo_0, e_rem, mr_J4_append_cf468]
  exact hq w1 p1 k1 f1
-- 59a.sb
/-! numbers and words appended -/
def TW (j : Nat) (l : List Int) : Prop := j < 16 ∧ s_len j = l.length ∧ l.length ≤ 9 ∧ ∀ i, i < l.length → s_ch j i = Int32.ofInt (l.getD i 0) ∧ 0 ≤ l.getD i 0 ∧ l.getD i 0 ≤ 127
theorem tw_6 : TW 6 [119, 104, 101, 101, 108, 115, 32] := ⟨by decide, by decide, by decide, by decide⟩
theorem tw_7 : TW 7 [59, 10] := ⟨by decide, by decide, by decide, by decide⟩
theorem tw_8 : TW 8 [112, 105, 110, 115, 32] := ⟨by decide, by decide, by decide, by decide⟩
theorem tw_9 : TW 9 [32, 99, 111, 117, 110, 116, 101, 114, 32] := ⟨by decide, by decide, by decide, by decide⟩
theorem tw_10 : TW 10 [32, 59] := ⟨by decide, by decide, by decide, by decide⟩
theorem tw_11 : TW 11 [114, 101, 97, 99, 104, 32] := ⟨by decide, by decide, by decide, by decide⟩
theorem tw_12 : TW 12 [115, 108, 105, 112, 32] := ⟨by decide, by decide, by decide, by decide⟩
theorem tw_13 : TW 13 [115, 116, 117, 99, 107, 32] := ⟨by decide, by decide, by decide, by decide⟩
theorem tw_14 : TW 14 [94] := ⟨by decide, by decide, by decide, by decide⟩
theorem tw_15 : TW 15 [] := ⟨by decide, by decide, by decide, by decide⟩
/-- a text grows by signs that lie in its bytes already -/
theorem SBu.grow {w w' : mW} {b a p n : Nat} {l e : List Int} (h : SBu w b a p l) (hn : w_sh w p = (3, n)) (hs : w_sh w' = w_sh w) (hR : w_R w' = w_R w) (hnn : w_n w ≤ w_n w') (hl : l.length + e.length ≤ n) (hn1 : n ≤ 1000) (h4 : l.length + e.length ≤ 400)
    (ha : w_I w' a = fun i => if i = 3 then Int32.ofInt ((l.length + e.length : Nat) : Int) else w_I w a i) (hp : ∀ i, w_I w' p i = if l.length ≤ i ∧ i < l.length + e.length then Int32.ofInt (e.getD (i - l.length) 0) else w_I w p i) (he : ∀ i, i < e.length → 0 ≤ e.getD i 0 ∧ e.getD i 0 ≤ 127) : SBu w' b a p (l ++ e) := by
  obtain ⟨⟨s1, s2, s3⟩, ⟨r1, r2, r3⟩, ⟨v1, v3⟩, -, hl0, hc, hf⟩ := h
  have hlen : (l ++ e).length = l.length + e.length := List.length_append
  have hg : ∀ i, (l ++ e).getD i 0 = if i < l.length then l.getD i 0 else e.getD (i - l.length) 0 := by
    intro i
    simp only [List.getD_eq_getElem?_getD, List.getElem?_append]
    split <;> rfl
  refine ⟨⟨by rw [hs]; exact s1, s2, by omega⟩, ⟨by rw [hR]; exact r1, r2, by omega⟩, ⟨by rw [ha]; exact v1, by rw [ha, hlen]; rfl⟩, ⟨n, by rw [hs]; exact hn, by omega, hn1⟩, by omega, fun i hi => ?_, fun i => ?_⟩
  · rw [hp, hg]
    rw [hlen] at hi
    by_cases q : i < l.length
    · rw [if_neg (by omega), if_pos q]; exact hc i q
    · rw [if_pos (by omega), if_neg q]; exact ⟨rfl, he _ (by omega)⟩
  · rw [hp]
    split
    · exact fit_b (he _ (by omega))
    · exact hf i
def dgs (x : Int) : List Int := if x < 10 then [48 + x] else [48 + x / 10, 48 + x % 10]
theorem dgs_len (x : Int) : (dgs x).length = if x < 10 then 1 else 2 := by unfold dgs; split <;> rfl
theorem dgs_b {x : Int} (h : 0 ≤ x ∧ x ≤ 99) : ∀ i, i < (dgs x).length → 0 ≤ (dgs x).getD i 0 ∧ (dgs x).getD i 0 ≤ 127 := by
  intro i hi
  unfold dgs at hi ⊢
  split at hi <;> rename_i q
  · rw [if_pos q]
    have : i = 0 := by simpa using hi
    subst this
    show 0 ≤ 48 + x ∧ 48 + x ≤ 127
    omega
  · rw [if_neg q]
    have : i = 0 ∨ i = 1 := by have : i < 2 := hi; omega
    rcases this with rfl | rfl
    · show 0 ≤ 48 + x / 10 ∧ 48 + x / 10 ≤ 127
      omega
    · show 0 ≤ 48 + x % 10 ∧ 48 + x % 10 ≤ 127
      omega
theorem c_ssz {x : Int} {w : mW} {Q : mW → mO → Prop} (hx : 0 ≤ x ∧ x ≤ 99) (hq : Q w (.inl (some (.int (Int32.ofInt (if x < 10 then 1 else 2)))))) : CT n_J6_stringSize_0f7a4 [.int (Int32.ofInt x)] w Q := by
  refine ct_J6_stringSize_0f7a4 (rt_J6_stringSize_0f7a4_0 ?_)
  simp (disch := omega) only [wp_c, wp_n, jj_n, v_ct, Int.reduceToNat, Int.toNat_natCast, stE, wlE, lgt, lpu, lpw, v_c2, va_s, true_and, and_true, Option.toList, List.nil_append, List.cons_append, List.take, List.drop, List.reverse, List.reverseAux, List.length_cons, List.length_nil, reduceCtorEq, false_implies, true_implies, forall_const, not_true_eq_false, not_false_eq_true, ite_true, ite_false, Bool.false_eq_true, I_I, J_J, Nat.add_left_cancel_iff, Nat.reduceEqDiff, Nat.add_eq_left, Nat.left_eq_add, false_and, and_false, Nat.reduceSub, Nat.sub_self, Nat.le_refl, Nat.zero_le, ge_iff_le, Nat.reduceAdd, Nat.reduceLeDiff, Nat.zero_add, Nat.reduceLT, z_lt, z_le, z_eq, z_l0, z_g0, z_le0, z_ge0, z_e0, z_e1, z_vp, z_nc, z_rem, z_div, i_ltT, i_ltF, i_leT, i_leF, i_eqT, i_eqF, n_ltT, n_ltF, n_leT, n_leF, n_eqT, n_eqF, tn_9, tn_12, tn_14, tn_20, tn_28, tn_44, tn_52, tn_68, tn_84, tn_100, tn_116, tn_132, fu_e, up_eq, ob_0, ob_b, oi_add, oi_sub, oi_mul, oi_neg, Int.add_zero, Int.zero_add, or_true, true_or, or_false, false_or, and_self, z_i2l, z_l2i, lo_nat, lo_add, lo_sub, lo_mul, lo_0, e_rem]
  refine rt_J6_stringSize_0f7a4_11 ?_
  simp (disch := omega) only [wp_c, wp_n, jj_n, v_ct, Int.reduceToNat, Int.toNat_natCast, stE, wlE, lgt, lpu, lpw, v_c2, va_s, true_and, and_true, Option.toList, List.nil_append, List.cons_append, List.take, List.drop, List.reverse, List.reverseAux, List.length_cons, List.length_nil, reduceCtorEq, false_implies, true_implies, forall_const, not_true_eq_false, not_false_eq_true, ite_true, ite_false, Bool.false_eq_true, I_I, J_J, Nat.add_left_cancel_iff, Nat.reduceEqDiff, Nat.add_eq_left, Nat.left_eq_add, false_and, and_false, Nat.reduceSub, Nat.sub_self, Nat.le_refl, Nat.zero_le, ge_iff_le, Nat.reduceAdd, Nat.reduceLeDiff, Nat.zero_add, Nat.reduceLT, z_lt, z_le, z_eq, z_l0, z_g0, z_le0, z_ge0, z_e0, z_e1, z_vp, z_nc, z_rem, z_div, i_ltT, i_ltF, i_leT, i_leF, i_eqT, i_eqF, n_ltT, n_ltF, n_leT, n_leF, n_eqT, n_eqF, tn_9, tn_12, tn_14, tn_20, tn_28, tn_44, tn_52, tn_68, tn_84, tn_100, tn_116, tn_132, fu_e, up_eq, ob_0, ob_b, oi_add, oi_sub, oi_mul, oi_neg, Int.add_zero, Int.zero_add, or_true, true_or, or_false, false_or, and_self, z_i2l, z_l2i, lo_nat, lo_add, lo_sub, lo_mul, lo_0, e_rem]
  refine rt_J6_stringSize_0f7a4_16 ?_
  by_cases q : x < 10
  · simp (disch := omega) only [wp_c, wp_n, jj_n, v_ct, Int.reduceToNat, Int.toNat_natCast, stE, wlE, lgt, lpu, lpw, v_c2, va_s, true_and, and_true, Option.toList, List.nil_append, List.cons_append, List.take, List.drop, List.reverse, List.reverseAux, List.length_cons, List.length_nil, reduceCtorEq, false_implies, true_implies, forall_const, not_true_eq_false, not_false_eq_true, ite_true, ite_false, Bool.false_eq_true, I_I, J_J, Nat.add_left_cancel_iff, Nat.reduceEqDiff, Nat.add_eq_left, Nat.left_eq_add, false_and, and_false, Nat.reduceSub, Nat.sub_self, Nat.le_refl, Nat.zero_le, ge_iff_le, Nat.reduceAdd, Nat.reduceLeDiff, Nat.zero_add, Nat.reduceLT, z_lt, z_le, z_eq, z_l0, z_g0, z_le0, z_ge0, z_e0, z_e1, z_vp, z_nc, z_rem, z_div, i_ltT, i_ltF, i_leT, i_leF, i_eqT, i_eqF, n_ltT, n_ltF, n_leT, n_leF, n_eqT, n_eqF, tn_9, tn_12, tn_14, tn_20, tn_28, tn_44, tn_52, tn_68, tn_84, tn_100, tn_116, tn_132, fu_e, up_eq, ob_0, ob_b, oi_add, oi_sub, oi_mul, oi_neg, Int.add_zero, Int.zero_add, or_true, true_or, or_false, false_or, and_self, z_i2l, z_l2i, lo_nat, lo_add, lo_sub, lo_mul, lo_0, e_rem, mr_J6_stringSize_0f7a4]
    rw [if_pos q] at hq
    exact hq
  · simp (disch := omega) only [wp_c, wp_n, jj_n, v_ct, Int.reduceToNat, Int.toNat_natCast, stE, wlE, lgt, lpu, lpw, v_c2, va_s, true_and, and_true, Option.toList, List.nil_append, List.cons_append, List.take, List.drop, List.reverse, List.reverseAux, List.length_cons, List.length_nil, reduceCtorEq, false_implies, true_implies, forall_const, not_true_eq_false, not_false_eq_true, ite_true, ite_false, Bool.false_eq_true, I_I, J_J, Nat.add_left_cancel_iff, Nat.reduceEqDiff, Nat.add_eq_left, Nat.left_eq_add, false_and, and_false, Nat.reduceSub, Nat.sub_self, Nat.le_refl, Nat.zero_le, ge_iff_le, Nat.reduceAdd, Nat.reduceLeDiff, Nat.zero_add, Nat.reduceLT, z_lt, z_le, z_eq, z_l0, z_g0, z_le0, z_ge0, z_e0, z_e1, z_vp, z_nc, z_rem, z_div, i_ltT, i_ltF, i_leT, i_leF, i_eqT, i_eqF, n_ltT, n_ltF, n_leT, n_leF, n_eqT, n_eqF, tn_9, tn_12, tn_14, tn_20, tn_28, tn_44, tn_52, tn_68, tn_84, tn_100, tn_116, tn_132, fu_e, up_eq, ob_0, ob_b, oi_add, oi_sub, oi_mul, oi_neg, Int.add_zero, Int.zero_add, or_true, true_or, or_false, false_or, and_self, z_i2l, z_l2i, lo_nat, lo_add, lo_sub, lo_mul, lo_0, e_rem]
    refine rt_J6_stringSize_0f7a4_31 ?_
    simp (disch := omega) only [wp_c, wp_n, jj_n, v_ct, Int.reduceToNat, Int.toNat_natCast, stE, wlE, lgt, lpu, lpw, v_c2, va_s, true_and, and_true, Option.toList, List.nil_append, List.cons_append, List.take, List.drop, List.reverse, List.reverseAux, List.length_cons, List.length_nil, reduceCtorEq, false_implies, true_implies, forall_const, not_true_eq_false, not_false_eq_true, ite_true, ite_false, Bool.false_eq_true, I_I, J_J, Nat.add_left_cancel_iff, Nat.reduceEqDiff, Nat.add_eq_left, Nat.left_eq_add, false_and, and_false, Nat.reduceSub, Nat.sub_self, Nat.le_refl, Nat.zero_le, ge_iff_le, Nat.reduceAdd, Nat.reduceLeDiff, Nat.zero_add, Nat.reduceLT, z_lt, z_le, z_eq, z_l0, z_g0, z_le0, z_ge0, z_e0, z_e1, z_vp, z_nc, z_rem, z_div, i_ltT, i_ltF, i_leT, i_leF, i_eqT, i_eqF, n_ltT, n_ltF, n_leT, n_leF, n_eqT, n_eqF, tn_9, tn_12, tn_14, tn_20, tn_28, tn_44, tn_52, tn_68, tn_84, tn_100, tn_116, tn_132, fu_e, up_eq, ob_0, ob_b, oi_add, oi_sub, oi_mul, oi_neg, Int.add_zero, Int.zero_add, or_true, true_or, or_false, false_or, and_self, z_i2l, z_l2i, lo_nat, lo_add, lo_sub, lo_mul, lo_0, e_rem]
    refine rt_J6_stringSize_0f7a4_16 ?_
    have e : (10 : Int) * (-10) = -100 := by decide
    simp (disch := omega) only [wp_c, wp_n, jj_n, v_ct, Int.reduceToNat, Int.toNat_natCast, stE, wlE, lgt, lpu, lpw, v_c2, va_s, true_and, and_true, Option.toList, List.nil_append, List.cons_append, List.take, List.drop, List.reverse, List.reverseAux, List.length_cons, List.length_nil, reduceCtorEq, false_implies, true_implies, forall_const, not_true_eq_false, not_false_eq_true, ite_true, ite_false, Bool.false_eq_true, I_I, J_J, Nat.add_left_cancel_iff, Nat.reduceEqDiff, Nat.add_eq_left, Nat.left_eq_add, false_and, and_false, Nat.reduceSub, Nat.sub_self, Nat.le_refl, Nat.zero_le, ge_iff_le, Nat.reduceAdd, Nat.reduceLeDiff, Nat.zero_add, Nat.reduceLT, z_lt, z_le, z_eq, z_l0, z_g0, z_le0, z_ge0, z_e0, z_e1, z_vp, z_nc, z_rem, z_div, i_ltT, i_ltF, i_leT, i_leF, i_eqT, i_eqF, n_ltT, n_ltF, n_leT, n_leF, n_eqT, n_eqF, tn_9, tn_12, tn_14, tn_20, tn_28, tn_44, tn_52, tn_68, tn_84, tn_100, tn_116, tn_132, fu_e, up_eq, ob_0, ob_b, oi_add, oi_sub, oi_mul, oi_neg, Int.add_zero, Int.zero_add, or_true, true_or, or_false, false_or, and_self, z_i2l, z_l2i, lo_nat, lo_add, lo_sub, lo_mul, lo_0, e_rem, e, mr_J6_stringSize_0f7a4]
    rw [if_neg q] at hq
    exact hq
theorem c_gch {x : Int} {p n s : Nat} {w : mW} {Q : mW → mO → Prop} (hx : 0 ≤ x ∧ x ≤ 99) (hs : w_sh w p = (3, n)) (hn : s + (dgs x).length ≤ n) (hn1 : n ≤ 1000) (hq : ∀ w', (∀ c, ¬ c = p → w_I w' c = w_I w c) → (∀ i, w_I w' p i = if s ≤ i ∧ i < s + (dgs x).length then Int32.ofInt ((dgs x).getD (i - s) 0) else w_I w p i) → w_sh w' = w_sh w → w_R w' = w_R w → w_J w' = w_J w → w_n w' = w_n w → ∀ v, Q w' (.inl (some (.int v)))) : CT n_J6_getChars_ba4f3 [.int (Int32.ofInt x), .int (Int32.ofInt ((s + (dgs x).length : Nat) : Int)), .ref p] w Q := by
  have hnar : ∀ y : Int, 0 ≤ y ∧ y ≤ 127 → vp_nar .byte (Int32.ofInt y) = Int32.ofInt y := by
    intro y hy
    show (Int32.ofInt y).toInt8.toInt32 = Int32.ofInt y
    have h128 : (Int32.ofInt y).toInt8 = Int8.ofInt y := Int32.toInt8_ofInt
    rw [h128, ← Int32.toInt_inj, Int8.toInt_toInt32, oi_to ⟨by omega, by omega⟩, Int8.toInt_ofInt_of_le (by omega) (by omega)]
  have hO : ∀ y : Int, 0 ≤ y ∧ y ≤ 99 → dgO y.toNat = Int32.ofInt (48 + y % 10) := by
    intro y hy
    show Int32.ofNat (48 + y.toNat % 10) = _
    rw [oi_nat]; congr 1; omega
  have hT : ∀ y : Int, 0 ≤ y ∧ y ≤ 99 → dgT y.toNat = Int32.ofInt (48 + y / 10) := by
    intro y hy
    show Int32.ofNat (48 + y.toNat / 10) = _
    rw [oi_nat]; congr 1; omega
  have hlen := dgs_len x
  refine ct_J6_getChars_ba4f3 (rt_J6_getChars_ba4f3_0 ?_)
  simp (disch := omega) only [wp_c, wp_n, jj_n, v_ct, Int.reduceToNat, Int.toNat_natCast, stE, wlE, lgt, lpu, lpw, v_c2, va_s, true_and, and_true, Option.toList, List.nil_append, List.cons_append, List.take, List.drop, List.reverse, List.reverseAux, List.length_cons, List.length_nil, reduceCtorEq, false_implies, true_implies, forall_const, not_true_eq_false, not_false_eq_true, ite_true, ite_false, Bool.false_eq_true, I_I, J_J, Nat.add_left_cancel_iff, Nat.reduceEqDiff, Nat.add_eq_left, Nat.left_eq_add, false_and, and_false, Nat.reduceSub, Nat.sub_self, Nat.le_refl, Nat.zero_le, ge_iff_le, Nat.reduceAdd, Nat.reduceLeDiff, Nat.zero_add, Nat.reduceLT, z_lt, z_le, z_eq, z_l0, z_g0, z_le0, z_ge0, z_e0, z_e1, z_vp, z_nc, z_rem, z_div, i_ltT, i_ltF, i_leT, i_leF, i_eqT, i_eqF, n_ltT, n_ltF, n_leT, n_leF, n_eqT, n_eqF, tn_9, tn_12, tn_14, tn_20, tn_28, tn_44, tn_52, tn_68, tn_84, tn_100, tn_116, tn_132, fu_e, up_eq, ob_0, ob_b, oi_add, oi_sub, oi_mul, oi_neg, Int.add_zero, Int.zero_add, or_true, true_or, or_false, false_or, and_self, z_i2l, z_l2i, lo_nat, lo_add, lo_sub, lo_mul, lo_0, e_rem]
  refine rt_J6_getChars_ba4f3_11 ?_
  simp (disch := omega) only [wp_c, wp_n, jj_n, v_ct, Int.reduceToNat, Int.toNat_natCast, stE, wlE, lgt, lpu, lpw, v_c2, va_s, true_and, and_true, Option.toList, List.nil_append, List.cons_append, List.take, List.drop, List.reverse, List.reverseAux, List.length_cons, List.length_nil, reduceCtorEq, false_implies, true_implies, forall_const, not_true_eq_false, not_false_eq_true, ite_true, ite_false, Bool.false_eq_true, I_I, J_J, Nat.add_left_cancel_iff, Nat.reduceEqDiff, Nat.add_eq_left, Nat.left_eq_add, false_and, and_false, Nat.reduceSub, Nat.sub_self, Nat.le_refl, Nat.zero_le, ge_iff_le, Nat.reduceAdd, Nat.reduceLeDiff, Nat.zero_add, Nat.reduceLT, z_lt, z_le, z_eq, z_l0, z_g0, z_le0, z_ge0, z_e0, z_e1, z_vp, z_nc, z_rem, z_div, i_ltT, i_ltF, i_leT, i_leF, i_eqT, i_eqF, n_ltT, n_ltF, n_leT, n_leF, n_eqT, n_eqF, tn_9, tn_12, tn_14, tn_20, tn_28, tn_44, tn_52, tn_68, tn_84, tn_100, tn_116, tn_132, fu_e, up_eq, ob_0, ob_b, oi_add, oi_sub, oi_mul, oi_neg, Int.add_zero, Int.zero_add, or_true, true_or, or_false, false_or, and_self, z_i2l, z_l2i, lo_nat, lo_add, lo_sub, lo_mul, lo_0, e_rem]
  refine rt_J6_getChars_ba4f3_12 ?_
  simp (disch := omega) only [wp_c, wp_n, jj_n, v_ct, Int.reduceToNat, Int.toNat_natCast, stE, wlE, lgt, lpu, lpw, v_c2, va_s, true_and, and_true, Option.toList, List.nil_append, List.cons_append, List.take, List.drop, List.reverse, List.reverseAux, List.length_cons, List.length_nil, reduceCtorEq, false_implies, true_implies, forall_const, not_true_eq_false, not_false_eq_true, ite_true, ite_false, Bool.false_eq_true, I_I, J_J, Nat.add_left_cancel_iff, Nat.reduceEqDiff, Nat.add_eq_left, Nat.left_eq_add, false_and, and_false, Nat.reduceSub, Nat.sub_self, Nat.le_refl, Nat.zero_le, ge_iff_le, Nat.reduceAdd, Nat.reduceLeDiff, Nat.zero_add, Nat.reduceLT, z_lt, z_le, z_eq, z_l0, z_g0, z_le0, z_ge0, z_e0, z_e1, z_vp, z_nc, z_rem, z_div, i_ltT, i_ltF, i_leT, i_leF, i_eqT, i_eqF, n_ltT, n_ltF, n_leT, n_leF, n_eqT, n_eqF, tn_9, tn_12, tn_14, tn_20, tn_28, tn_44, tn_52, tn_68, tn_84, tn_100, tn_116, tn_132, fu_e, up_eq, ob_0, ob_b, oi_add, oi_sub, oi_mul, oi_neg, Int.add_zero, Int.zero_add, or_true, true_or, or_false, false_or, and_self, z_i2l, z_l2i, lo_nat, lo_add, lo_sub, lo_mul, lo_0, e_rem]
  refine rt_J6_getChars_ba4f3_22 ?_
  simp (disch := omega) only [wp_c, wp_n, jj_n, v_ct, Int.reduceToNat, Int.toNat_natCast, stE, wlE, lgt, lpu, lpw, v_c2, va_s, true_and, and_true, Option.toList, List.nil_append, List.cons_append, List.take, List.drop, List.reverse, List.reverseAux, List.length_cons, List.length_nil, reduceCtorEq, false_implies, true_implies, forall_const, not_true_eq_false, not_false_eq_true, ite_true, ite_false, Bool.false_eq_true, I_I, J_J, Nat.add_left_cancel_iff, Nat.reduceEqDiff, Nat.add_eq_left, Nat.left_eq_add, false_and, and_false, Nat.reduceSub, Nat.sub_self, Nat.le_refl, Nat.zero_le, ge_iff_le, Nat.reduceAdd, Nat.reduceLeDiff, Nat.zero_add, Nat.reduceLT, z_lt, z_le, z_eq, z_l0, z_g0, z_le0, z_ge0, z_e0, z_e1, z_vp, z_nc, z_rem, z_div, i_ltT, i_ltF, i_leT, i_leF, i_eqT, i_eqF, n_ltT, n_ltF, n_leT, n_leF, n_eqT, n_eqF, tn_9, tn_12, tn_14, tn_20, tn_28, tn_44, tn_52, tn_68, tn_84, tn_100, tn_116, tn_132, fu_e, up_eq, ob_0, ob_b, oi_add, oi_sub, oi_mul, oi_neg, Int.add_zero, Int.zero_add, or_true, true_or, or_false, false_or, and_self, z_i2l, z_l2i, lo_nat, lo_add, lo_sub, lo_mul, lo_0, e_rem]
  refine rt_J6_getChars_ba4f3_72 ?_
  have enn : - -x = x := Int.neg_neg x
  have h40 : (40 : Nat) = 40 := rfl
  by_cases q : x < 10
  · rw [if_pos q] at hlen
    have ed : dgs x = [48 + x] := by unfold dgs; rw [if_pos q]
    rw [hlen] at hq hn ⊢
    have e1 : ((s + 1 : Nat) : Int) + -1 = (s : Int) := by omega
    have ex : x % 10 = x := by omega
    simp (disch := omega) only [wp_c, wp_n, jj_n, v_ct, Int.reduceToNat, Int.toNat_natCast, stE, wlE, lgt, lpu, lpw, v_c2, va_s, true_and, and_true, Option.toList, List.nil_append, List.cons_append, List.take, List.drop, List.reverse, List.reverseAux, List.length_cons, List.length_nil, reduceCtorEq, false_implies, true_implies, forall_const, not_true_eq_false, not_false_eq_true, ite_true, ite_false, Bool.false_eq_true, I_I, J_J, Nat.add_left_cancel_iff, Nat.reduceEqDiff, Nat.add_eq_left, Nat.left_eq_add, false_and, and_false, Nat.reduceSub, Nat.sub_self, Nat.le_refl, Nat.zero_le, ge_iff_le, Nat.reduceAdd, Nat.reduceLeDiff, Nat.zero_add, Nat.reduceLT, z_lt, z_le, z_eq, z_l0, z_g0, z_le0, z_ge0, z_e0, z_e1, z_vp, z_nc, z_rem, z_div, i_ltT, i_ltF, i_leT, i_leF, i_eqT, i_eqF, n_ltT, n_ltF, n_leT, n_leF, n_eqT, n_eqF, tn_9, tn_12, tn_14, tn_20, tn_28, tn_44, tn_52, tn_68, tn_84, tn_100, tn_116, tn_132, fu_e, up_eq, ob_0, ob_b, oi_add, oi_sub, oi_mul, oi_neg, Int.add_zero, Int.zero_add, or_true, true_or, or_false, false_or, and_self, z_i2l, z_l2i, lo_nat, lo_add, lo_sub, lo_mul, lo_0, e_rem, e1, hs, enn, hO, hT, hnar, ex]
    refine rt_J6_getChars_ba4f3_104 ?_
    simp (disch := omega) only [wp_c, wp_n, jj_n, v_ct, Int.reduceToNat, Int.toNat_natCast, stE, wlE, lgt, lpu, lpw, v_c2, va_s, true_and, and_true, Option.toList, List.nil_append, List.cons_append, List.take, List.drop, List.reverse, List.reverseAux, List.length_cons, List.length_nil, reduceCtorEq, false_implies, true_implies, forall_const, not_true_eq_false, not_false_eq_true, ite_true, ite_false, Bool.false_eq_true, I_I, J_J, Nat.add_left_cancel_iff, Nat.reduceEqDiff, Nat.add_eq_left, Nat.left_eq_add, false_and, and_false, Nat.reduceSub, Nat.sub_self, Nat.le_refl, Nat.zero_le, ge_iff_le, Nat.reduceAdd, Nat.reduceLeDiff, Nat.zero_add, Nat.reduceLT, z_lt, z_le, z_eq, z_l0, z_g0, z_le0, z_ge0, z_e0, z_e1, z_vp, z_nc, z_rem, z_div, i_ltT, i_ltF, i_leT, i_leF, i_eqT, i_eqF, n_ltT, n_ltF, n_leT, n_leF, n_eqT, n_eqF, tn_9, tn_12, tn_14, tn_20, tn_28, tn_44, tn_52, tn_68, tn_84, tn_100, tn_116, tn_132, fu_e, up_eq, ob_0, ob_b, oi_add, oi_sub, oi_mul, oi_neg, Int.add_zero, Int.zero_add, or_true, true_or, or_false, false_or, and_self, z_i2l, z_l2i, lo_nat, lo_add, lo_sub, lo_mul, lo_0, e_rem]
    refine rt_J6_getChars_ba4f3_118 ?_
    simp (disch := omega) only [wp_c, wp_n, jj_n, v_ct, Int.reduceToNat, Int.toNat_natCast, stE, wlE, lgt, lpu, lpw, v_c2, va_s, true_and, and_true, Option.toList, List.nil_append, List.cons_append, List.take, List.drop, List.reverse, List.reverseAux, List.length_cons, List.length_nil, reduceCtorEq, false_implies, true_implies, forall_const, not_true_eq_false, not_false_eq_true, ite_true, ite_false, Bool.false_eq_true, I_I, J_J, Nat.add_left_cancel_iff, Nat.reduceEqDiff, Nat.add_eq_left, Nat.left_eq_add, false_and, and_false, Nat.reduceSub, Nat.sub_self, Nat.le_refl, Nat.zero_le, ge_iff_le, Nat.reduceAdd, Nat.reduceLeDiff, Nat.zero_add, Nat.reduceLT, z_lt, z_le, z_eq, z_l0, z_g0, z_le0, z_ge0, z_e0, z_e1, z_vp, z_nc, z_rem, z_div, i_ltT, i_ltF, i_leT, i_leF, i_eqT, i_eqF, n_ltT, n_ltF, n_leT, n_leF, n_eqT, n_eqF, tn_9, tn_12, tn_14, tn_20, tn_28, tn_44, tn_52, tn_68, tn_84, tn_100, tn_116, tn_132, fu_e, up_eq, ob_0, ob_b, oi_add, oi_sub, oi_mul, oi_neg, Int.add_zero, Int.zero_add, or_true, true_or, or_false, false_or, and_self, z_i2l, z_l2i, lo_nat, lo_add, lo_sub, lo_mul, lo_0, e_rem, mr_J6_getChars_ba4f3]
    refine hq _ ?_ ?_ ?_ ?_ ?_ ?_ _
    rotate_left 2
    · rfl
    · rfl
    · rfl
    · rfl
    · intro c hc; funext j; rw [I_I, if_neg (fun z => hc z.1)]
    · intro i; rw [I_I]
      by_cases z : i = s
      · rw [if_pos ⟨rfl, z⟩, if_pos (by omega), ed, z, Nat.sub_self]; rfl
      · rw [if_neg (fun r => z r.2), if_neg (by omega)]
  · rw [if_neg q] at hlen
    have ed : dgs x = [48 + x / 10, 48 + x % 10] := by unfold dgs; rw [if_neg q]
    rw [hlen] at hq hn ⊢
    have e1 : ((s + 2 : Nat) : Int) + -1 = ((s + 1 : Nat) : Int) := by omega
    have e2 : ((s + 1 : Nat) : Int) + -1 = (s : Int) := by omega
    simp (disch := omega) only [wp_c, wp_n, jj_n, v_ct, Int.reduceToNat, Int.toNat_natCast, stE, wlE, lgt, lpu, lpw, v_c2, va_s, true_and, and_true, Option.toList, List.nil_append, List.cons_append, List.take, List.drop, List.reverse, List.reverseAux, List.length_cons, List.length_nil, reduceCtorEq, false_implies, true_implies, forall_const, not_true_eq_false, not_false_eq_true, ite_true, ite_false, Bool.false_eq_true, I_I, J_J, Nat.add_left_cancel_iff, Nat.reduceEqDiff, Nat.add_eq_left, Nat.left_eq_add, false_and, and_false, Nat.reduceSub, Nat.sub_self, Nat.le_refl, Nat.zero_le, ge_iff_le, Nat.reduceAdd, Nat.reduceLeDiff, Nat.zero_add, Nat.reduceLT, z_lt, z_le, z_eq, z_l0, z_g0, z_le0, z_ge0, z_e0, z_e1, z_vp, z_nc, z_rem, z_div, i_ltT, i_ltF, i_leT, i_leF, i_eqT, i_eqF, n_ltT, n_ltF, n_leT, n_leF, n_eqT, n_eqF, tn_9, tn_12, tn_14, tn_20, tn_28, tn_44, tn_52, tn_68, tn_84, tn_100, tn_116, tn_132, fu_e, up_eq, ob_0, ob_b, oi_add, oi_sub, oi_mul, oi_neg, Int.add_zero, Int.zero_add, or_true, true_or, or_false, false_or, and_self, z_i2l, z_l2i, lo_nat, lo_add, lo_sub, lo_mul, lo_0, e_rem, e1, e2, hs, enn, hO, hT, hnar]
    refine rt_J6_getChars_ba4f3_104 ?_
    simp (disch := omega) only [wp_c, wp_n, jj_n, v_ct, Int.reduceToNat, Int.toNat_natCast, stE, wlE, lgt, lpu, lpw, v_c2, va_s, true_and, and_true, Option.toList, List.nil_append, List.cons_append, List.take, List.drop, List.reverse, List.reverseAux, List.length_cons, List.length_nil, reduceCtorEq, false_implies, true_implies, forall_const, not_true_eq_false, not_false_eq_true, ite_true, ite_false, Bool.false_eq_true, I_I, J_J, Nat.add_left_cancel_iff, Nat.reduceEqDiff, Nat.add_eq_left, Nat.left_eq_add, false_and, and_false, Nat.reduceSub, Nat.sub_self, Nat.le_refl, Nat.zero_le, ge_iff_le, Nat.reduceAdd, Nat.reduceLeDiff, Nat.zero_add, Nat.reduceLT, z_lt, z_le, z_eq, z_l0, z_g0, z_le0, z_ge0, z_e0, z_e1, z_vp, z_nc, z_rem, z_div, i_ltT, i_ltF, i_leT, i_leF, i_eqT, i_eqF, n_ltT, n_ltF, n_leT, n_leF, n_eqT, n_eqF, tn_9, tn_12, tn_14, tn_20, tn_28, tn_44, tn_52, tn_68, tn_84, tn_100, tn_116, tn_132, fu_e, up_eq, ob_0, ob_b, oi_add, oi_sub, oi_mul, oi_neg, Int.add_zero, Int.zero_add, or_true, true_or, or_false, false_or, and_self, z_i2l, z_l2i, lo_nat, lo_add, lo_sub, lo_mul, lo_0, e_rem]
    refine rt_J6_getChars_ba4f3_118 ?_
    simp (disch := omega) only [wp_c, wp_n, jj_n, v_ct, Int.reduceToNat, Int.toNat_natCast, stE, wlE, lgt, lpu, lpw, v_c2, va_s, true_and, and_true, Option.toList, List.nil_append, List.cons_append, List.take, List.drop, List.reverse, List.reverseAux, List.length_cons, List.length_nil, reduceCtorEq, false_implies, true_implies, forall_const, not_true_eq_false, not_false_eq_true, ite_true, ite_false, Bool.false_eq_true, I_I, J_J, Nat.add_left_cancel_iff, Nat.reduceEqDiff, Nat.add_eq_left, Nat.left_eq_add, false_and, and_false, Nat.reduceSub, Nat.sub_self, Nat.le_refl, Nat.zero_le, ge_iff_le, Nat.reduceAdd, Nat.reduceLeDiff, Nat.zero_add, Nat.reduceLT, z_lt, z_le, z_eq, z_l0, z_g0, z_le0, z_ge0, z_e0, z_e1, z_vp, z_nc, z_rem, z_div, i_ltT, i_ltF, i_leT, i_leF, i_eqT, i_eqF, n_ltT, n_ltF, n_leT, n_leF, n_eqT, n_eqF, tn_9, tn_12, tn_14, tn_20, tn_28, tn_44, tn_52, tn_68, tn_84, tn_100, tn_116, tn_132, fu_e, up_eq, ob_0, ob_b, oi_add, oi_sub, oi_mul, oi_neg, Int.add_zero, Int.zero_add, or_true, true_or, or_false, false_or, and_self, z_i2l, z_l2i, lo_nat, lo_add, lo_sub, lo_mul, lo_0, e_rem, mr_J6_getChars_ba4f3]
    refine hq _ ?_ ?_ ?_ ?_ ?_ ?_ _
    rotate_left 2
    · rfl
    · rfl
    · rfl
    · rfl
    · intro c hc; funext j; rw [I_I, if_neg (fun z => hc z.1), I_I, if_neg (fun z => hc z.1)]
    · intro i; rw [I_I]
      by_cases z : i = s
      · rw [if_pos ⟨rfl, z⟩, if_pos (by omega), ed, z, Nat.sub_self]; rfl
      · rw [if_neg (fun r => z r.2), I_I]
        by_cases z1 : i = s + 1
        · rw [if_pos ⟨rfl, z1⟩, if_pos (by omega), ed, z1, show s + 1 - s = 1 by omega]; rfl
        · rw [if_neg (fun r => z1 r.2), if_neg (by omega)]
theorem c_apI {b a p : Nat} {l : List Int} {x : Int} {w : mW} {Q : mW → mO → Prop} (h : SBu w b a p l) (hb : 100 ≤ b) (hx : 0 ≤ x ∧ x ≤ 99) (hl : l.length + 2 ≤ 400) (hq : ∀ w' p', SBu w' b a p' (l ++ dgs x) → FB b w w' → Q w' (.inl (some (.ref a)))) : CT n_J4_append_bf812 [.ref a, .int (Int32.ofInt x)] w Q := by
  have h0 := h
  obtain ⟨⟨s1, s2, s3⟩, ⟨r1, r2, r3⟩, ⟨v1, v3⟩, -, hl0, -⟩ := h
  have hlen := dgs_len x
  refine ct_J4_append_bf812 (rt_J4_append_bf812_0 ?_)
  simp (disch := omega) only [wp_c, wp_n, jj_n, v_ct, Int.reduceToNat, Int.toNat_natCast, stE, wlE, lgt, lpu, lpw, v_c2, va_s, true_and, and_true, Option.toList, List.nil_append, List.cons_append, List.take, List.drop, List.reverse, List.reverseAux, List.length_cons, List.length_nil, reduceCtorEq, false_implies, true_implies, forall_const, not_true_eq_false, not_false_eq_true, ite_true, ite_false, Bool.false_eq_true, I_I, J_J, Nat.add_left_cancel_iff, Nat.reduceEqDiff, Nat.add_eq_left, Nat.left_eq_add, false_and, and_false, Nat.reduceSub, Nat.sub_self, Nat.le_refl, Nat.zero_le, ge_iff_le, Nat.reduceAdd, Nat.reduceLeDiff, Nat.zero_add, Nat.reduceLT, z_lt, z_le, z_eq, z_l0, z_g0, z_le0, z_ge0, z_e0, z_e1, z_vp, z_nc, z_rem, z_div, i_ltT, i_ltF, i_leT, i_leF, i_eqT, i_eqF, n_ltT, n_ltF, n_leT, n_leF, n_eqT, n_eqF, tn_9, tn_12, tn_14, tn_20, tn_28, tn_44, tn_52, tn_68, tn_84, tn_100, tn_116, tn_132, fu_e, up_eq, ob_0, ob_b, oi_add, oi_sub, oi_mul, oi_neg, Int.add_zero, Int.zero_add, or_true, true_or, or_false, false_or, and_self, z_i2l, z_l2i, lo_nat, lo_add, lo_sub, lo_mul, lo_0, e_rem, s1, mh_J4_append_bf812]
  refine ct_J5_append_c97b9 (rt_J5_append_c97b9_0 ?_)
  simp (disch := omega) only [wp_c, wp_n, jj_n, v_ct, Int.reduceToNat, Int.toNat_natCast, stE, wlE, lgt, lpu, lpw, v_c2, va_s, true_and, and_true, Option.toList, List.nil_append, List.cons_append, List.take, List.drop, List.reverse, List.reverseAux, List.length_cons, List.length_nil, reduceCtorEq, false_implies, true_implies, forall_const, not_true_eq_false, not_false_eq_true, ite_true, ite_false, Bool.false_eq_true, I_I, J_J, Nat.add_left_cancel_iff, Nat.reduceEqDiff, Nat.add_eq_left, Nat.left_eq_add, false_and, and_false, Nat.reduceSub, Nat.sub_self, Nat.le_refl, Nat.zero_le, ge_iff_le, Nat.reduceAdd, Nat.reduceLeDiff, Nat.zero_add, Nat.reduceLT, z_lt, z_le, z_eq, z_l0, z_g0, z_le0, z_ge0, z_e0, z_e1, z_vp, z_nc, z_rem, z_div, i_ltT, i_ltF, i_leT, i_leF, i_eqT, i_eqF, n_ltT, n_ltF, n_leT, n_leF, n_eqT, n_eqF, tn_9, tn_12, tn_14, tn_20, tn_28, tn_44, tn_52, tn_68, tn_84, tn_100, tn_116, tn_132, fu_e, up_eq, ob_0, ob_b, oi_add, oi_sub, oi_mul, oi_neg, Int.add_zero, Int.zero_add, or_true, true_or, or_false, false_or, and_self, z_i2l, z_l2i, lo_nat, lo_add, lo_sub, lo_mul, lo_0, e_rem, s1, v3, mh_J5_append_c97b9]
  refine c_ssz hx ?_
  have es : (l.length : Int) + (if x < 10 then 1 else 2) = ((l.length + (dgs x).length : Nat) : Int) := by rw [hlen]; split <;> omega
  have elb : (dgs x).length ≤ 2 ∧ 1 ≤ (dgs x).length := by rw [hlen]; split <;> omega
  simp (disch := omega) only [wp_c, wp_n, jj_n, v_ct, Int.reduceToNat, Int.toNat_natCast, stE, wlE, lgt, lpu, lpw, v_c2, va_s, true_and, and_true, Option.toList, List.nil_append, List.cons_append, List.take, List.drop, List.reverse, List.reverseAux, List.length_cons, List.length_nil, reduceCtorEq, false_implies, true_implies, forall_const, not_true_eq_false, not_false_eq_true, ite_true, ite_false, Bool.false_eq_true, I_I, J_J, Nat.add_left_cancel_iff, Nat.reduceEqDiff, Nat.add_eq_left, Nat.left_eq_add, false_and, and_false, Nat.reduceSub, Nat.sub_self, Nat.le_refl, Nat.zero_le, ge_iff_le, Nat.reduceAdd, Nat.reduceLeDiff, Nat.zero_add, Nat.reduceLT, z_lt, z_le, z_eq, z_l0, z_g0, z_le0, z_ge0, z_e0, z_e1, z_vp, z_nc, z_rem, z_div, i_ltT, i_ltF, i_leT, i_leF, i_eqT, i_eqF, n_ltT, n_ltF, n_leT, n_leF, n_eqT, n_eqF, tn_9, tn_12, tn_14, tn_20, tn_28, tn_44, tn_52, tn_68, tn_84, tn_100, tn_116, tn_132, fu_e, up_eq, ob_0, ob_b, oi_add, oi_sub, oi_mul, oi_neg, Int.add_zero, Int.zero_add, or_true, true_or, or_false, false_or, and_self, z_i2l, z_l2i, lo_nat, lo_add, lo_sub, lo_mul, lo_0, e_rem, s1, es, mh_J5_append_c97b9]
  refine c_ensure h0 hb ⟨by omega, by omega⟩ ?_
  intro w1 p1 n1 k1 f1 hn1 hm1 hk1
  simp (disch := omega) only [wp_c, wp_n, jj_n, v_ct, Int.reduceToNat, Int.toNat_natCast, stE, wlE, lgt, lpu, lpw, v_c2, va_s, true_and, and_true, Option.toList, List.nil_append, List.cons_append, List.take, List.drop, List.reverse, List.reverseAux, List.length_cons, List.length_nil, reduceCtorEq, false_implies, true_implies, forall_const, not_true_eq_false, not_false_eq_true, ite_true, ite_false, Bool.false_eq_true, I_I, J_J, Nat.add_left_cancel_iff, Nat.reduceEqDiff, Nat.add_eq_left, Nat.left_eq_add, false_and, and_false, Nat.reduceSub, Nat.sub_self, Nat.le_refl, Nat.zero_le, ge_iff_le, Nat.reduceAdd, Nat.reduceLeDiff, Nat.zero_add, Nat.reduceLT, z_lt, z_le, z_eq, z_l0, z_g0, z_le0, z_ge0, z_e0, z_e1, z_vp, z_nc, z_rem, z_div, i_ltT, i_ltF, i_leT, i_leF, i_eqT, i_eqF, n_ltT, n_ltF, n_leT, n_leF, n_eqT, n_eqF, tn_9, tn_12, tn_14, tn_20, tn_28, tn_44, tn_52, tn_68, tn_84, tn_100, tn_116, tn_132, fu_e, up_eq, ob_0, ob_b, oi_add, oi_sub, oi_mul, oi_neg, Int.add_zero, Int.zero_add, or_true, true_or, or_false, false_or, and_self, z_i2l, z_l2i, lo_nat, lo_add, lo_sub, lo_mul, lo_0, e_rem, k1.1.1, mh_J5_append_c97b9]
  refine c_lat5 k1 ?_
  have k0 := k1
  obtain ⟨⟨t1, t2, t3⟩, ⟨u1, u2, u3⟩, ⟨x1, x3⟩, ⟨n, hn, hn2, hn3⟩, hl1, hc1, hf1⟩ := k1
  have enn : n1 = n := by rw [hn] at hn1; exact (congrArg Prod.snd hn1).symm
  have hap : ¬ a = p1 := sh_ne t1 hn
  simp (disch := omega) only [wp_c, wp_n, jj_n, v_ct, Int.reduceToNat, Int.toNat_natCast, stE, wlE, lgt, lpu, lpw, v_c2, va_s, true_and, and_true, Option.toList, List.nil_append, List.cons_append, List.take, List.drop, List.reverse, List.reverseAux, List.length_cons, List.length_nil, reduceCtorEq, false_implies, true_implies, forall_const, not_true_eq_false, not_false_eq_true, ite_true, ite_false, Bool.false_eq_true, I_I, J_J, Nat.add_left_cancel_iff, Nat.reduceEqDiff, Nat.add_eq_left, Nat.left_eq_add, false_and, and_false, Nat.reduceSub, Nat.sub_self, Nat.le_refl, Nat.zero_le, ge_iff_le, Nat.reduceAdd, Nat.reduceLeDiff, Nat.zero_add, Nat.reduceLT, z_lt, z_le, z_eq, z_l0, z_g0, z_le0, z_ge0, z_e0, z_e1, z_vp, z_nc, z_rem, z_div, i_ltT, i_ltF, i_leT, i_leF, i_eqT, i_eqF, n_ltT, n_ltF, n_leT, n_leF, n_eqT, n_eqF, tn_9, tn_12, tn_14, tn_20, tn_28, tn_44, tn_52, tn_68, tn_84, tn_100, tn_116, tn_132, fu_e, up_eq, ob_0, ob_b, oi_add, oi_sub, oi_mul, oi_neg, Int.add_zero, Int.zero_add, or_true, true_or, or_false, false_or, and_self, z_i2l, z_l2i, lo_nat, lo_add, lo_sub, lo_mul, lo_0, e_rem, t1, u1, mh_J5_append_c97b9]
  refine c_gch hx hn (by omega) hn3 ?_
  intro w2 g1 g2 g3 g4 g5 g6 v
  have t1' : w_sh w2 a = (0, 12) := by rw [g3]; exact t1
  try simp (disch := omega) only [wp_c, wp_n, jj_n, v_ct, Int.reduceToNat, Int.toNat_natCast, stE, wlE, lgt, lpu, lpw, v_c2, va_s, true_and, and_true, Option.toList, List.nil_append, List.cons_append, List.take, List.drop, List.reverse, List.reverseAux, List.length_cons, List.length_nil, reduceCtorEq, false_implies, true_implies, forall_const, not_true_eq_false, not_false_eq_true, ite_true, ite_false, Bool.false_eq_true, I_I, J_J, Nat.add_left_cancel_iff, Nat.reduceEqDiff, Nat.add_eq_left, Nat.left_eq_add, false_and, and_false, Nat.reduceSub, Nat.sub_self, Nat.le_refl, Nat.zero_le, ge_iff_le, Nat.reduceAdd, Nat.reduceLeDiff, Nat.zero_add, Nat.reduceLT, z_lt, z_le, z_eq, z_l0, z_g0, z_le0, z_ge0, z_e0, z_e1, z_vp, z_nc, z_rem, z_div, i_ltT, i_ltF, i_leT, i_leF, i_eqT, i_eqF, n_ltT, n_ltF, n_leT, n_leF, n_eqT, n_eqF, tn_9, tn_12, tn_14, tn_20, tn_28, tn_44, tn_52, tn_68, tn_84, tn_100, tn_116, tn_132, fu_e, up_eq, ob_0, ob_b, oi_add, oi_sub, oi_mul, oi_neg, Int.add_zero, Int.zero_add, or_true, true_or, or_false, false_or, and_self, z_i2l, z_l2i, lo_nat, lo_add, lo_sub, lo_mul, lo_0, e_rem, mh_J5_append_c97b9]
  refine rt_J5_append_c97b9_48 ?_
  simp (disch := omega) only [wp_c, wp_n, jj_n, v_ct, Int.reduceToNat, Int.toNat_natCast, stE, wlE, lgt, lpu, lpw, v_c2, va_s, true_and, and_true, Option.toList, List.nil_append, List.cons_append, List.take, List.drop, List.reverse, List.reverseAux, List.length_cons, List.length_nil, reduceCtorEq, false_implies, true_implies, forall_const, not_true_eq_false, not_false_eq_true, ite_true, ite_false, Bool.false_eq_true, I_I, J_J, Nat.add_left_cancel_iff, Nat.reduceEqDiff, Nat.add_eq_left, Nat.left_eq_add, false_and, and_false, Nat.reduceSub, Nat.sub_self, Nat.le_refl, Nat.zero_le, ge_iff_le, Nat.reduceAdd, Nat.reduceLeDiff, Nat.zero_add, Nat.reduceLT, z_lt, z_le, z_eq, z_l0, z_g0, z_le0, z_ge0, z_e0, z_e1, z_vp, z_nc, z_rem, z_div, i_ltT, i_ltF, i_leT, i_leF, i_eqT, i_eqF, n_ltT, n_ltF, n_leT, n_leF, n_eqT, n_eqF, tn_9, tn_12, tn_14, tn_20, tn_28, tn_44, tn_52, tn_68, tn_84, tn_100, tn_116, tn_132, fu_e, up_eq, ob_0, ob_b, oi_add, oi_sub, oi_mul, oi_neg, Int.add_zero, Int.zero_add, or_true, true_or, or_false, false_or, and_self, z_i2l, z_l2i, lo_nat, lo_add, lo_sub, lo_mul, lo_0, e_rem, t1', mr_J5_append_c97b9]
  try simp (disch := omega) only [wp_c, wp_n, jj_n, v_ct, Int.reduceToNat, Int.toNat_natCast, stE, wlE, lgt, lpu, lpw, v_c2, va_s, true_and, and_true, Option.toList, List.nil_append, List.cons_append, List.take, List.drop, List.reverse, List.reverseAux, List.length_cons, List.length_nil, reduceCtorEq, false_implies, true_implies, forall_const, not_true_eq_false, not_false_eq_true, ite_true, ite_false, Bool.false_eq_true, I_I, J_J, Nat.add_left_cancel_iff, Nat.reduceEqDiff, Nat.add_eq_left, Nat.left_eq_add, false_and, and_false, Nat.reduceSub, Nat.sub_self, Nat.le_refl, Nat.zero_le, ge_iff_le, Nat.reduceAdd, Nat.reduceLeDiff, Nat.zero_add, Nat.reduceLT, z_lt, z_le, z_eq, z_l0, z_g0, z_le0, z_ge0, z_e0, z_e1, z_vp, z_nc, z_rem, z_div, i_ltT, i_ltF, i_leT, i_leF, i_eqT, i_eqF, n_ltT, n_ltF, n_leT, n_leF, n_eqT, n_eqF, tn_9, tn_12, tn_14, tn_20, tn_28, tn_44, tn_52, tn_68, tn_84, tn_100, tn_116, tn_132, fu_e, up_eq, ob_0, ob_b, oi_add, oi_sub, oi_mul, oi_neg, Int.add_zero, Int.zero_add, or_true, true_or, or_false, false_or, and_self, z_i2l, z_l2i, lo_nat, lo_add, lo_sub, lo_mul, lo_0, e_rem, mr_J4_append_bf812]
  have hpa : ¬ p1 = a := fun e => hap e.symm
  have f2 : FB b w1 (s_I w2 a 3 (Int32.ofInt ((l.length + (dgs x).length : Nat) : Int))) := by
    refine ⟨fun c hc => ?_, ?_⟩
    · have nca : ¬ c = a := UC.no ⟨t2, Or.inl fun z => z.1 t1⟩ hc
      have ncp : ¬ c = p1 := UC.no ⟨u2, Or.inl fun z => z.2 (by rw [hn])⟩ hc
      refine ⟨by rw [sh_I, g3], by rw [R_I, g4], ?_, by rw [J_I, g5]⟩
      funext j
      rw [I_I, if_neg (fun z => nca z.1), g1 c ncp]
    · show w_n w1 ≤ w_n w2; omega
  refine hq _ p1 (k0.grow (e := dgs x) hn (by rw [sh_I]; exact g3) (by rw [R_I]; exact g4) (by show w_n w1 ≤ w_n w2; omega) (by omega) hn3 (by omega) ?_ ?_ (dgs_b hx)) (f1.trans f2)
  · funext i
    rw [I_I, g1 a hap]
    by_cases q : i = 3
    · rw [if_pos ⟨rfl, q⟩, if_pos q]
    · rw [if_neg (fun z => q z.2), if_neg q]
  · intro i
    rw [I_I, if_neg (fun z => hpa z.1)]; exact g2 i
-- 59b.sb
theorem c_cod {j : Nat} {w : mW} {Q : mW → mO → Prop} (hj : j < 16) (hq : Q w (.inl (some (.int (Int32.ofInt 0))))) : CT n_J0_coder_7d493 [.ref (j + 2)] w Q := by
  have l1 : Nat.lt (j + 2) 100 = True := eq_true (show j + 2 < 100 by omega)
  have l2 : Nat.le 100 (j + 2) = False := eq_false (by show ¬ 100 ≤ j + 2; omega)
  have l3 : Nat.le 2 (j + 2) = True := eq_true (show 2 ≤ j + 2 by omega)
  have l4 : Nat.lt (j + 2) 18 = True := eq_true (show j + 2 < 18 by omega)
  refine ct_J0_coder_7d493 (rt_J0_coder_7d493_0 ?_)
  simp (disch := omega) only [wp_c, wp_n, jj_n, v_ct, Int.reduceToNat, Int.toNat_natCast, stE, wlE, lgt, lpu, lpw, v_c2, va_s, true_and, and_true, Option.toList, List.nil_append, List.cons_append, List.take, List.drop, List.reverse, List.reverseAux, List.length_cons, List.length_nil, reduceCtorEq, false_implies, true_implies, forall_const, not_true_eq_false, not_false_eq_true, ite_true, ite_false, Bool.false_eq_true, I_I, J_J, Nat.add_left_cancel_iff, Nat.reduceEqDiff, Nat.add_eq_left, Nat.left_eq_add, false_and, and_false, Nat.reduceSub, Nat.sub_self, Nat.le_refl, Nat.zero_le, ge_iff_le, Nat.reduceAdd, Nat.reduceLeDiff, Nat.zero_add, Nat.reduceLT, z_lt, z_le, z_eq, z_l0, z_g0, z_le0, z_ge0, z_e0, z_e1, z_vp, z_nc, z_rem, z_div, i_ltT, i_ltF, i_leT, i_leF, i_eqT, i_eqF, n_ltT, n_ltF, n_leT, n_leF, n_eqT, n_eqF, tn_9, tn_12, tn_14, tn_20, tn_28, tn_44, tn_52, tn_68, tn_84, tn_100, tn_116, tn_132, fu_e, up_eq, ob_0, ob_b, oi_add, oi_sub, oi_mul, oi_neg, Int.add_zero, Int.zero_add, or_true, true_or, or_false, false_or, and_self, z_i2l, z_l2i, lo_nat, lo_add, lo_sub, lo_mul, lo_0, e_rem, i10, l1, l2, l3, l4]
  refine rt_J0_coder_7d493_14 ?_
  simp (disch := omega) only [wp_c, wp_n, jj_n, v_ct, Int.reduceToNat, Int.toNat_natCast, stE, wlE, lgt, lpu, lpw, v_c2, va_s, true_and, and_true, Option.toList, List.nil_append, List.cons_append, List.take, List.drop, List.reverse, List.reverseAux, List.length_cons, List.length_nil, reduceCtorEq, false_implies, true_implies, forall_const, not_true_eq_false, not_false_eq_true, ite_true, ite_false, Bool.false_eq_true, I_I, J_J, Nat.add_left_cancel_iff, Nat.reduceEqDiff, Nat.add_eq_left, Nat.left_eq_add, false_and, and_false, Nat.reduceSub, Nat.sub_self, Nat.le_refl, Nat.zero_le, ge_iff_le, Nat.reduceAdd, Nat.reduceLeDiff, Nat.zero_add, Nat.reduceLT, z_lt, z_le, z_eq, z_l0, z_g0, z_le0, z_ge0, z_e0, z_e1, z_vp, z_nc, z_rem, z_div, i_ltT, i_ltF, i_leT, i_leF, i_eqT, i_eqF, n_ltT, n_ltF, n_leT, n_leF, n_eqT, n_eqF, tn_9, tn_12, tn_14, tn_20, tn_28, tn_44, tn_52, tn_68, tn_84, tn_100, tn_116, tn_132, fu_e, up_eq, ob_0, ob_b, oi_add, oi_sub, oi_mul, oi_neg, Int.add_zero, Int.zero_add, or_true, true_or, or_false, false_or, and_self, z_i2l, z_l2i, lo_nat, lo_add, lo_sub, lo_mul, lo_0, e_rem, mr_J0_coder_7d493]
  first | exact hq | exact ⟨Or.inl rfl, hq⟩
theorem c_slen {j : Nat} {w : mW} {Q : mW → mO → Prop} (hj : j < 16) (hl : s_len j ≤ 9) (hq : Q w (.inl (some (.int (Int32.ofInt (s_len j)))))) : CT n_J0_length_8abf5 [.ref (j + 2)] w Q := by
  have l1 : Nat.lt (j + 2) 100 = True := eq_true (show j + 2 < 100 by omega)
  have l2 : Nat.le 100 (j + 2) = False := eq_false (by show ¬ 100 ≤ j + 2; omega)
  have l3 : Nat.le 2 (j + 2) = True := eq_true (show 2 ≤ j + 2 by omega)
  have l4 : Nat.lt (j + 2) 18 = True := eq_true (show j + 2 < 18 by omega)
  have m1 : Nat.lt (j + 2 + 50) 100 = True := eq_true (show j + 2 + 50 < 100 by omega)
  have m2 : Nat.le 100 (j + 2 + 50) = False := eq_false (by show ¬ 100 ≤ j + 2 + 50; omega)
  have m3 : Nat.le 52 (j + 2 + 50) = True := eq_true (show 52 ≤ j + 2 + 50 by omega)
  have m4 : Nat.lt (j + 2 + 50) 68 = True := eq_true (show j + 2 + 50 < 68 by omega)
  have e52 : j + 2 + 50 - 52 = j := by omega
  refine ct_J0_length_8abf5 (rt_J0_length_8abf5_0 ?_)
  simp (disch := omega) only [wp_c, wp_n, jj_n, v_ct, Int.reduceToNat, Int.toNat_natCast, stE, wlE, lgt, lpu, lpw, v_c2, va_s, true_and, and_true, Option.toList, List.nil_append, List.cons_append, List.take, List.drop, List.reverse, List.reverseAux, List.length_cons, List.length_nil, reduceCtorEq, false_implies, true_implies, forall_const, not_true_eq_false, not_false_eq_true, ite_true, ite_false, Bool.false_eq_true, I_I, J_J, Nat.add_left_cancel_iff, Nat.reduceEqDiff, Nat.add_eq_left, Nat.left_eq_add, false_and, and_false, Nat.reduceSub, Nat.sub_self, Nat.le_refl, Nat.zero_le, ge_iff_le, Nat.reduceAdd, Nat.reduceLeDiff, Nat.zero_add, Nat.reduceLT, z_lt, z_le, z_eq, z_l0, z_g0, z_le0, z_ge0, z_e0, z_e1, z_vp, z_nc, z_rem, z_div, i_ltT, i_ltF, i_leT, i_leF, i_eqT, i_eqF, n_ltT, n_ltF, n_leT, n_leF, n_eqT, n_eqF, tn_9, tn_12, tn_14, tn_20, tn_28, tn_44, tn_52, tn_68, tn_84, tn_100, tn_116, tn_132, fu_e, up_eq, ob_0, ob_b, oi_add, oi_sub, oi_mul, oi_neg, Int.add_zero, Int.zero_add, or_true, true_or, or_false, false_or, and_self, z_i2l, z_l2i, lo_nat, lo_add, lo_sub, lo_mul, lo_0, e_rem, l1, l2, l3, l4, m1, m2, m3, m4, e52, oi_nat, mh_J0_length_8abf5, or_true]
  try refine ⟨by omega, ?_⟩
  refine c_cod hj ?_
  simp (disch := omega) only [wp_c, wp_n, jj_n, v_ct, Int.reduceToNat, Int.toNat_natCast, stE, wlE, lgt, lpu, lpw, v_c2, va_s, true_and, and_true, Option.toList, List.nil_append, List.cons_append, List.take, List.drop, List.reverse, List.reverseAux, List.length_cons, List.length_nil, reduceCtorEq, false_implies, true_implies, forall_const, not_true_eq_false, not_false_eq_true, ite_true, ite_false, Bool.false_eq_true, I_I, J_J, Nat.add_left_cancel_iff, Nat.reduceEqDiff, Nat.add_eq_left, Nat.left_eq_add, false_and, and_false, Nat.reduceSub, Nat.sub_self, Nat.le_refl, Nat.zero_le, ge_iff_le, Nat.reduceAdd, Nat.reduceLeDiff, Nat.zero_add, Nat.reduceLT, z_lt, z_le, z_eq, z_l0, z_g0, z_le0, z_ge0, z_e0, z_e1, z_vp, z_nc, z_rem, z_div, i_ltT, i_ltF, i_leT, i_leF, i_eqT, i_eqF, n_ltT, n_ltF, n_leT, n_leF, n_eqT, n_eqF, tn_9, tn_12, tn_14, tn_20, tn_28, tn_44, tn_52, tn_68, tn_84, tn_100, tn_116, tn_132, fu_e, up_eq, ob_0, ob_b, oi_add, oi_sub, oi_mul, oi_neg, Int.add_zero, Int.zero_add, or_true, true_or, or_false, false_or, and_self, z_i2l, z_l2i, lo_nat, lo_add, lo_sub, lo_mul, lo_0, e_rem, sr0, mr_J0_length_8abf5]
  exact hq
/-- a word is appended -/
theorem c_apS {b a p j : Nat} {l e : List Int} {w : mW} {Q : mW → mO → Prop} (h : SBu w b a p l) (hb : 100 ≤ b) (hW : TW j e) (hl : l.length + 9 ≤ 400) (hq : ∀ w' p', SBu w' b a p' (l ++ e) → FB b w w' → Q w' (.inl (some (.ref a)))) : CT n_J4_append_15ec4 [.ref a, .ref (j + 2)] w Q := by
  have h0 := h
  obtain ⟨⟨s1, s2, s3⟩, ⟨r1, r2, r3⟩, ⟨v1, v3⟩, -, hl0, -⟩ := h
  obtain ⟨hj, he, he9, hch⟩ := hW
  have l1 : Nat.lt (j + 2) 100 = True := eq_true (show j + 2 < 100 by omega)
  have l2 : Nat.le 100 (j + 2) = False := eq_false (by show ¬ 100 ≤ j + 2; omega)
  have l3 : Nat.le 2 (j + 2) = True := eq_true (show 2 ≤ j + 2 by omega)
  have l4 : Nat.lt (j + 2) 18 = True := eq_true (show j + 2 < 18 by omega)
  have m1 : Nat.lt (j + 2 + 50) 100 = True := eq_true (show j + 2 + 50 < 100 by omega)
  have m2 : Nat.le 100 (j + 2 + 50) = False := eq_false (by show ¬ 100 ≤ j + 2 + 50; omega)
  have m3 : Nat.le 52 (j + 2 + 50) = True := eq_true (show 52 ≤ j + 2 + 50 by omega)
  have m4 : Nat.lt (j + 2 + 50) 68 = True := eq_true (show j + 2 + 50 < 68 by omega)
  have e52 : j + 2 + 50 - 52 = j := by omega
  refine ct_J4_append_15ec4 (rt_J4_append_15ec4_0 ?_)
  simp (disch := omega) only [wp_c, wp_n, jj_n, v_ct, Int.reduceToNat, Int.toNat_natCast, stE, wlE, lgt, lpu, lpw, v_c2, va_s, true_and, and_true, Option.toList, List.nil_append, List.cons_append, List.take, List.drop, List.reverse, List.reverseAux, List.length_cons, List.length_nil, reduceCtorEq, false_implies, true_implies, forall_const, not_true_eq_false, not_false_eq_true, ite_true, ite_false, Bool.false_eq_true, I_I, J_J, Nat.add_left_cancel_iff, Nat.reduceEqDiff, Nat.add_eq_left, Nat.left_eq_add, false_and, and_false, Nat.reduceSub, Nat.sub_self, Nat.le_refl, Nat.zero_le, ge_iff_le, Nat.reduceAdd, Nat.reduceLeDiff, Nat.zero_add, Nat.reduceLT, z_lt, z_le, z_eq, z_l0, z_g0, z_le0, z_ge0, z_e0, z_e1, z_vp, z_nc, z_rem, z_div, i_ltT, i_ltF, i_leT, i_leF, i_eqT, i_eqF, n_ltT, n_ltF, n_leT, n_leF, n_eqT, n_eqF, tn_9, tn_12, tn_14, tn_20, tn_28, tn_44, tn_52, tn_68, tn_84, tn_100, tn_116, tn_132, fu_e, up_eq, ob_0, ob_b, oi_add, oi_sub, oi_mul, oi_neg, Int.add_zero, Int.zero_add, or_true, true_or, or_false, false_or, and_self, z_i2l, z_l2i, lo_nat, lo_add, lo_sub, lo_mul, lo_0, e_rem, s1, mh_J4_append_15ec4]
  refine ct_J5_append_cf1ce (rt_J5_append_cf1ce_0 ?_)
  simp (disch := omega) only [wp_c, wp_n, jj_n, v_ct, Int.reduceToNat, Int.toNat_natCast, stE, wlE, lgt, lpu, lpw, v_c2, va_s, true_and, and_true, Option.toList, List.nil_append, List.cons_append, List.take, List.drop, List.reverse, List.reverseAux, List.length_cons, List.length_nil, reduceCtorEq, false_implies, true_implies, forall_const, not_true_eq_false, not_false_eq_true, ite_true, ite_false, Bool.false_eq_true, I_I, J_J, Nat.add_left_cancel_iff, Nat.reduceEqDiff, Nat.add_eq_left, Nat.left_eq_add, false_and, and_false, Nat.reduceSub, Nat.sub_self, Nat.le_refl, Nat.zero_le, ge_iff_le, Nat.reduceAdd, Nat.reduceLeDiff, Nat.zero_add, Nat.reduceLT, z_lt, z_le, z_eq, z_l0, z_g0, z_le0, z_ge0, z_e0, z_e1, z_vp, z_nc, z_rem, z_div, i_ltT, i_ltF, i_leT, i_leF, i_eqT, i_eqF, n_ltT, n_ltF, n_leT, n_leF, n_eqT, n_eqF, tn_9, tn_12, tn_14, tn_20, tn_28, tn_44, tn_52, tn_68, tn_84, tn_100, tn_116, tn_132, fu_e, up_eq, ob_0, ob_b, oi_add, oi_sub, oi_mul, oi_neg, Int.add_zero, Int.zero_add, or_true, true_or, or_false, false_or, and_self, z_i2l, z_l2i, lo_nat, lo_add, lo_sub, lo_mul, lo_0, e_rem]
  refine rt_J5_append_cf1ce_9 ?_
  simp (disch := omega) only [wp_c, wp_n, jj_n, v_ct, Int.reduceToNat, Int.toNat_natCast, stE, wlE, lgt, lpu, lpw, v_c2, va_s, true_and, and_true, Option.toList, List.nil_append, List.cons_append, List.take, List.drop, List.reverse, List.reverseAux, List.length_cons, List.length_nil, reduceCtorEq, false_implies, true_implies, forall_const, not_true_eq_false, not_false_eq_true, ite_true, ite_false, Bool.false_eq_true, I_I, J_J, Nat.add_left_cancel_iff, Nat.reduceEqDiff, Nat.add_eq_left, Nat.left_eq_add, false_and, and_false, Nat.reduceSub, Nat.sub_self, Nat.le_refl, Nat.zero_le, ge_iff_le, Nat.reduceAdd, Nat.reduceLeDiff, Nat.zero_add, Nat.reduceLT, z_lt, z_le, z_eq, z_l0, z_g0, z_le0, z_ge0, z_e0, z_e1, z_vp, z_nc, z_rem, z_div, i_ltT, i_ltF, i_leT, i_leF, i_eqT, i_eqF, n_ltT, n_ltF, n_leT, n_leF, n_eqT, n_eqF, tn_9, tn_12, tn_14, tn_20, tn_28, tn_44, tn_52, tn_68, tn_84, tn_100, tn_116, tn_132, fu_e, up_eq, ob_0, ob_b, oi_add, oi_sub, oi_mul, oi_neg, Int.add_zero, Int.zero_add, or_true, true_or, or_false, false_or, and_self, z_i2l, z_l2i, lo_nat, lo_add, lo_sub, lo_mul, lo_0, e_rem, l1, l2, l3, l4, or_true, mh_J5_append_cf1ce]
  try refine ⟨by omega, ?_⟩
  refine c_slen hj (by omega) ?_
  have es : (l.length : Int) + (s_len j : Nat) = ((l.length + e.length : Nat) : Int) := by omega
  simp (disch := omega) only [wp_c, wp_n, jj_n, v_ct, Int.reduceToNat, Int.toNat_natCast, stE, wlE, lgt, lpu, lpw, v_c2, va_s, true_and, and_true, Option.toList, List.nil_append, List.cons_append, List.take, List.drop, List.reverse, List.reverseAux, List.length_cons, List.length_nil, reduceCtorEq, false_implies, true_implies, forall_const, not_true_eq_false, not_false_eq_true, ite_true, ite_false, Bool.false_eq_true, I_I, J_J, Nat.add_left_cancel_iff, Nat.reduceEqDiff, Nat.add_eq_left, Nat.left_eq_add, false_and, and_false, Nat.reduceSub, Nat.sub_self, Nat.le_refl, Nat.zero_le, ge_iff_le, Nat.reduceAdd, Nat.reduceLeDiff, Nat.zero_add, Nat.reduceLT, z_lt, z_le, z_eq, z_l0, z_g0, z_le0, z_ge0, z_e0, z_e1, z_vp, z_nc, z_rem, z_div, i_ltT, i_ltF, i_leT, i_leF, i_eqT, i_eqF, n_ltT, n_ltF, n_leT, n_leF, n_eqT, n_eqF, tn_9, tn_12, tn_14, tn_20, tn_28, tn_44, tn_52, tn_68, tn_84, tn_100, tn_116, tn_132, fu_e, up_eq, ob_0, ob_b, oi_add, oi_sub, oi_mul, oi_neg, Int.add_zero, Int.zero_add, or_true, true_or, or_false, false_or, and_self, z_i2l, z_l2i, lo_nat, lo_add, lo_sub, lo_mul, lo_0, e_rem, s1, v3, es, mh_J5_append_cf1ce]
  refine c_ensure h0 hb ⟨by omega, by omega⟩ ?_
  intro w1 p1 n1 k1 f1 hn1 hm1 hk1
  have k0 := k1
  obtain ⟨⟨t1, t2, t3⟩, ⟨u1, u2, u3⟩, ⟨x1, x3⟩, ⟨n, hn, hn2, hn3⟩, hl1, hc1, hf1⟩ := k1
  have enn : n1 = n := by rw [hn] at hn1; exact (congrArg Prod.snd hn1).symm
  have hap : ¬ a = p1 := sh_ne t1 hn
  have hpa : ¬ p1 = a := fun e => hap e.symm
  have hc0 : (Int32.ofInt 0).toNatClampNeg = 0 := by decide
  have hcl : (Int32.ofInt (l.length : Int)).toNatClampNeg = l.length := by rw [oi_nc ⟨by omega, by omega⟩]; omega
  have hce : (Int32.ofInt (s_len j : Int)).toNatClampNeg = e.length := by rw [oi_nc ⟨by omega, by omega⟩]; omega
  simp (disch := omega) only [wp_c, wp_n, jj_n, v_ct, Int.reduceToNat, Int.toNat_natCast, stE, wlE, lgt, lpu, lpw, v_c2, va_s, true_and, and_true, Option.toList, List.nil_append, List.cons_append, List.take, List.drop, List.reverse, List.reverseAux, List.length_cons, List.length_nil, reduceCtorEq, false_implies, true_implies, forall_const, not_true_eq_false, not_false_eq_true, ite_true, ite_false, Bool.false_eq_true, I_I, J_J, Nat.add_left_cancel_iff, Nat.reduceEqDiff, Nat.add_eq_left, Nat.left_eq_add, false_and, and_false, Nat.reduceSub, Nat.sub_self, Nat.le_refl, Nat.zero_le, ge_iff_le, Nat.reduceAdd, Nat.reduceLeDiff, Nat.zero_add, Nat.reduceLT, z_lt, z_le, z_eq, z_l0, z_g0, z_le0, z_ge0, z_e0, z_e1, z_vp, z_nc, z_rem, z_div, i_ltT, i_ltF, i_leT, i_leF, i_eqT, i_eqF, n_ltT, n_ltF, n_leT, n_leF, n_eqT, n_eqF, tn_9, tn_12, tn_14, tn_20, tn_28, tn_44, tn_52, tn_68, tn_84, tn_100, tn_116, tn_132, fu_e, up_eq, ob_0, ob_b, oi_add, oi_sub, oi_mul, oi_neg, Int.add_zero, Int.zero_add, or_true, true_or, or_false, false_or, and_self, z_i2l, z_l2i, lo_nat, lo_add, lo_sub, lo_mul, lo_0, e_rem, t1, x3, mh_J5_append_cf1ce]
  refine ct_J5_putStringAt_47b60 (rt_J5_putStringAt_47b60_0 ?_)
  simp (disch := omega) only [wp_c, wp_n, jj_n, v_ct, Int.reduceToNat, Int.toNat_natCast, stE, wlE, lgt, lpu, lpw, v_c2, va_s, true_and, and_true, Option.toList, List.nil_append, List.cons_append, List.take, List.drop, List.reverse, List.reverseAux, List.length_cons, List.length_nil, reduceCtorEq, false_implies, true_implies, forall_const, not_true_eq_false, not_false_eq_true, ite_true, ite_false, Bool.false_eq_true, I_I, J_J, Nat.add_left_cancel_iff, Nat.reduceEqDiff, Nat.add_eq_left, Nat.left_eq_add, false_and, and_false, Nat.reduceSub, Nat.sub_self, Nat.le_refl, Nat.zero_le, ge_iff_le, Nat.reduceAdd, Nat.reduceLeDiff, Nat.zero_add, Nat.reduceLT, z_lt, z_le, z_eq, z_l0, z_g0, z_le0, z_ge0, z_e0, z_e1, z_vp, z_nc, z_rem, z_div, i_ltT, i_ltF, i_leT, i_leF, i_eqT, i_eqF, n_ltT, n_ltF, n_leT, n_leF, n_eqT, n_eqF, tn_9, tn_12, tn_14, tn_20, tn_28, tn_44, tn_52, tn_68, tn_84, tn_100, tn_116, tn_132, fu_e, up_eq, ob_0, ob_b, oi_add, oi_sub, oi_mul, oi_neg, Int.add_zero, Int.zero_add, or_true, true_or, or_false, false_or, and_self, z_i2l, z_l2i, lo_nat, lo_add, lo_sub, lo_mul, lo_0, e_rem, t1, mh_J5_putStringAt_47b60]
  refine ct_J5_inflateIfNeededFor_a7421 (rt_J5_inflateIfNeededFor_a7421_0 ?_)
  simp (disch := omega) only [wp_c, wp_n, jj_n, v_ct, Int.reduceToNat, Int.toNat_natCast, stE, wlE, lgt, lpu, lpw, v_c2, va_s, true_and, and_true, Option.toList, List.nil_append, List.cons_append, List.take, List.drop, List.reverse, List.reverseAux, List.length_cons, List.length_nil, reduceCtorEq, false_implies, true_implies, forall_const, not_true_eq_false, not_false_eq_true, ite_true, ite_false, Bool.false_eq_true, I_I, J_J, Nat.add_left_cancel_iff, Nat.reduceEqDiff, Nat.add_eq_left, Nat.left_eq_add, false_and, and_false, Nat.reduceSub, Nat.sub_self, Nat.le_refl, Nat.zero_le, ge_iff_le, Nat.reduceAdd, Nat.reduceLeDiff, Nat.zero_add, Nat.reduceLT, z_lt, z_le, z_eq, z_l0, z_g0, z_le0, z_ge0, z_e0, z_e1, z_vp, z_nc, z_rem, z_div, i_ltT, i_ltF, i_leT, i_leF, i_eqT, i_eqF, n_ltT, n_ltF, n_leT, n_leF, n_eqT, n_eqF, tn_9, tn_12, tn_14, tn_20, tn_28, tn_44, tn_52, tn_68, tn_84, tn_100, tn_116, tn_132, fu_e, up_eq, ob_0, ob_b, oi_add, oi_sub, oi_mul, oi_neg, Int.add_zero, Int.zero_add, or_true, true_or, or_false, false_or, and_self, z_i2l, z_l2i, lo_nat, lo_add, lo_sub, lo_mul, lo_0, e_rem, i10, t1, x1, l1, l2, l3, l4, or_true, mh_J5_inflateIfNeededFor_a7421]
  try refine ⟨by omega, ?_⟩
  refine c_cod hj ?_
  simp (disch := omega) only [wp_c, wp_n, jj_n, v_ct, Int.reduceToNat, Int.toNat_natCast, stE, wlE, lgt, lpu, lpw, v_c2, va_s, true_and, and_true, Option.toList, List.nil_append, List.cons_append, List.take, List.drop, List.reverse, List.reverseAux, List.length_cons, List.length_nil, reduceCtorEq, false_implies, true_implies, forall_const, not_true_eq_false, not_false_eq_true, ite_true, ite_false, Bool.false_eq_true, I_I, J_J, Nat.add_left_cancel_iff, Nat.reduceEqDiff, Nat.add_eq_left, Nat.left_eq_add, false_and, and_false, Nat.reduceSub, Nat.sub_self, Nat.le_refl, Nat.zero_le, ge_iff_le, Nat.reduceAdd, Nat.reduceLeDiff, Nat.zero_add, Nat.reduceLT, z_lt, z_le, z_eq, z_l0, z_g0, z_le0, z_ge0, z_e0, z_e1, z_vp, z_nc, z_rem, z_div, i_ltT, i_ltF, i_leT, i_leF, i_eqT, i_eqF, n_ltT, n_ltF, n_leT, n_leF, n_eqT, n_eqF, tn_9, tn_12, tn_14, tn_20, tn_28, tn_44, tn_52, tn_68, tn_84, tn_100, tn_116, tn_132, fu_e, up_eq, ob_0, ob_b, oi_add, oi_sub, oi_mul, oi_neg, Int.add_zero, Int.zero_add, or_true, true_or, or_false, false_or, and_self, z_i2l, z_l2i, lo_nat, lo_add, lo_sub, lo_mul, lo_0, e_rem, mh_J5_inflateIfNeededFor_a7421]
  refine rt_J5_inflateIfNeededFor_a7421_21 ?_
  simp (disch := omega) only [wp_c, wp_n, jj_n, v_ct, Int.reduceToNat, Int.toNat_natCast, stE, wlE, lgt, lpu, lpw, v_c2, va_s, true_and, and_true, Option.toList, List.nil_append, List.cons_append, List.take, List.drop, List.reverse, List.reverseAux, List.length_cons, List.length_nil, reduceCtorEq, false_implies, true_implies, forall_const, not_true_eq_false, not_false_eq_true, ite_true, ite_false, Bool.false_eq_true, I_I, J_J, Nat.add_left_cancel_iff, Nat.reduceEqDiff, Nat.add_eq_left, Nat.left_eq_add, false_and, and_false, Nat.reduceSub, Nat.sub_self, Nat.le_refl, Nat.zero_le, ge_iff_le, Nat.reduceAdd, Nat.reduceLeDiff, Nat.zero_add, Nat.reduceLT, z_lt, z_le, z_eq, z_l0, z_g0, z_le0, z_ge0, z_e0, z_e1, z_vp, z_nc, z_rem, z_div, i_ltT, i_ltF, i_leT, i_leF, i_eqT, i_eqF, n_ltT, n_ltF, n_leT, n_leF, n_eqT, n_eqF, tn_9, tn_12, tn_14, tn_20, tn_28, tn_44, tn_52, tn_68, tn_84, tn_100, tn_116, tn_132, fu_e, up_eq, ob_0, ob_b, oi_add, oi_sub, oi_mul, oi_neg, Int.add_zero, Int.zero_add, or_true, true_or, or_false, false_or, and_self, z_i2l, z_l2i, lo_nat, lo_add, lo_sub, lo_mul, lo_0, e_rem, t1, u1, x1, l1, l2, l3, l4, or_true, mh_J5_putStringAt_47b60]
  try refine ⟨by omega, ?_⟩
  refine ct_J0_getBytes_840e7 (rt_J0_getBytes_840e7_0 ?_)
  simp (disch := omega) only [wp_c, wp_n, jj_n, v_ct, Int.reduceToNat, Int.toNat_natCast, stE, wlE, lgt, lpu, lpw, v_c2, va_s, true_and, and_true, Option.toList, List.nil_append, List.cons_append, List.take, List.drop, List.reverse, List.reverseAux, List.length_cons, List.length_nil, reduceCtorEq, false_implies, true_implies, forall_const, not_true_eq_false, not_false_eq_true, ite_true, ite_false, Bool.false_eq_true, I_I, J_J, Nat.add_left_cancel_iff, Nat.reduceEqDiff, Nat.add_eq_left, Nat.left_eq_add, false_and, and_false, Nat.reduceSub, Nat.sub_self, Nat.le_refl, Nat.zero_le, ge_iff_le, Nat.reduceAdd, Nat.reduceLeDiff, Nat.zero_add, Nat.reduceLT, z_lt, z_le, z_eq, z_l0, z_g0, z_le0, z_ge0, z_e0, z_e1, z_vp, z_nc, z_rem, z_div, i_ltT, i_ltF, i_leT, i_leF, i_eqT, i_eqF, n_ltT, n_ltF, n_leT, n_leF, n_eqT, n_eqF, tn_9, tn_12, tn_14, tn_20, tn_28, tn_44, tn_52, tn_68, tn_84, tn_100, tn_116, tn_132, fu_e, up_eq, ob_0, ob_b, oi_add, oi_sub, oi_mul, oi_neg, Int.add_zero, Int.zero_add, or_true, true_or, or_false, false_or, and_self, z_i2l, z_l2i, lo_nat, lo_add, lo_sub, lo_mul, lo_0, e_rem, l1, l2, l3, l4, or_true, mh_J0_getBytes_840e7]
  try refine ⟨by omega, ?_⟩
  refine c_cod hj ?_
  have np1 : Nat.lt p1 100 = False := eq_false (by show ¬ p1 < 100; omega)
  simp (disch := omega) only [wp_c, wp_n, jj_n, v_ct, Int.reduceToNat, Int.toNat_natCast, stE, wlE, lgt, lpu, lpw, v_c2, va_s, true_and, and_true, Option.toList, List.nil_append, List.cons_append, List.take, List.drop, List.reverse, List.reverseAux, List.length_cons, List.length_nil, reduceCtorEq, false_implies, true_implies, forall_const, not_true_eq_false, not_false_eq_true, ite_true, ite_false, Bool.false_eq_true, I_I, J_J, Nat.add_left_cancel_iff, Nat.reduceEqDiff, Nat.add_eq_left, Nat.left_eq_add, false_and, and_false, Nat.reduceSub, Nat.sub_self, Nat.le_refl, Nat.zero_le, ge_iff_le, Nat.reduceAdd, Nat.reduceLeDiff, Nat.zero_add, Nat.reduceLT, z_lt, z_le, z_eq, z_l0, z_g0, z_le0, z_ge0, z_e0, z_e1, z_vp, z_nc, z_rem, z_div, i_ltT, i_ltF, i_leT, i_leF, i_eqT, i_eqF, n_ltT, n_ltF, n_leT, n_leF, n_eqT, n_eqF, tn_9, tn_12, tn_14, tn_20, tn_28, tn_44, tn_52, tn_68, tn_84, tn_100, tn_116, tn_132, fu_e, up_eq, ob_0, ob_b, oi_add, oi_sub, oi_mul, oi_neg, Int.add_zero, Int.zero_add, or_true, true_or, or_false, false_or, and_self, z_i2l, z_l2i, lo_nat, lo_add, lo_sub, lo_mul, lo_0, e_rem, l1, l2, l3, l4, m1, m2, m3, m4, e52, oi_nat, sl0, hn, hc0, hcl, hce, mh_J0_getBytes_840e7]
  try refine ⟨by omega, ?_⟩
  refine rt_J0_getBytes_840e7_43 ?_
  simp (disch := omega) only [wp_c, wp_n, jj_n, v_ct, Int.reduceToNat, Int.toNat_natCast, stE, wlE, lgt, lpu, lpw, v_c2, va_s, true_and, and_true, Option.toList, List.nil_append, List.cons_append, List.take, List.drop, List.reverse, List.reverseAux, List.length_cons, List.length_nil, reduceCtorEq, false_implies, true_implies, forall_const, not_true_eq_false, not_false_eq_true, ite_true, ite_false, Bool.false_eq_true, I_I, J_J, Nat.add_left_cancel_iff, Nat.reduceEqDiff, Nat.add_eq_left, Nat.left_eq_add, false_and, and_false, Nat.reduceSub, Nat.sub_self, Nat.le_refl, Nat.zero_le, ge_iff_le, Nat.reduceAdd, Nat.reduceLeDiff, Nat.zero_add, Nat.reduceLT, z_lt, z_le, z_eq, z_l0, z_g0, z_le0, z_ge0, z_e0, z_e1, z_vp, z_nc, z_rem, z_div, i_ltT, i_ltF, i_leT, i_leF, i_eqT, i_eqF, n_ltT, n_ltF, n_leT, n_leF, n_eqT, n_eqF, tn_9, tn_12, tn_14, tn_20, tn_28, tn_44, tn_52, tn_68, tn_84, tn_100, tn_116, tn_132, fu_e, up_eq, ob_0, ob_b, oi_add, oi_sub, oi_mul, oi_neg, Int.add_zero, Int.zero_add, or_true, true_or, or_false, false_or, and_self, z_i2l, z_l2i, lo_nat, lo_add, lo_sub, lo_mul, lo_0, e_rem, A_sh, A_R, t1]
  have eIa : w_I (s_A w1 p1 (va_cpy (s_ch j) (w_I w1 p1) 0 l.length e.length)) a = w_I w1 a := by rw [A_I, if_neg hap]
  simp (disch := omega) only [wp_c, wp_n, jj_n, v_ct, Int.reduceToNat, Int.toNat_natCast, stE, wlE, lgt, lpu, lpw, v_c2, va_s, true_and, and_true, Option.toList, List.nil_append, List.cons_append, List.take, List.drop, List.reverse, List.reverseAux, List.length_cons, List.length_nil, reduceCtorEq, false_implies, true_implies, forall_const, not_true_eq_false, not_false_eq_true, ite_true, ite_false, Bool.false_eq_true, I_I, J_J, Nat.add_left_cancel_iff, Nat.reduceEqDiff, Nat.add_eq_left, Nat.left_eq_add, false_and, and_false, Nat.reduceSub, Nat.sub_self, Nat.le_refl, Nat.zero_le, ge_iff_le, Nat.reduceAdd, Nat.reduceLeDiff, Nat.zero_add, Nat.reduceLT, z_lt, z_le, z_eq, z_l0, z_g0, z_le0, z_ge0, z_e0, z_e1, z_vp, z_nc, z_rem, z_div, i_ltT, i_ltF, i_leT, i_leF, i_eqT, i_eqF, n_ltT, n_ltF, n_leT, n_leF, n_eqT, n_eqF, tn_9, tn_12, tn_14, tn_20, tn_28, tn_44, tn_52, tn_68, tn_84, tn_100, tn_116, tn_132, fu_e, up_eq, ob_0, ob_b, oi_add, oi_sub, oi_mul, oi_neg, Int.add_zero, Int.zero_add, or_true, true_or, or_false, false_or, and_self, z_i2l, z_l2i, lo_nat, lo_add, lo_sub, lo_mul, lo_0, e_rem, A_sh, A_R, t1, eIa, x3, es, mr_J5_append_cf1ce, mr_J4_append_15ec4]
  have f2 : FB b w1 (s_I (s_A w1 p1 (va_cpy (s_ch j) (w_I w1 p1) 0 l.length e.length)) a 3 (Int32.ofInt ((l.length + e.length : Nat) : Int))) := ((FB.refl _ _).A ⟨u2, Or.inl fun z => z.2 (by rw [hn])⟩).I ⟨t2, Or.inl fun z => z.1 t1⟩
  refine hq _ p1 (k0.grow (e := e) hn rfl rfl (Nat.le_refl _) (by omega) hn3 (by omega) ?_ ?_ (fun i hi => (hch i hi).2)) (f1.trans f2)
  · funext i
    rw [I_I, A_I, if_neg hap]
    by_cases q : i = 3
    · rw [if_pos ⟨rfl, q⟩, if_pos q]
    · rw [if_neg (fun z => q z.2), if_neg q]
  · intro i
    rw [I_I, if_neg (fun z => hpa z.1), A_I, if_pos rfl, cpy_g]
    by_cases q : l.length ≤ i ∧ i < l.length + e.length
    · rw [if_pos q, if_pos q, Nat.zero_add]; exact (hch _ (by omega)).1
    · rw [if_neg q, if_neg q]
-- 59c.sb
/-! a new builder, and the text it gives -/
theorem c_len5 {b a p : Nat} {l : List Int} {w : mW} {Q : mW → mO → Prop} (h : SBu w b a p l) (hq : Q w (.inl (some (.int (Int32.ofInt l.length))))) : CT n_J5_length_8abf5 [.ref a] w Q := by
  obtain ⟨⟨s1, s2, s3⟩, ⟨r1, r2, r3⟩, ⟨v1, v3⟩, -⟩ := h
  refine ct_J5_length_8abf5 (rt_J5_length_8abf5_0 ?_)
  simp (disch := omega) only [wp_c, wp_n, jj_n, v_ct, Int.reduceToNat, Int.toNat_natCast, stE, wlE, lgt, lpu, lpw, v_c2, va_s, true_and, and_true, Option.toList, List.nil_append, List.cons_append, List.take, List.drop, List.reverse, List.reverseAux, List.length_cons, List.length_nil, reduceCtorEq, false_implies, true_implies, forall_const, not_true_eq_false, not_false_eq_true, ite_true, ite_false, Bool.false_eq_true, I_I, J_J, Nat.add_left_cancel_iff, Nat.reduceEqDiff, Nat.add_eq_left, Nat.left_eq_add, false_and, and_false, Nat.reduceSub, Nat.sub_self, Nat.le_refl, Nat.zero_le, ge_iff_le, Nat.reduceAdd, Nat.reduceLeDiff, Nat.zero_add, Nat.reduceLT, z_lt, z_le, z_eq, z_l0, z_g0, z_le0, z_ge0, z_e0, z_e1, z_vp, z_nc, z_rem, z_div, i_ltT, i_ltF, i_leT, i_leF, i_eqT, i_eqF, n_ltT, n_ltF, n_leT, n_leF, n_eqT, n_eqF, tn_9, tn_12, tn_14, tn_20, tn_28, tn_44, tn_52, tn_68, tn_84, tn_100, tn_116, tn_132, fu_e, up_eq, ob_0, ob_b, oi_add, oi_sub, oi_mul, oi_neg, Int.add_zero, Int.zero_add, or_true, true_or, or_false, false_or, and_self, z_i2l, z_l2i, lo_nat, lo_add, lo_sub, lo_mul, lo_0, e_rem, s1, v3, mr_J5_length_8abf5]
  exact hq
theorem c_len4 {b a p : Nat} {l : List Int} {w : mW} {Q : mW → mO → Prop} (h : SBu w b a p l) (hq : Q w (.inl (some (.int (Int32.ofInt l.length))))) : CT n_J4_length_8abf5 [.ref a] w Q := by
  refine ct_J4_length_8abf5 (rt_J4_length_8abf5_0 ?_)
  simp (disch := omega) only [wp_c, wp_n, jj_n, v_ct, Int.reduceToNat, Int.toNat_natCast, stE, wlE, lgt, lpu, lpw, v_c2, va_s, true_and, and_true, Option.toList, List.nil_append, List.cons_append, List.take, List.drop, List.reverse, List.reverseAux, List.length_cons, List.length_nil, reduceCtorEq, false_implies, true_implies, forall_const, not_true_eq_false, not_false_eq_true, ite_true, ite_false, Bool.false_eq_true, I_I, J_J, Nat.add_left_cancel_iff, Nat.reduceEqDiff, Nat.add_eq_left, Nat.left_eq_add, false_and, and_false, Nat.reduceSub, Nat.sub_self, Nat.le_refl, Nat.zero_le, ge_iff_le, Nat.reduceAdd, Nat.reduceLeDiff, Nat.zero_add, Nat.reduceLT, z_lt, z_le, z_eq, z_l0, z_g0, z_le0, z_ge0, z_e0, z_e1, z_vp, z_nc, z_rem, z_div, i_ltT, i_ltF, i_leT, i_leF, i_eqT, i_eqF, n_ltT, n_ltF, n_leT, n_leF, n_eqT, n_eqF, tn_9, tn_12, tn_14, tn_20, tn_28, tn_44, tn_52, tn_68, tn_84, tn_100, tn_116, tn_132, fu_e, up_eq, ob_0, ob_b, oi_add, oi_sub, oi_mul, oi_neg, Int.add_zero, Int.zero_add, or_true, true_or, or_false, false_or, and_self, z_i2l, z_l2i, lo_nat, lo_add, lo_sub, lo_mul, lo_0, e_rem, h.1.1, mh_J4_length_8abf5]
  refine c_len5 h ?_
  simp (disch := omega) only [wp_c, wp_n, jj_n, v_ct, Int.reduceToNat, Int.toNat_natCast, stE, wlE, lgt, lpu, lpw, v_c2, va_s, true_and, and_true, Option.toList, List.nil_append, List.cons_append, List.take, List.drop, List.reverse, List.reverseAux, List.length_cons, List.length_nil, reduceCtorEq, false_implies, true_implies, forall_const, not_true_eq_false, not_false_eq_true, ite_true, ite_false, Bool.false_eq_true, I_I, J_J, Nat.add_left_cancel_iff, Nat.reduceEqDiff, Nat.add_eq_left, Nat.left_eq_add, false_and, and_false, Nat.reduceSub, Nat.sub_self, Nat.le_refl, Nat.zero_le, ge_iff_le, Nat.reduceAdd, Nat.reduceLeDiff, Nat.zero_add, Nat.reduceLT, z_lt, z_le, z_eq, z_l0, z_g0, z_le0, z_ge0, z_e0, z_e1, z_vp, z_nc, z_rem, z_div, i_ltT, i_ltF, i_leT, i_leF, i_eqT, i_eqF, n_ltT, n_ltF, n_leT, n_leF, n_eqT, n_eqF, tn_9, tn_12, tn_14, tn_20, tn_28, tn_44, tn_52, tn_68, tn_84, tn_100, tn_116, tn_132, fu_e, up_eq, ob_0, ob_b, oi_add, oi_sub, oi_mul, oi_neg, Int.add_zero, Int.zero_add, or_true, true_or, or_false, false_or, and_self, z_i2l, z_l2i, lo_nat, lo_add, lo_sub, lo_mul, lo_0, e_rem, mr_J4_length_8abf5]
  exact hq
theorem c_sbnew {b a : Nat} {w : mW} {Q : mW → mO → Prop} (hs : w_sh w a = (0, 12)) (ha : b ≤ a ∧ a < 100 + w_n w) (h0 : w_I w a = fun _ => 0) (hq : ∀ w' p', SBu w' b a p' [] → FB b w w' → Q w' (.inl none)) : CT n_J4_init_da8c8 [.ref a] w Q := by
  have c16 : (Int32.ofInt 16).toNatClampNeg = 16 := by decide
  refine ct_J4_init_da8c8 (rt_J4_init_da8c8_0 ?_)
  simp (disch := omega) only [wp_c, wp_n, jj_n, v_ct, Int.reduceToNat, Int.toNat_natCast, stE, wlE, lgt, lpu, lpw, v_c2, va_s, true_and, and_true, Option.toList, List.nil_append, List.cons_append, List.take, List.drop, List.reverse, List.reverseAux, List.length_cons, List.length_nil, reduceCtorEq, false_implies, true_implies, forall_const, not_true_eq_false, not_false_eq_true, ite_true, ite_false, Bool.false_eq_true, I_I, J_J, Nat.add_left_cancel_iff, Nat.reduceEqDiff, Nat.add_eq_left, Nat.left_eq_add, false_and, and_false, Nat.reduceSub, Nat.sub_self, Nat.le_refl, Nat.zero_le, ge_iff_le, Nat.reduceAdd, Nat.reduceLeDiff, Nat.zero_add, Nat.reduceLT, z_lt, z_le, z_eq, z_l0, z_g0, z_le0, z_ge0, z_e0, z_e1, z_vp, z_nc, z_rem, z_div, i_ltT, i_ltF, i_leT, i_leF, i_eqT, i_eqF, n_ltT, n_ltF, n_leT, n_leF, n_eqT, n_eqF, tn_9, tn_12, tn_14, tn_20, tn_28, tn_44, tn_52, tn_68, tn_84, tn_100, tn_116, tn_132, fu_e, up_eq, ob_0, ob_b, oi_add, oi_sub, oi_mul, oi_neg, Int.add_zero, Int.zero_add, or_true, true_or, or_false, false_or, and_self, z_i2l, z_l2i, lo_nat, lo_add, lo_sub, lo_mul, lo_0, e_rem, mh_J4_init_da8c8]
  refine ct_J5_init_d00df (rt_J5_init_d00df_0 ?_)
  simp (disch := omega) only [wp_c, wp_n, jj_n, v_ct, Int.reduceToNat, Int.toNat_natCast, stE, wlE, lgt, lpu, lpw, v_c2, va_s, true_and, and_true, Option.toList, List.nil_append, List.cons_append, List.take, List.drop, List.reverse, List.reverseAux, List.length_cons, List.length_nil, reduceCtorEq, false_implies, true_implies, forall_const, not_true_eq_false, not_false_eq_true, ite_true, ite_false, Bool.false_eq_true, I_I, J_J, Nat.add_left_cancel_iff, Nat.reduceEqDiff, Nat.add_eq_left, Nat.left_eq_add, false_and, and_false, Nat.reduceSub, Nat.sub_self, Nat.le_refl, Nat.zero_le, ge_iff_le, Nat.reduceAdd, Nat.reduceLeDiff, Nat.zero_add, Nat.reduceLT, z_lt, z_le, z_eq, z_l0, z_g0, z_le0, z_ge0, z_e0, z_e1, z_vp, z_nc, z_rem, z_div, i_ltT, i_ltF, i_leT, i_leF, i_eqT, i_eqF, n_ltT, n_ltF, n_leT, n_leF, n_eqT, n_eqF, tn_9, tn_12, tn_14, tn_20, tn_28, tn_44, tn_52, tn_68, tn_84, tn_100, tn_116, tn_132, fu_e, up_eq, ob_0, ob_b, oi_add, oi_sub, oi_mul, oi_neg, Int.add_zero, Int.zero_add, or_true, true_or, or_false, false_or, and_self, z_i2l, z_l2i, lo_nat, lo_add, lo_sub, lo_mul, lo_0, e_rem, i10, c16]
  intro q hq0
  have na : ¬ a = 100 + q := by omega
  have naq : ¬ 100 + q = a := by omega
  simp (disch := omega) only [wp_c, wp_n, jj_n, v_ct, Int.reduceToNat, Int.toNat_natCast, stE, wlE, lgt, lpu, lpw, v_c2, va_s, true_and, and_true, Option.toList, List.nil_append, List.cons_append, List.take, List.drop, List.reverse, List.reverseAux, List.length_cons, List.length_nil, reduceCtorEq, false_implies, true_implies, forall_const, not_true_eq_false, not_false_eq_true, ite_true, ite_false, Bool.false_eq_true, I_I, J_J, Nat.add_left_cancel_iff, Nat.reduceEqDiff, Nat.add_eq_left, Nat.left_eq_add, false_and, and_false, Nat.reduceSub, Nat.sub_self, Nat.le_refl, Nat.zero_le, ge_iff_le, Nat.reduceAdd, Nat.reduceLeDiff, Nat.zero_add, Nat.reduceLT, z_lt, z_le, z_eq, z_l0, z_g0, z_le0, z_ge0, z_e0, z_e1, z_vp, z_nc, z_rem, z_div, i_ltT, i_ltF, i_leT, i_leF, i_eqT, i_eqF, n_ltT, n_ltF, n_leT, n_leF, n_eqT, n_eqF, tn_9, tn_12, tn_14, tn_20, tn_28, tn_44, tn_52, tn_68, tn_84, tn_100, tn_116, tn_132, fu_e, up_eq, ob_0, ob_b, oi_add, oi_sub, oi_mul, oi_neg, Int.add_zero, Int.zero_add, or_true, true_or, or_false, false_or, and_self, z_i2l, z_l2i, lo_nat, lo_add, lo_sub, lo_mul, lo_0, e_rem, NK_shn na, R_sh, hs]
  refine rt_J5_init_d00df_38 ?_
  simp (disch := omega) only [wp_c, wp_n, jj_n, v_ct, Int.reduceToNat, Int.toNat_natCast, stE, wlE, lgt, lpu, lpw, v_c2, va_s, true_and, and_true, Option.toList, List.nil_append, List.cons_append, List.take, List.drop, List.reverse, List.reverseAux, List.length_cons, List.length_nil, reduceCtorEq, false_implies, true_implies, forall_const, not_true_eq_false, not_false_eq_true, ite_true, ite_false, Bool.false_eq_true, I_I, J_J, Nat.add_left_cancel_iff, Nat.reduceEqDiff, Nat.add_eq_left, Nat.left_eq_add, false_and, and_false, Nat.reduceSub, Nat.sub_self, Nat.le_refl, Nat.zero_le, ge_iff_le, Nat.reduceAdd, Nat.reduceLeDiff, Nat.zero_add, Nat.reduceLT, z_lt, z_le, z_eq, z_l0, z_g0, z_le0, z_ge0, z_e0, z_e1, z_vp, z_nc, z_rem, z_div, i_ltT, i_ltF, i_leT, i_leF, i_eqT, i_eqF, n_ltT, n_ltF, n_leT, n_leF, n_eqT, n_eqF, tn_9, tn_12, tn_14, tn_20, tn_28, tn_44, tn_52, tn_68, tn_84, tn_100, tn_116, tn_132, fu_e, up_eq, ob_0, ob_b, oi_add, oi_sub, oi_mul, oi_neg, Int.add_zero, Int.zero_add, or_true, true_or, or_false, false_or, and_self, z_i2l, z_l2i, lo_nat, lo_add, lo_sub, lo_mul, lo_0, e_rem]
  refine hq _ (100 + q) ⟨⟨?_, ha.1, ?_⟩, ⟨?_, by omega, ?_⟩, ⟨?_, ?_⟩, ⟨16, ?_, by simp, by omega⟩, by simp, fun i hi => absurd hi (by simp), fun i => ?_⟩ ((((FB.refl _ _).N hq0 (by omega)).R ⟨ha.1, Or.inl fun z => z.1 hs⟩).I ⟨ha.1, Or.inl fun z => z.1 hs⟩)
  · rw [sh_I, R_sh, NK_shn na]; exact hs
  · show a < 100 + (q + 1); omega
  · rw [R_I, R_R, if_pos ⟨rfl, rfl⟩]
  · show 100 + q < 100 + (q + 1); omega
  · rw [I_I, if_pos ⟨rfl, rfl⟩]
  · rw [I_I, if_neg (by omega), R_Ic, N_Ic, K_n, if_neg na, K_I, h0]; rfl
  · rw [sh_I, R_sh, NK_sh]
  · rw [I_I, if_neg (fun z => naq z.1), R_Ic, N_Ic, K_n, if_pos rfl]; decide
/-- a text in a cell -/
def STR (w : mW) (s p : Nat) (l : List Int) : Prop := (w_sh w s = (0, 11) ∧ 100 ≤ s ∧ s < 100 + w_n w) ∧ (w_R w s 0 = some p ∧ 100 ≤ p ∧ p < 100 + w_n w) ∧ w_I w s 1 = Int32.ofInt 0 ∧ w_sh w p = (3, l.length) ∧ l.length ≤ 400 ∧ ∀ i, i < l.length → w_I w p i = Int32.ofInt (l.getD i 0) ∧ 0 ≤ l.getD i 0 ∧ l.getD i 0 ≤ 127
theorem c_clen {x y : Int} {w : mW} {Q : mW → mO → Prop} (h : 0 ≤ x ∧ x ≤ y ∧ y ≤ 1000) (hq : Q w (.inl none)) : CT n_J7_checkLength_df160 [.int (Int32.ofInt x), .int (Int32.ofInt y)] w Q := by
  refine ct_J7_checkLength_df160 (rt_J7_checkLength_df160_0 ?_)
  simp (disch := omega) only [wp_c, wp_n, jj_n, v_ct, Int.reduceToNat, Int.toNat_natCast, stE, wlE, lgt, lpu, lpw, v_c2, va_s, true_and, and_true, Option.toList, List.nil_append, List.cons_append, List.take, List.drop, List.reverse, List.reverseAux, List.length_cons, List.length_nil, reduceCtorEq, false_implies, true_implies, forall_const, not_true_eq_false, not_false_eq_true, ite_true, ite_false, Bool.false_eq_true, I_I, J_J, Nat.add_left_cancel_iff, Nat.reduceEqDiff, Nat.add_eq_left, Nat.left_eq_add, false_and, and_false, Nat.reduceSub, Nat.sub_self, Nat.le_refl, Nat.zero_le, ge_iff_le, Nat.reduceAdd, Nat.reduceLeDiff, Nat.zero_add, Nat.reduceLT, z_lt, z_le, z_eq, z_l0, z_g0, z_le0, z_ge0, z_e0, z_e1, z_vp, z_nc, z_rem, z_div, i_ltT, i_ltF, i_leT, i_leF, i_eqT, i_eqF, n_ltT, n_ltF, n_leT, n_leF, n_eqT, n_eqF, tn_9, tn_12, tn_14, tn_20, tn_28, tn_44, tn_52, tn_68, tn_84, tn_100, tn_116, tn_132, fu_e, up_eq, ob_0, ob_b, oi_add, oi_sub, oi_mul, oi_neg, Int.add_zero, Int.zero_add, or_true, true_or, or_false, false_or, and_self, z_i2l, z_l2i, lo_nat, lo_add, lo_sub, lo_mul, lo_0, e_rem]
  refine rt_J7_checkLength_df160_37 ?_
  simp (disch := omega) only [wp_c, wp_n, jj_n, v_ct, Int.reduceToNat, Int.toNat_natCast, stE, wlE, lgt, lpu, lpw, v_c2, va_s, true_and, and_true, Option.toList, List.nil_append, List.cons_append, List.take, List.drop, List.reverse, List.reverseAux, List.length_cons, List.length_nil, reduceCtorEq, false_implies, true_implies, forall_const, not_true_eq_false, not_false_eq_true, ite_true, ite_false, Bool.false_eq_true, I_I, J_J, Nat.add_left_cancel_iff, Nat.reduceEqDiff, Nat.add_eq_left, Nat.left_eq_add, false_and, and_false, Nat.reduceSub, Nat.sub_self, Nat.le_refl, Nat.zero_le, ge_iff_le, Nat.reduceAdd, Nat.reduceLeDiff, Nat.zero_add, Nat.reduceLT, z_lt, z_le, z_eq, z_l0, z_g0, z_le0, z_ge0, z_e0, z_e1, z_vp, z_nc, z_rem, z_div, i_ltT, i_ltF, i_leT, i_leF, i_eqT, i_eqF, n_ltT, n_ltF, n_leT, n_leF, n_eqT, n_eqF, tn_9, tn_12, tn_14, tn_20, tn_28, tn_44, tn_52, tn_68, tn_84, tn_100, tn_116, tn_132, fu_e, up_eq, ob_0, ob_b, oi_add, oi_sub, oi_mul, oi_neg, Int.add_zero, Int.zero_add, or_true, true_or, or_false, false_or, and_self, z_i2l, z_l2i, lo_nat, lo_add, lo_sub, lo_mul, lo_0, e_rem]
  exact hq
/-- a part of bytes, from the first on -/
theorem c_cor {p n k : Nat} {w : mW} {Q : mW → mO → Prop} (hs : w_sh w p = (3, n)) (h1 : 100 ≤ p ∧ p < 100 + w_n w) (hk : k ≤ n ∧ n ≤ 1000) (hf : ∀ i, fits .byte (.int (w_I w p i)) = true)
  (hq : ∀ w' q, w_n w ≤ q → w_n w' = q + 1 → w_sh w' (100 + q) = (3, k) → (∀ i, i < k → w_I w' (100 + q) i = w_I w p i) → (∀ c, ¬ c = 100 + q → w_sh w' c = w_sh w c ∧ w_R w' c = w_R w c ∧ w_I w' c = w_I w c ∧ w_J w' c = w_J w c) → Q w' (.inl (some (.ref (100 + q))))) : CT n_J7_copyOfRange_39247 [.ref p, .int (Int32.ofInt 0), .int (Int32.ofInt k)] w Q := by
  have hc : (Int32.ofInt (k : Int)).toNatClampNeg = k := by rw [oi_nc ⟨by omega, by omega⟩]; omega
  have hc0 : (Int32.ofInt 0).toNatClampNeg = 0 := by decide
  refine ct_J7_copyOfRange_39247 (rt_J7_copyOfRange_39247_0 ?_)
  by_cases e : k = n
  · subst e
    simp (disch := omega) only [wp_c, wp_n, jj_n, v_ct, Int.reduceToNat, Int.toNat_natCast, stE, wlE, lgt, lpu, lpw, v_c2, va_s, true_and, and_true, Option.toList, List.nil_append, List.cons_append, List.take, List.drop, List.reverse, List.reverseAux, List.length_cons, List.length_nil, reduceCtorEq, false_implies, true_implies, forall_const, not_true_eq_false, not_false_eq_true, ite_true, ite_false, Bool.false_eq_true, I_I, J_J, Nat.add_left_cancel_iff, Nat.reduceEqDiff, Nat.add_eq_left, Nat.left_eq_add, false_and, and_false, Nat.reduceSub, Nat.sub_self, Nat.le_refl, Nat.zero_le, ge_iff_le, Nat.reduceAdd, Nat.reduceLeDiff, Nat.zero_add, Nat.reduceLT, z_lt, z_le, z_eq, z_l0, z_g0, z_le0, z_ge0, z_e0, z_e1, z_vp, z_nc, z_rem, z_div, i_ltT, i_ltF, i_leT, i_leF, i_eqT, i_eqF, n_ltT, n_ltF, n_leT, n_leF, n_eqT, n_eqF, tn_9, tn_12, tn_14, tn_20, tn_28, tn_44, tn_52, tn_68, tn_84, tn_100, tn_116, tn_132, fu_e, up_eq, ob_0, ob_b, oi_add, oi_sub, oi_mul, oi_neg, Int.add_zero, Int.zero_add, or_true, true_or, or_false, false_or, and_self, z_i2l, z_l2i, lo_nat, lo_add, lo_sub, lo_mul, lo_0, e_rem, hs, oi_nat]
    refine rt_J7_copyOfRange_39247_17 ?_
    simp (disch := omega) only [wp_c, wp_n, jj_n, v_ct, Int.reduceToNat, Int.toNat_natCast, stE, wlE, lgt, lpu, lpw, v_c2, va_s, true_and, and_true, Option.toList, List.nil_append, List.cons_append, List.take, List.drop, List.reverse, List.reverseAux, List.length_cons, List.length_nil, reduceCtorEq, false_implies, true_implies, forall_const, not_true_eq_false, not_false_eq_true, ite_true, ite_false, Bool.false_eq_true, I_I, J_J, Nat.add_left_cancel_iff, Nat.reduceEqDiff, Nat.add_eq_left, Nat.left_eq_add, false_and, and_false, Nat.reduceSub, Nat.sub_self, Nat.le_refl, Nat.zero_le, ge_iff_le, Nat.reduceAdd, Nat.reduceLeDiff, Nat.zero_add, Nat.reduceLT, z_lt, z_le, z_eq, z_l0, z_g0, z_le0, z_ge0, z_e0, z_e1, z_vp, z_nc, z_rem, z_div, i_ltT, i_ltF, i_leT, i_leF, i_eqT, i_eqF, n_ltT, n_ltF, n_leT, n_leF, n_eqT, n_eqF, tn_9, tn_12, tn_14, tn_20, tn_28, tn_44, tn_52, tn_68, tn_84, tn_100, tn_116, tn_132, fu_e, up_eq, ob_0, ob_b, oi_add, oi_sub, oi_mul, oi_neg, Int.add_zero, Int.zero_add, or_true, true_or, or_false, false_or, and_self, z_i2l, z_l2i, lo_nat, lo_add, lo_sub, lo_mul, lo_0, e_rem, hs]
    first | (refine ⟨fun i hi => hf i, by omega, ?_⟩) | (refine ⟨fun i hi => hf i, ?_⟩) | skip
    intro q hq0
    obtain ⟨c1, c2, c3, c4, c5⟩ := C_at (w := w) (a := p) (q := q)
    simp (disch := omega) only [wp_c, wp_n, jj_n, v_ct, Int.reduceToNat, Int.toNat_natCast, stE, wlE, lgt, lpu, lpw, v_c2, va_s, true_and, and_true, Option.toList, List.nil_append, List.cons_append, List.take, List.drop, List.reverse, List.reverseAux, List.length_cons, List.length_nil, reduceCtorEq, false_implies, true_implies, forall_const, not_true_eq_false, not_false_eq_true, ite_true, ite_false, Bool.false_eq_true, I_I, J_J, Nat.add_left_cancel_iff, Nat.reduceEqDiff, Nat.add_eq_left, Nat.left_eq_add, false_and, and_false, Nat.reduceSub, Nat.sub_self, Nat.le_refl, Nat.zero_le, ge_iff_le, Nat.reduceAdd, Nat.reduceLeDiff, Nat.zero_add, Nat.reduceLT, z_lt, z_le, z_eq, z_l0, z_g0, z_le0, z_ge0, z_e0, z_e1, z_vp, z_nc, z_rem, z_div, i_ltT, i_ltF, i_leT, i_leF, i_eqT, i_eqF, n_ltT, n_ltF, n_leT, n_leF, n_eqT, n_eqF, tn_9, tn_12, tn_14, tn_20, tn_28, tn_44, tn_52, tn_68, tn_84, tn_100, tn_116, tn_132, fu_e, up_eq, ob_0, ob_b, oi_add, oi_sub, oi_mul, oi_neg, Int.add_zero, Int.zero_add, or_true, true_or, or_false, false_or, and_self, z_i2l, z_l2i, lo_nat, lo_add, lo_sub, lo_mul, lo_0, e_rem, CK_sh, hs, mr_J7_copyOfRange_39247]
    refine hq _ q hq0 c5 (by rw [c1, if_pos rfl]; exact hs) (fun i hi => by rw [c2, if_pos rfl]) (fun c hc => ⟨by rw [c1, if_neg hc], c3 c hc, by rw [c2, if_neg hc], c4 c hc⟩)
  · simp (disch := omega) only [wp_c, wp_n, jj_n, v_ct, Int.reduceToNat, Int.toNat_natCast, stE, wlE, lgt, lpu, lpw, v_c2, va_s, true_and, and_true, Option.toList, List.nil_append, List.cons_append, List.take, List.drop, List.reverse, List.reverseAux, List.length_cons, List.length_nil, reduceCtorEq, false_implies, true_implies, forall_const, not_true_eq_false, not_false_eq_true, ite_true, ite_false, Bool.false_eq_true, I_I, J_J, Nat.add_left_cancel_iff, Nat.reduceEqDiff, Nat.add_eq_left, Nat.left_eq_add, false_and, and_false, Nat.reduceSub, Nat.sub_self, Nat.le_refl, Nat.zero_le, ge_iff_le, Nat.reduceAdd, Nat.reduceLeDiff, Nat.zero_add, Nat.reduceLT, z_lt, z_le, z_eq, z_l0, z_g0, z_le0, z_ge0, z_e0, z_e1, z_vp, z_nc, z_rem, z_div, i_ltT, i_ltF, i_leT, i_leF, i_eqT, i_eqF, n_ltT, n_ltF, n_leT, n_leF, n_eqT, n_eqF, tn_9, tn_12, tn_14, tn_20, tn_28, tn_44, tn_52, tn_68, tn_84, tn_100, tn_116, tn_132, fu_e, up_eq, ob_0, ob_b, oi_add, oi_sub, oi_mul, oi_neg, Int.add_zero, Int.zero_add, or_true, true_or, or_false, false_or, and_self, z_i2l, z_l2i, lo_nat, lo_add, lo_sub, lo_mul, lo_0, e_rem, hs, oi_nat]
    refine rt_J7_copyOfRange_39247_10 ?_
    simp (disch := omega) only [wp_c, wp_n, jj_n, v_ct, Int.reduceToNat, Int.toNat_natCast, stE, wlE, lgt, lpu, lpw, v_c2, va_s, true_and, and_true, Option.toList, List.nil_append, List.cons_append, List.take, List.drop, List.reverse, List.reverseAux, List.length_cons, List.length_nil, reduceCtorEq, false_implies, true_implies, forall_const, not_true_eq_false, not_false_eq_true, ite_true, ite_false, Bool.false_eq_true, I_I, J_J, Nat.add_left_cancel_iff, Nat.reduceEqDiff, Nat.add_eq_left, Nat.left_eq_add, false_and, and_false, Nat.reduceSub, Nat.sub_self, Nat.le_refl, Nat.zero_le, ge_iff_le, Nat.reduceAdd, Nat.reduceLeDiff, Nat.zero_add, Nat.reduceLT, z_lt, z_le, z_eq, z_l0, z_g0, z_le0, z_ge0, z_e0, z_e1, z_vp, z_nc, z_rem, z_div, i_ltT, i_ltF, i_leT, i_leF, i_eqT, i_eqF, n_ltT, n_ltF, n_leT, n_leF, n_eqT, n_eqF, tn_9, tn_12, tn_14, tn_20, tn_28, tn_44, tn_52, tn_68, tn_84, tn_100, tn_116, tn_132, fu_e, up_eq, ob_0, ob_b, oi_add, oi_sub, oi_mul, oi_neg, Int.add_zero, Int.zero_add, or_true, true_or, or_false, false_or, and_self, z_i2l, z_l2i, lo_nat, lo_add, lo_sub, lo_mul, lo_0, e_rem, mh_J7_copyOfRange_39247]
    refine ct_J7_copyOfRangeByte_39247 (rt_J7_copyOfRangeByte_39247_0 ?_)
    simp (disch := omega) only [wp_c, wp_n, jj_n, v_ct, Int.reduceToNat, Int.toNat_natCast, stE, wlE, lgt, lpu, lpw, v_c2, va_s, true_and, and_true, Option.toList, List.nil_append, List.cons_append, List.take, List.drop, List.reverse, List.reverseAux, List.length_cons, List.length_nil, reduceCtorEq, false_implies, true_implies, forall_const, not_true_eq_false, not_false_eq_true, ite_true, ite_false, Bool.false_eq_true, I_I, J_J, Nat.add_left_cancel_iff, Nat.reduceEqDiff, Nat.add_eq_left, Nat.left_eq_add, false_and, and_false, Nat.reduceSub, Nat.sub_self, Nat.le_refl, Nat.zero_le, ge_iff_le, Nat.reduceAdd, Nat.reduceLeDiff, Nat.zero_add, Nat.reduceLT, z_lt, z_le, z_eq, z_l0, z_g0, z_le0, z_ge0, z_e0, z_e1, z_vp, z_nc, z_rem, z_div, i_ltT, i_ltF, i_leT, i_leF, i_eqT, i_eqF, n_ltT, n_ltF, n_leT, n_leF, n_eqT, n_eqF, tn_9, tn_12, tn_14, tn_20, tn_28, tn_44, tn_52, tn_68, tn_84, tn_100, tn_116, tn_132, fu_e, up_eq, ob_0, ob_b, oi_add, oi_sub, oi_mul, oi_neg, Int.add_zero, Int.zero_add, or_true, true_or, or_false, false_or, and_self, z_i2l, z_l2i, lo_nat, lo_add, lo_sub, lo_mul, lo_0, e_rem, mh_J7_copyOfRangeByte_39247]
    refine c_clen ⟨by omega, by omega, by omega⟩ ?_
    have ek : (k : Int) - 0 = k := by omega
    simp (disch := omega) only [wp_c, wp_n, jj_n, v_ct, Int.reduceToNat, Int.toNat_natCast, stE, wlE, lgt, lpu, lpw, v_c2, va_s, true_and, and_true, Option.toList, List.nil_append, List.cons_append, List.take, List.drop, List.reverse, List.reverseAux, List.length_cons, List.length_nil, reduceCtorEq, false_implies, true_implies, forall_const, not_true_eq_false, not_false_eq_true, ite_true, ite_false, Bool.false_eq_true, I_I, J_J, Nat.add_left_cancel_iff, Nat.reduceEqDiff, Nat.add_eq_left, Nat.left_eq_add, false_and, and_false, Nat.reduceSub, Nat.sub_self, Nat.le_refl, Nat.zero_le, ge_iff_le, Nat.reduceAdd, Nat.reduceLeDiff, Nat.zero_add, Nat.reduceLT, z_lt, z_le, z_eq, z_l0, z_g0, z_le0, z_ge0, z_e0, z_e1, z_vp, z_nc, z_rem, z_div, i_ltT, i_ltF, i_leT, i_leF, i_eqT, i_eqF, n_ltT, n_ltF, n_leT, n_leF, n_eqT, n_eqF, tn_9, tn_12, tn_14, tn_20, tn_28, tn_44, tn_52, tn_68, tn_84, tn_100, tn_116, tn_132, fu_e, up_eq, ob_0, ob_b, oi_add, oi_sub, oi_mul, oi_neg, Int.add_zero, Int.zero_add, or_true, true_or, or_false, false_or, and_self, z_i2l, z_l2i, lo_nat, lo_add, lo_sub, lo_mul, lo_0, e_rem, ek, hc]
    try refine ⟨by omega, by omega, ?_⟩
    intro q hq0
    have np : ¬ p = 100 + q := by omega
    have en : (n : Int) - 0 = n := by omega
    simp (disch := omega) only [wp_c, wp_n, jj_n, v_ct, Int.reduceToNat, Int.toNat_natCast, stE, wlE, lgt, lpu, lpw, v_c2, va_s, true_and, and_true, Option.toList, List.nil_append, List.cons_append, List.take, List.drop, List.reverse, List.reverseAux, List.length_cons, List.length_nil, reduceCtorEq, false_implies, true_implies, forall_const, not_true_eq_false, not_false_eq_true, ite_true, ite_false, Bool.false_eq_true, I_I, J_J, Nat.add_left_cancel_iff, Nat.reduceEqDiff, Nat.add_eq_left, Nat.left_eq_add, false_and, and_false, Nat.reduceSub, Nat.sub_self, Nat.le_refl, Nat.zero_le, ge_iff_le, Nat.reduceAdd, Nat.reduceLeDiff, Nat.zero_add, Nat.reduceLT, z_lt, z_le, z_eq, z_l0, z_g0, z_le0, z_ge0, z_e0, z_e1, z_vp, z_nc, z_rem, z_div, i_ltT, i_ltF, i_leT, i_leF, i_eqT, i_eqF, n_ltT, n_ltF, n_leT, n_leF, n_eqT, n_eqF, tn_9, tn_12, tn_14, tn_20, tn_28, tn_44, tn_52, tn_68, tn_84, tn_100, tn_116, tn_132, fu_e, up_eq, ob_0, ob_b, oi_add, oi_sub, oi_mul, oi_neg, Int.add_zero, Int.zero_add, or_true, true_or, or_false, false_or, and_self, z_i2l, z_l2i, lo_nat, lo_add, lo_sub, lo_mul, lo_0, e_rem, NK_sh, NK_shn np, hs, oi_nat, en, mh_J7_copyOfRangeByte_39247]
    refine c_min ⟨by omega, by omega⟩ ⟨by omega, by omega⟩ ?_
    have em : (if (n : Int) ≤ (k : Int) then (n : Int) else (k : Int)) = k := if_neg (by omega)
    have eI : w_I (s_N (s_K w q) (3, k)) p = w_I w p := by rw [N_Ic, K_n, if_neg np, K_I]
    have eQ : w_I (s_N (s_K w q) (3, k)) (100 + q) = fun _ => 0 := by rw [N_Ic, K_n, if_pos rfl]
    have l1 : Nat.lt p 100 = False := eq_false (by show ¬ p < 100; omega)
    have l2 : Nat.le 100 p = True := eq_true h1.1
    simp (disch := omega) only [wp_c, wp_n, jj_n, v_ct, Int.reduceToNat, Int.toNat_natCast, stE, wlE, lgt, lpu, lpw, v_c2, va_s, true_and, and_true, Option.toList, List.nil_append, List.cons_append, List.take, List.drop, List.reverse, List.reverseAux, List.length_cons, List.length_nil, reduceCtorEq, false_implies, true_implies, forall_const, not_true_eq_false, not_false_eq_true, ite_true, ite_false, Bool.false_eq_true, I_I, J_J, Nat.add_left_cancel_iff, Nat.reduceEqDiff, Nat.add_eq_left, Nat.left_eq_add, false_and, and_false, Nat.reduceSub, Nat.sub_self, Nat.le_refl, Nat.zero_le, ge_iff_le, Nat.reduceAdd, Nat.reduceLeDiff, Nat.zero_add, Nat.reduceLT, z_lt, z_le, z_eq, z_l0, z_g0, z_le0, z_ge0, z_e0, z_e1, z_vp, z_nc, z_rem, z_div, i_ltT, i_ltF, i_leT, i_leF, i_eqT, i_eqF, n_ltT, n_ltF, n_leT, n_leF, n_eqT, n_eqF, tn_9, tn_12, tn_14, tn_20, tn_28, tn_44, tn_52, tn_68, tn_84, tn_100, tn_116, tn_132, fu_e, up_eq, ob_0, ob_b, oi_add, oi_sub, oi_mul, oi_neg, Int.add_zero, Int.zero_add, or_true, true_or, or_false, false_or, and_self, z_i2l, z_l2i, lo_nat, lo_add, lo_sub, lo_mul, lo_0, e_rem, em, NK_sh, NK_shn np, hs, hc, hc0, eI, eQ, l1, l2, mr_J7_copyOfRangeByte_39247, mr_J7_copyOfRange_39247]
    refine ⟨fun i hi => hf i, hq _ q hq0 rfl ?_ (fun i hi => ?_) (fun c hc => ⟨?_, ?_, ?_, ?_⟩)⟩
    · rw [A_sh, NK_sh]
    · rw [A_I, if_pos rfl, cpy_g, if_pos (by omega), Nat.zero_add, Nat.sub_zero]
    · rw [A_sh, NK_shn hc]
    · rw [A_R, NK_Rn hc]
    · rw [A_I, if_neg hc, N_Ic, K_n, if_neg hc, K_I]
    · rw [A_J, N_Jc, K_n, if_neg hc, K_J]
theorem c_toStr {b a p : Nat} {l : List Int} {w : mW} {Q : mW → mO → Prop} (h : SBu w b a p l) (hb : 100 ≤ b) (hq : ∀ w' s' p', STR w' s' p' l → 100 + w_n w ≤ s' → 100 + w_n w ≤ p' → FB (100 + w_n w) w w' → Q w' (.inl (some (.ref s')))) : CT n_J4_toString_0e30d [.ref a] w Q := by
  have h0 := h
  obtain ⟨⟨s1, s2, s3⟩, ⟨r1, r2, r3⟩, ⟨v1, v3⟩, ⟨n, hn, hn1, hn2⟩, hl, hc, hf⟩ := h
  have cl11 : (m_cl 11).2.2 = 4 := by decide
  refine ct_J4_toString_0e30d (rt_J4_toString_0e30d_0 ?_)
  simp (disch := omega) only [wp_c, wp_n, jj_n, v_ct, Int.reduceToNat, Int.toNat_natCast, stE, wlE, lgt, lpu, lpw, v_c2, va_s, true_and, and_true, Option.toList, List.nil_append, List.cons_append, List.take, List.drop, List.reverse, List.reverseAux, List.length_cons, List.length_nil, reduceCtorEq, false_implies, true_implies, forall_const, not_true_eq_false, not_false_eq_true, ite_true, ite_false, Bool.false_eq_true, I_I, J_J, Nat.add_left_cancel_iff, Nat.reduceEqDiff, Nat.add_eq_left, Nat.left_eq_add, false_and, and_false, Nat.reduceSub, Nat.sub_self, Nat.le_refl, Nat.zero_le, ge_iff_le, Nat.reduceAdd, Nat.reduceLeDiff, Nat.zero_add, Nat.reduceLT, z_lt, z_le, z_eq, z_l0, z_g0, z_le0, z_ge0, z_e0, z_e1, z_vp, z_nc, z_rem, z_div, i_ltT, i_ltF, i_leT, i_leF, i_eqT, i_eqF, n_ltT, n_ltF, n_leT, n_leF, n_eqT, n_eqF, tn_9, tn_12, tn_14, tn_20, tn_28, tn_44, tn_52, tn_68, tn_84, tn_100, tn_116, tn_132, fu_e, up_eq, ob_0, ob_b, oi_add, oi_sub, oi_mul, oi_neg, Int.add_zero, Int.zero_add, or_true, true_or, or_false, false_or, and_self, z_i2l, z_l2i, lo_nat, lo_add, lo_sub, lo_mul, lo_0, e_rem, cl11]
  intro q hq0
  have na : ¬ a = 100 + q := by omega
  have np : ¬ p = 100 + q := by omega
  have f1 : FB (100 + w_n w) w (s_N (s_K w q) (0, 11)) := (FB.refl _ _).N hq0 (Nat.le_refl _)
  have hn1' : w_n (s_N (s_K w q) (0, 11)) = q + 1 := rfl
  have hsh : w_sh (s_N (s_K w q) (0, 11)) (100 + q) = (0, 11) := NK_sh _ _ _
  have hI1 : w_I (s_N (s_K w q) (0, 11)) (100 + q) = fun _ => 0 := by rw [N_Ic, K_n, if_pos rfl]
  have k1 : SBu (s_N (s_K w q) (0, 11)) b a p l := by
    refine ⟨⟨by rw [NK_shn na]; exact s1, s2, by omega⟩, ⟨by rw [NK_Rn na]; exact r1, r2, by omega⟩, ⟨by rw [N_Ic, K_n, if_neg na, K_I]; exact v1, by rw [N_Ic, K_n, if_neg na, K_I]; exact v3⟩, ⟨n, by rw [NK_shn np]; exact hn, hn1, hn2⟩, hl, fun i hi => by rw [N_Ic, K_n, if_neg np, K_I]; exact hc i hi, fun i => by rw [N_Ic, K_n, if_neg np, K_I]; exact hf i⟩
  generalize hW : s_N (s_K w q) (0, 11) = W at f1 hn1' hsh hI1 k1 ⊢
  try simp (disch := omega) only [wp_c, wp_n, jj_n, v_ct, Int.reduceToNat, Int.toNat_natCast, stE, wlE, lgt, lpu, lpw, v_c2, va_s, true_and, and_true, Option.toList, List.nil_append, List.cons_append, List.take, List.drop, List.reverse, List.reverseAux, List.length_cons, List.length_nil, reduceCtorEq, false_implies, true_implies, forall_const, not_true_eq_false, not_false_eq_true, ite_true, ite_false, Bool.false_eq_true, I_I, J_J, Nat.add_left_cancel_iff, Nat.reduceEqDiff, Nat.add_eq_left, Nat.left_eq_add, false_and, and_false, Nat.reduceSub, Nat.sub_self, Nat.le_refl, Nat.zero_le, ge_iff_le, Nat.reduceAdd, Nat.reduceLeDiff, Nat.zero_add, Nat.reduceLT, z_lt, z_le, z_eq, z_l0, z_g0, z_le0, z_ge0, z_e0, z_e1, z_vp, z_nc, z_rem, z_div, i_ltT, i_ltF, i_leT, i_leF, i_eqT, i_eqF, n_ltT, n_ltF, n_leT, n_leF, n_eqT, n_eqF, tn_9, tn_12, tn_14, tn_20, tn_28, tn_44, tn_52, tn_68, tn_84, tn_100, tn_116, tn_132, fu_e, up_eq, ob_0, ob_b, oi_add, oi_sub, oi_mul, oi_neg, Int.add_zero, Int.zero_add, or_true, true_or, or_false, false_or, and_self, z_i2l, z_l2i, lo_nat, lo_add, lo_sub, lo_mul, lo_0, e_rem, mh_J4_toString_0e30d]
  refine ct_J0_init_81219 (rt_J0_init_81219_0 ?_)
  simp (disch := omega) only [wp_c, wp_n, jj_n, v_ct, Int.reduceToNat, Int.toNat_natCast, stE, wlE, lgt, lpu, lpw, v_c2, va_s, true_and, and_true, Option.toList, List.nil_append, List.cons_append, List.take, List.drop, List.reverse, List.reverseAux, List.length_cons, List.length_nil, reduceCtorEq, false_implies, true_implies, forall_const, not_true_eq_false, not_false_eq_true, ite_true, ite_false, Bool.false_eq_true, I_I, J_J, Nat.add_left_cancel_iff, Nat.reduceEqDiff, Nat.add_eq_left, Nat.left_eq_add, false_and, and_false, Nat.reduceSub, Nat.sub_self, Nat.le_refl, Nat.zero_le, ge_iff_le, Nat.reduceAdd, Nat.reduceLeDiff, Nat.zero_add, Nat.reduceLT, z_lt, z_le, z_eq, z_l0, z_g0, z_le0, z_ge0, z_e0, z_e1, z_vp, z_nc, z_rem, z_div, i_ltT, i_ltF, i_leT, i_leF, i_eqT, i_eqF, n_ltT, n_ltF, n_leT, n_leF, n_eqT, n_eqF, tn_9, tn_12, tn_14, tn_20, tn_28, tn_44, tn_52, tn_68, tn_84, tn_100, tn_116, tn_132, fu_e, up_eq, ob_0, ob_b, oi_add, oi_sub, oi_mul, oi_neg, Int.add_zero, Int.zero_add, or_true, true_or, or_false, false_or, and_self, z_i2l, z_l2i, lo_nat, lo_add, lo_sub, lo_mul, lo_0, e_rem, mh_J0_init_81219]
  refine ct_J0_init_db425 (rt_J0_init_db425_0 ?_)
  simp (disch := omega) only [wp_c, wp_n, jj_n, v_ct, Int.reduceToNat, Int.toNat_natCast, stE, wlE, lgt, lpu, lpw, v_c2, va_s, true_and, and_true, Option.toList, List.nil_append, List.cons_append, List.take, List.drop, List.reverse, List.reverseAux, List.length_cons, List.length_nil, reduceCtorEq, false_implies, true_implies, forall_const, not_true_eq_false, not_false_eq_true, ite_true, ite_false, Bool.false_eq_true, I_I, J_J, Nat.add_left_cancel_iff, Nat.reduceEqDiff, Nat.add_eq_left, Nat.left_eq_add, false_and, and_false, Nat.reduceSub, Nat.sub_self, Nat.le_refl, Nat.zero_le, ge_iff_le, Nat.reduceAdd, Nat.reduceLeDiff, Nat.zero_add, Nat.reduceLT, z_lt, z_le, z_eq, z_l0, z_g0, z_le0, z_ge0, z_e0, z_e1, z_vp, z_nc, z_rem, z_div, i_ltT, i_ltF, i_leT, i_leF, i_eqT, i_eqF, n_ltT, n_ltF, n_leT, n_leF, n_eqT, n_eqF, tn_9, tn_12, tn_14, tn_20, tn_28, tn_44, tn_52, tn_68, tn_84, tn_100, tn_116, tn_132, fu_e, up_eq, ob_0, ob_b, oi_add, oi_sub, oi_mul, oi_neg, Int.add_zero, Int.zero_add, or_true, true_or, or_false, false_or, and_self, z_i2l, z_l2i, lo_nat, lo_add, lo_sub, lo_mul, lo_0, e_rem, k1.1.1, mh_J0_init_db425]
  refine ct_J5_getValue_6d5f1 (rt_J5_getValue_6d5f1_0 ?_)
  simp (disch := omega) only [wp_c, wp_n, jj_n, v_ct, Int.reduceToNat, Int.toNat_natCast, stE, wlE, lgt, lpu, lpw, v_c2, va_s, true_and, and_true, Option.toList, List.nil_append, List.cons_append, List.take, List.drop, List.reverse, List.reverseAux, List.length_cons, List.length_nil, reduceCtorEq, false_implies, true_implies, forall_const, not_true_eq_false, not_false_eq_true, ite_true, ite_false, Bool.false_eq_true, I_I, J_J, Nat.add_left_cancel_iff, Nat.reduceEqDiff, Nat.add_eq_left, Nat.left_eq_add, false_and, and_false, Nat.reduceSub, Nat.sub_self, Nat.le_refl, Nat.zero_le, ge_iff_le, Nat.reduceAdd, Nat.reduceLeDiff, Nat.zero_add, Nat.reduceLT, z_lt, z_le, z_eq, z_l0, z_g0, z_le0, z_ge0, z_e0, z_e1, z_vp, z_nc, z_rem, z_div, i_ltT, i_ltF, i_leT, i_leF, i_eqT, i_eqF, n_ltT, n_ltF, n_leT, n_leF, n_eqT, n_eqF, tn_9, tn_12, tn_14, tn_20, tn_28, tn_44, tn_52, tn_68, tn_84, tn_100, tn_116, tn_132, fu_e, up_eq, ob_0, ob_b, oi_add, oi_sub, oi_mul, oi_neg, Int.add_zero, Int.zero_add, or_true, true_or, or_false, false_or, and_self, z_i2l, z_l2i, lo_nat, lo_add, lo_sub, lo_mul, lo_0, e_rem, k1.1.1, k1.2.1.1, mh_J0_init_db425]
  refine c_len4 k1 ?_
  simp (disch := omega) only [wp_c, wp_n, jj_n, v_ct, Int.reduceToNat, Int.toNat_natCast, stE, wlE, lgt, lpu, lpw, v_c2, va_s, true_and, and_true, Option.toList, List.nil_append, List.cons_append, List.take, List.drop, List.reverse, List.reverseAux, List.length_cons, List.length_nil, reduceCtorEq, false_implies, true_implies, forall_const, not_true_eq_false, not_false_eq_true, ite_true, ite_false, Bool.false_eq_true, I_I, J_J, Nat.add_left_cancel_iff, Nat.reduceEqDiff, Nat.add_eq_left, Nat.left_eq_add, false_and, and_false, Nat.reduceSub, Nat.sub_self, Nat.le_refl, Nat.zero_le, ge_iff_le, Nat.reduceAdd, Nat.reduceLeDiff, Nat.zero_add, Nat.reduceLT, z_lt, z_le, z_eq, z_l0, z_g0, z_le0, z_ge0, z_e0, z_e1, z_vp, z_nc, z_rem, z_div, i_ltT, i_ltF, i_leT, i_leF, i_eqT, i_eqF, n_ltT, n_ltF, n_leT, n_leF, n_eqT, n_eqF, tn_9, tn_12, tn_14, tn_20, tn_28, tn_44, tn_52, tn_68, tn_84, tn_100, tn_116, tn_132, fu_e, up_eq, ob_0, ob_b, oi_add, oi_sub, oi_mul, oi_neg, Int.add_zero, Int.zero_add, or_true, true_or, or_false, false_or, and_self, z_i2l, z_l2i, lo_nat, lo_add, lo_sub, lo_mul, lo_0, e_rem, k1.1.1, mh_J0_init_db425]
  refine c_lat5 k1 ?_
  obtain ⟨⟨t1, t2, t3⟩, ⟨u1, u2, u3⟩, ⟨x1, x3⟩, ⟨m, hm, hm2, hm3⟩, hl1, hc1, hf1⟩ := k1
  have nap : ¬ p = 100 + q := np
  simp (disch := omega) only [wp_c, wp_n, jj_n, v_ct, Int.reduceToNat, Int.toNat_natCast, stE, wlE, lgt, lpu, lpw, v_c2, va_s, true_and, and_true, Option.toList, List.nil_append, List.cons_append, List.take, List.drop, List.reverse, List.reverseAux, List.length_cons, List.length_nil, reduceCtorEq, false_implies, true_implies, forall_const, not_true_eq_false, not_false_eq_true, ite_true, ite_false, Bool.false_eq_true, I_I, J_J, Nat.add_left_cancel_iff, Nat.reduceEqDiff, Nat.add_eq_left, Nat.left_eq_add, false_and, and_false, Nat.reduceSub, Nat.sub_self, Nat.le_refl, Nat.zero_le, ge_iff_le, Nat.reduceAdd, Nat.reduceLeDiff, Nat.zero_add, Nat.reduceLT, z_lt, z_le, z_eq, z_l0, z_g0, z_le0, z_ge0, z_e0, z_e1, z_vp, z_nc, z_rem, z_div, i_ltT, i_ltF, i_leT, i_leF, i_eqT, i_eqF, n_ltT, n_ltF, n_leT, n_leF, n_eqT, n_eqF, tn_9, tn_12, tn_14, tn_20, tn_28, tn_44, tn_52, tn_68, tn_84, tn_100, tn_116, tn_132, fu_e, up_eq, ob_0, ob_b, oi_add, oi_sub, oi_mul, oi_neg, Int.add_zero, Int.zero_add, or_true, true_or, or_false, false_or, and_self, z_i2l, z_l2i, lo_nat, lo_add, lo_sub, lo_mul, lo_0, e_rem, hsh, mh_J0_init_db425]
  refine c_cor (n := m) (k := l.length) (by rw [sh_I]; exact hm) ⟨by omega, by show p < 100 + w_n W; omega⟩ ⟨hm2, hm3⟩ (fun i => by rw [I_I, if_neg (fun z => nap z.1)]; exact hf1 i) ?_
  intro w2 q2 g1 g2 g3 g4 g5
  have hnW : w_n (s_I W (100 + q) 1 (Int32.ofInt 0)) = w_n W := rfl
  rw [hnW] at g1
  have nq : ¬ 100 + q = 100 + q2 := by omega
  obtain ⟨e1, e2, e3, e4⟩ := g5 (100 + q) nq
  have hs2 : w_sh w2 (100 + q) = (0, 11) := by rw [e1, sh_I]; exact hsh
  simp (disch := omega) only [wp_c, wp_n, jj_n, v_ct, Int.reduceToNat, Int.toNat_natCast, stE, wlE, lgt, lpu, lpw, v_c2, va_s, true_and, and_true, Option.toList, List.nil_append, List.cons_append, List.take, List.drop, List.reverse, List.reverseAux, List.length_cons, List.length_nil, reduceCtorEq, false_implies, true_implies, forall_const, not_true_eq_false, not_false_eq_true, ite_true, ite_false, Bool.false_eq_true, I_I, J_J, Nat.add_left_cancel_iff, Nat.reduceEqDiff, Nat.add_eq_left, Nat.left_eq_add, false_and, and_false, Nat.reduceSub, Nat.sub_self, Nat.le_refl, Nat.zero_le, ge_iff_le, Nat.reduceAdd, Nat.reduceLeDiff, Nat.zero_add, Nat.reduceLT, z_lt, z_le, z_eq, z_l0, z_g0, z_le0, z_ge0, z_e0, z_e1, z_vp, z_nc, z_rem, z_div, i_ltT, i_ltF, i_leT, i_leF, i_eqT, i_eqF, n_ltT, n_ltF, n_leT, n_leF, n_eqT, n_eqF, tn_9, tn_12, tn_14, tn_20, tn_28, tn_44, tn_52, tn_68, tn_84, tn_100, tn_116, tn_132, fu_e, up_eq, ob_0, ob_b, oi_add, oi_sub, oi_mul, oi_neg, Int.add_zero, Int.zero_add, or_true, true_or, or_false, false_or, and_self, z_i2l, z_l2i, lo_nat, lo_add, lo_sub, lo_mul, lo_0, e_rem, hs2]
  refine rt_J0_init_db425_97 ?_
  simp (disch := omega) only [wp_c, wp_n, jj_n, v_ct, Int.reduceToNat, Int.toNat_natCast, stE, wlE, lgt, lpu, lpw, v_c2, va_s, true_and, and_true, Option.toList, List.nil_append, List.cons_append, List.take, List.drop, List.reverse, List.reverseAux, List.length_cons, List.length_nil, reduceCtorEq, false_implies, true_implies, forall_const, not_true_eq_false, not_false_eq_true, ite_true, ite_false, Bool.false_eq_true, I_I, J_J, Nat.add_left_cancel_iff, Nat.reduceEqDiff, Nat.add_eq_left, Nat.left_eq_add, false_and, and_false, Nat.reduceSub, Nat.sub_self, Nat.le_refl, Nat.zero_le, ge_iff_le, Nat.reduceAdd, Nat.reduceLeDiff, Nat.zero_add, Nat.reduceLT, z_lt, z_le, z_eq, z_l0, z_g0, z_le0, z_ge0, z_e0, z_e1, z_vp, z_nc, z_rem, z_div, i_ltT, i_ltF, i_leT, i_leF, i_eqT, i_eqF, n_ltT, n_ltF, n_leT, n_leF, n_eqT, n_eqF, tn_9, tn_12, tn_14, tn_20, tn_28, tn_44, tn_52, tn_68, tn_84, tn_100, tn_116, tn_132, fu_e, up_eq, ob_0, ob_b, oi_add, oi_sub, oi_mul, oi_neg, Int.add_zero, Int.zero_add, or_true, true_or, or_false, false_or, and_self, z_i2l, z_l2i, lo_nat, lo_add, lo_sub, lo_mul, lo_0, e_rem, mr_J4_toString_0e30d]
  have nq2 : ¬ 100 + q2 = 100 + q := by omega
  refine hq _ (100 + q) (100 + q2) ⟨⟨by rw [R_sh]; exact hs2, by omega, by show 100 + q < 100 + w_n w2; omega⟩, ⟨by rw [R_R, if_pos ⟨rfl, rfl⟩], by omega, by show 100 + q2 < 100 + w_n w2; omega⟩, by rw [R_Ic, e3, I_I, if_pos ⟨rfl, rfl⟩], by rw [R_sh]; exact g3, hl, fun i hi => ?_⟩ (by omega) (by omega) ?_
  · rw [R_Ic, g4 i hi, I_I, if_neg (fun z => nap z.1)]; exact hc1 i hi
  · refine ⟨fun c hc => ?_, by show w_n w ≤ w_n w2; omega⟩
    have hcl : c < 100 + w_n w := by
      rcases hc with z | z
      · exact z
      · exact z.1
    have c1 : ¬ c = 100 + q := by omega
    have c2 : ¬ c = 100 + q2 := by omega
    obtain ⟨d1, d2, d3, d4⟩ := g5 c c2
    have fc := f1.1 c hc
    refine ⟨?_, ?_, ?_, ?_⟩
    · rw [R_sh, d1, sh_I]; exact fc.1
    · rw [R_ne c1, d2, R_I]; exact fc.2.1
    · rw [R_Ic, d3]
      funext j
      rw [I_I, if_neg (fun z => c1 z.1), fc.2.2.1]
    · rw [R_Jc, d4, J_I]; exact fc.2.2.2
/-! what a text answers -/
theorem c_codS {s p : Nat} {l : List Int} {w : mW} {Q : mW → mO → Prop} (h : STR w s p l) (hq : Q w (.inl (some (.int (Int32.ofInt 0))))) : CT n_J0_coder_7d493 [.ref s] w Q := by
  have l1 : Nat.lt s 100 = False := eq_false (by have := h.1.2.1; show ¬ s < 100; omega)
  have l2 : Nat.le 100 s = True := eq_true h.1.2.1
  refine ct_J0_coder_7d493 (rt_J0_coder_7d493_0 ?_)
  simp (disch := omega) only [wp_c, wp_n, jj_n, v_ct, Int.reduceToNat, Int.toNat_natCast, stE, wlE, lgt, lpu, lpw, v_c2, va_s, true_and, and_true, Option.toList, List.nil_append, List.cons_append, List.take, List.drop, List.reverse, List.reverseAux, List.length_cons, List.length_nil, reduceCtorEq, false_implies, true_implies, forall_const, not_true_eq_false, not_false_eq_true, ite_true, ite_false, Bool.false_eq_true, I_I, J_J, Nat.add_left_cancel_iff, Nat.reduceEqDiff, Nat.add_eq_left, Nat.left_eq_add, false_and, and_false, Nat.reduceSub, Nat.sub_self, Nat.le_refl, Nat.zero_le, ge_iff_le, Nat.reduceAdd, Nat.reduceLeDiff, Nat.zero_add, Nat.reduceLT, z_lt, z_le, z_eq, z_l0, z_g0, z_le0, z_ge0, z_e0, z_e1, z_vp, z_nc, z_rem, z_div, i_ltT, i_ltF, i_leT, i_leF, i_eqT, i_eqF, n_ltT, n_ltF, n_leT, n_leF, n_eqT, n_eqF, tn_9, tn_12, tn_14, tn_20, tn_28, tn_44, tn_52, tn_68, tn_84, tn_100, tn_116, tn_132, fu_e, up_eq, ob_0, ob_b, oi_add, oi_sub, oi_mul, oi_neg, Int.add_zero, Int.zero_add, or_true, true_or, or_false, false_or, and_self, z_i2l, z_l2i, lo_nat, lo_add, lo_sub, lo_mul, lo_0, e_rem, i10, l1, l2, h.1.1, h.2.2.1]
  refine rt_J0_coder_7d493_14 ?_
  simp (disch := omega) only [wp_c, wp_n, jj_n, v_ct, Int.reduceToNat, Int.toNat_natCast, stE, wlE, lgt, lpu, lpw, v_c2, va_s, true_and, and_true, Option.toList, List.nil_append, List.cons_append, List.take, List.drop, List.reverse, List.reverseAux, List.length_cons, List.length_nil, reduceCtorEq, false_implies, true_implies, forall_const, not_true_eq_false, not_false_eq_true, ite_true, ite_false, Bool.false_eq_true, I_I, J_J, Nat.add_left_cancel_iff, Nat.reduceEqDiff, Nat.add_eq_left, Nat.left_eq_add, false_and, and_false, Nat.reduceSub, Nat.sub_self, Nat.le_refl, Nat.zero_le, ge_iff_le, Nat.reduceAdd, Nat.reduceLeDiff, Nat.zero_add, Nat.reduceLT, z_lt, z_le, z_eq, z_l0, z_g0, z_le0, z_ge0, z_e0, z_e1, z_vp, z_nc, z_rem, z_div, i_ltT, i_ltF, i_leT, i_leF, i_eqT, i_eqF, n_ltT, n_ltF, n_leT, n_leF, n_eqT, n_eqF, tn_9, tn_12, tn_14, tn_20, tn_28, tn_44, tn_52, tn_68, tn_84, tn_100, tn_116, tn_132, fu_e, up_eq, ob_0, ob_b, oi_add, oi_sub, oi_mul, oi_neg, Int.add_zero, Int.zero_add, or_true, true_or, or_false, false_or, and_self, z_i2l, z_l2i, lo_nat, lo_add, lo_sub, lo_mul, lo_0, e_rem, mr_J0_coder_7d493]
  first | exact hq | exact ⟨Or.inl rfl, hq⟩
theorem c_latS {s p : Nat} {l : List Int} {w : mW} {Q : mW → mO → Prop} (h : STR w s p l) (hq : Q w (.inl (some (.int (Int32.ofInt 1))))) : CT n_J0_isLatin1_aae02 [.ref s] w Q := by
  have l1 : Nat.lt s 100 = False := eq_false (by have := h.1.2.1; show ¬ s < 100; omega)
  have l2 : Nat.le 100 s = True := eq_true h.1.2.1
  refine ct_J0_isLatin1_aae02 (rt_J0_isLatin1_aae02_0 ?_)
  simp (disch := omega) only [wp_c, wp_n, jj_n, v_ct, Int.reduceToNat, Int.toNat_natCast, stE, wlE, lgt, lpu, lpw, v_c2, va_s, true_and, and_true, Option.toList, List.nil_append, List.cons_append, List.take, List.drop, List.reverse, List.reverseAux, List.length_cons, List.length_nil, reduceCtorEq, false_implies, true_implies, forall_const, not_true_eq_false, not_false_eq_true, ite_true, ite_false, Bool.false_eq_true, I_I, J_J, Nat.add_left_cancel_iff, Nat.reduceEqDiff, Nat.add_eq_left, Nat.left_eq_add, false_and, and_false, Nat.reduceSub, Nat.sub_self, Nat.le_refl, Nat.zero_le, ge_iff_le, Nat.reduceAdd, Nat.reduceLeDiff, Nat.zero_add, Nat.reduceLT, z_lt, z_le, z_eq, z_l0, z_g0, z_le0, z_ge0, z_e0, z_e1, z_vp, z_nc, z_rem, z_div, i_ltT, i_ltF, i_leT, i_leF, i_eqT, i_eqF, n_ltT, n_ltF, n_leT, n_leF, n_eqT, n_eqF, tn_9, tn_12, tn_14, tn_20, tn_28, tn_44, tn_52, tn_68, tn_84, tn_100, tn_116, tn_132, fu_e, up_eq, ob_0, ob_b, oi_add, oi_sub, oi_mul, oi_neg, Int.add_zero, Int.zero_add, or_true, true_or, or_false, false_or, and_self, z_i2l, z_l2i, lo_nat, lo_add, lo_sub, lo_mul, lo_0, e_rem, i10, l1, l2, h.1.1, h.2.2.1]
  refine rt_J0_isLatin1_aae02_18 ?_
  simp (disch := omega) only [wp_c, wp_n, jj_n, v_ct, Int.reduceToNat, Int.toNat_natCast, stE, wlE, lgt, lpu, lpw, v_c2, va_s, true_and, and_true, Option.toList, List.nil_append, List.cons_append, List.take, List.drop, List.reverse, List.reverseAux, List.length_cons, List.length_nil, reduceCtorEq, false_implies, true_implies, forall_const, not_true_eq_false, not_false_eq_true, ite_true, ite_false, Bool.false_eq_true, I_I, J_J, Nat.add_left_cancel_iff, Nat.reduceEqDiff, Nat.add_eq_left, Nat.left_eq_add, false_and, and_false, Nat.reduceSub, Nat.sub_self, Nat.le_refl, Nat.zero_le, ge_iff_le, Nat.reduceAdd, Nat.reduceLeDiff, Nat.zero_add, Nat.reduceLT, z_lt, z_le, z_eq, z_l0, z_g0, z_le0, z_ge0, z_e0, z_e1, z_vp, z_nc, z_rem, z_div, i_ltT, i_ltF, i_leT, i_leF, i_eqT, i_eqF, n_ltT, n_ltF, n_leT, n_leF, n_eqT, n_eqF, tn_9, tn_12, tn_14, tn_20, tn_28, tn_44, tn_52, tn_68, tn_84, tn_100, tn_116, tn_132, fu_e, up_eq, ob_0, ob_b, oi_add, oi_sub, oi_mul, oi_neg, Int.add_zero, Int.zero_add, or_true, true_or, or_false, false_or, and_self, z_i2l, z_l2i, lo_nat, lo_add, lo_sub, lo_mul, lo_0, e_rem, mr_J0_isLatin1_aae02]
  first | exact hq | exact ⟨Or.inr rfl, hq⟩
theorem c_lenS {s p : Nat} {l : List Int} {w : mW} {Q : mW → mO → Prop} (h : STR w s p l) (hq : Q w (.inl (some (.int (Int32.ofInt l.length))))) : CT n_J0_length_8abf5 [.ref s] w Q := by
  have l1 : Nat.lt s 100 = False := eq_false (by have := h.1.2.1; show ¬ s < 100; omega)
  have l2 : Nat.le 100 s = True := eq_true h.1.2.1
  have m1 : Nat.lt p 100 = False := eq_false (by have := h.2.1.2.1; show ¬ p < 100; omega)
  have m2 : Nat.le 100 p = True := eq_true h.2.1.2.1
  have hl := h.2.2.2.2.1
  refine ct_J0_length_8abf5 (rt_J0_length_8abf5_0 ?_)
  simp (disch := omega) only [wp_c, wp_n, jj_n, v_ct, Int.reduceToNat, Int.toNat_natCast, stE, wlE, lgt, lpu, lpw, v_c2, va_s, true_and, and_true, Option.toList, List.nil_append, List.cons_append, List.take, List.drop, List.reverse, List.reverseAux, List.length_cons, List.length_nil, reduceCtorEq, false_implies, true_implies, forall_const, not_true_eq_false, not_false_eq_true, ite_true, ite_false, Bool.false_eq_true, I_I, J_J, Nat.add_left_cancel_iff, Nat.reduceEqDiff, Nat.add_eq_left, Nat.left_eq_add, false_and, and_false, Nat.reduceSub, Nat.sub_self, Nat.le_refl, Nat.zero_le, ge_iff_le, Nat.reduceAdd, Nat.reduceLeDiff, Nat.zero_add, Nat.reduceLT, z_lt, z_le, z_eq, z_l0, z_g0, z_le0, z_ge0, z_e0, z_e1, z_vp, z_nc, z_rem, z_div, i_ltT, i_ltF, i_leT, i_leF, i_eqT, i_eqF, n_ltT, n_ltF, n_leT, n_leF, n_eqT, n_eqF, tn_9, tn_12, tn_14, tn_20, tn_28, tn_44, tn_52, tn_68, tn_84, tn_100, tn_116, tn_132, fu_e, up_eq, ob_0, ob_b, oi_add, oi_sub, oi_mul, oi_neg, Int.add_zero, Int.zero_add, or_true, true_or, or_false, false_or, and_self, z_i2l, z_l2i, lo_nat, lo_add, lo_sub, lo_mul, lo_0, e_rem, l1, l2, m1, m2, h.1.1, h.2.1.1, h.2.2.2.1, oi_nat, mh_J0_length_8abf5, true_or]
  try refine ⟨by omega, ?_⟩
  refine c_codS h ?_
  simp (disch := omega) only [wp_c, wp_n, jj_n, v_ct, Int.reduceToNat, Int.toNat_natCast, stE, wlE, lgt, lpu, lpw, v_c2, va_s, true_and, and_true, Option.toList, List.nil_append, List.cons_append, List.take, List.drop, List.reverse, List.reverseAux, List.length_cons, List.length_nil, reduceCtorEq, false_implies, true_implies, forall_const, not_true_eq_false, not_false_eq_true, ite_true, ite_false, Bool.false_eq_true, I_I, J_J, Nat.add_left_cancel_iff, Nat.reduceEqDiff, Nat.add_eq_left, Nat.left_eq_add, false_and, and_false, Nat.reduceSub, Nat.sub_self, Nat.le_refl, Nat.zero_le, ge_iff_le, Nat.reduceAdd, Nat.reduceLeDiff, Nat.zero_add, Nat.reduceLT, z_lt, z_le, z_eq, z_l0, z_g0, z_le0, z_ge0, z_e0, z_e1, z_vp, z_nc, z_rem, z_div, i_ltT, i_ltF, i_leT, i_leF, i_eqT, i_eqF, n_ltT, n_ltF, n_leT, n_leF, n_eqT, n_eqF, tn_9, tn_12, tn_14, tn_20, tn_28, tn_44, tn_52, tn_68, tn_84, tn_100, tn_116, tn_132, fu_e, up_eq, ob_0, ob_b, oi_add, oi_sub, oi_mul, oi_neg, Int.add_zero, Int.zero_add, or_true, true_or, or_false, false_or, and_self, z_i2l, z_l2i, lo_nat, lo_add, lo_sub, lo_mul, lo_0, e_rem, sr0, mr_J0_length_8abf5]
  exact hq
theorem c_ck3 {x y : Int} {v : Value} {w : mW} {Q : mW → mO → Prop} (hv : v = .null ∨ ∃ r, v = .ref r) (h : 0 ≤ x ∧ x < y ∧ y ≤ 1000) (hq : Q w (.inl (some (.int (Int32.ofInt x))))) : CT n_J3_checkIndex_8e157 [.int (Int32.ofInt x), .int (Int32.ofInt y), v] w Q := by
  have k : RT n_J3_checkIndex_8e157 0 [.int (Int32.ofInt x), .int (Int32.ofInt y), v] [] w (0, 0, false) Q := by
    refine rt_J3_checkIndex_8e157_0 ?_
    simp (disch := omega) only [wp_c, wp_n, jj_n, v_ct, Int.reduceToNat, Int.toNat_natCast, stE, wlE, lgt, lpu, lpw, v_c2, va_s, true_and, and_true, Option.toList, List.nil_append, List.cons_append, List.take, List.drop, List.reverse, List.reverseAux, List.length_cons, List.length_nil, reduceCtorEq, false_implies, true_implies, forall_const, not_true_eq_false, not_false_eq_true, ite_true, ite_false, Bool.false_eq_true, I_I, J_J, Nat.add_left_cancel_iff, Nat.reduceEqDiff, Nat.add_eq_left, Nat.left_eq_add, false_and, and_false, Nat.reduceSub, Nat.sub_self, Nat.le_refl, Nat.zero_le, ge_iff_le, Nat.reduceAdd, Nat.reduceLeDiff, Nat.zero_add, Nat.reduceLT, z_lt, z_le, z_eq, z_l0, z_g0, z_le0, z_ge0, z_e0, z_e1, z_vp, z_nc, z_rem, z_div, i_ltT, i_ltF, i_leT, i_leF, i_eqT, i_eqF, n_ltT, n_ltF, n_leT, n_leF, n_eqT, n_eqF, tn_9, tn_12, tn_14, tn_20, tn_28, tn_44, tn_52, tn_68, tn_84, tn_100, tn_116, tn_132, fu_e, up_eq, ob_0, ob_b, oi_add, oi_sub, oi_mul, oi_neg, Int.add_zero, Int.zero_add, or_true, true_or, or_false, false_or, and_self, z_i2l, z_l2i, lo_nat, lo_add, lo_sub, lo_mul, lo_0, e_rem]
    refine rt_J3_checkIndex_8e157_16 ?_
    simp (disch := omega) only [wp_c, wp_n, jj_n, v_ct, Int.reduceToNat, Int.toNat_natCast, stE, wlE, lgt, lpu, lpw, v_c2, va_s, true_and, and_true, Option.toList, List.nil_append, List.cons_append, List.take, List.drop, List.reverse, List.reverseAux, List.length_cons, List.length_nil, reduceCtorEq, false_implies, true_implies, forall_const, not_true_eq_false, not_false_eq_true, ite_true, ite_false, Bool.false_eq_true, I_I, J_J, Nat.add_left_cancel_iff, Nat.reduceEqDiff, Nat.add_eq_left, Nat.left_eq_add, false_and, and_false, Nat.reduceSub, Nat.sub_self, Nat.le_refl, Nat.zero_le, ge_iff_le, Nat.reduceAdd, Nat.reduceLeDiff, Nat.zero_add, Nat.reduceLT, z_lt, z_le, z_eq, z_l0, z_g0, z_le0, z_ge0, z_e0, z_e1, z_vp, z_nc, z_rem, z_div, i_ltT, i_ltF, i_leT, i_leF, i_eqT, i_eqF, n_ltT, n_ltF, n_leT, n_leF, n_eqT, n_eqF, tn_9, tn_12, tn_14, tn_20, tn_28, tn_44, tn_52, tn_68, tn_84, tn_100, tn_116, tn_132, fu_e, up_eq, ob_0, ob_b, oi_add, oi_sub, oi_mul, oi_neg, Int.add_zero, Int.zero_add, or_true, true_or, or_false, false_or, and_self, z_i2l, z_l2i, lo_nat, lo_add, lo_sub, lo_mul, lo_0, e_rem, mr_J3_checkIndex_8e157]
    exact hq
  rcases hv with rfl | ⟨r, rfl⟩
  · exact ct_mk ml_J3_checkIndex_8e157 mg_J3_checkIndex_8e157 rfl (Nat.le_of_ble_eq_true rfl) k
  · exact ct_J3_checkIndex_8e157 k
theorem c_ckI {x y : Int} {w : mW} {Q : mW → mO → Prop} (h : 0 ≤ x ∧ x < y ∧ y ≤ 1000) (hq : Q w (.inl none)) : CT n_J0_checkIndex_df160 [.int (Int32.ofInt x), .int (Int32.ofInt y)] w Q := by
  refine ct_J0_checkIndex_df160 (rt_J0_checkIndex_df160_0 ?_)
  simp (disch := omega) only [wp_c, wp_n, jj_n, v_ct, Int.reduceToNat, Int.toNat_natCast, stE, wlE, lgt, lpu, lpw, v_c2, va_s, true_and, and_true, Option.toList, List.nil_append, List.cons_append, List.take, List.drop, List.reverse, List.reverseAux, List.length_cons, List.length_nil, reduceCtorEq, false_implies, true_implies, forall_const, not_true_eq_false, not_false_eq_true, ite_true, ite_false, Bool.false_eq_true, I_I, J_J, Nat.add_left_cancel_iff, Nat.reduceEqDiff, Nat.add_eq_left, Nat.left_eq_add, false_and, and_false, Nat.reduceSub, Nat.sub_self, Nat.le_refl, Nat.zero_le, ge_iff_le, Nat.reduceAdd, Nat.reduceLeDiff, Nat.zero_add, Nat.reduceLT, z_lt, z_le, z_eq, z_l0, z_g0, z_le0, z_ge0, z_e0, z_e1, z_vp, z_nc, z_rem, z_div, i_ltT, i_ltF, i_leT, i_leF, i_eqT, i_eqF, n_ltT, n_ltF, n_leT, n_leF, n_eqT, n_eqF, tn_9, tn_12, tn_14, tn_20, tn_28, tn_44, tn_52, tn_68, tn_84, tn_100, tn_116, tn_132, fu_e, up_eq, ob_0, ob_b, oi_add, oi_sub, oi_mul, oi_neg, Int.add_zero, Int.zero_add, or_true, true_or, or_false, false_or, and_self, z_i2l, z_l2i, lo_nat, lo_add, lo_sub, lo_mul, lo_0, e_rem, mh_J0_checkIndex_df160]
  refine ⟨c_ck3 (Or.inl rfl) h ?_, c_ck3 (Or.inr ⟨42, rfl⟩) h ?_⟩
  · simp (disch := omega) only [wp_c, wp_n, jj_n, v_ct, Int.reduceToNat, Int.toNat_natCast, stE, wlE, lgt, lpu, lpw, v_c2, va_s, true_and, and_true, Option.toList, List.nil_append, List.cons_append, List.take, List.drop, List.reverse, List.reverseAux, List.length_cons, List.length_nil, reduceCtorEq, false_implies, true_implies, forall_const, not_true_eq_false, not_false_eq_true, ite_true, ite_false, Bool.false_eq_true, I_I, J_J, Nat.add_left_cancel_iff, Nat.reduceEqDiff, Nat.add_eq_left, Nat.left_eq_add, false_and, and_false, Nat.reduceSub, Nat.sub_self, Nat.le_refl, Nat.zero_le, ge_iff_le, Nat.reduceAdd, Nat.reduceLeDiff, Nat.zero_add, Nat.reduceLT, z_lt, z_le, z_eq, z_l0, z_g0, z_le0, z_ge0, z_e0, z_e1, z_vp, z_nc, z_rem, z_div, i_ltT, i_ltF, i_leT, i_leF, i_eqT, i_eqF, n_ltT, n_ltF, n_leT, n_leF, n_eqT, n_eqF, tn_9, tn_12, tn_14, tn_20, tn_28, tn_44, tn_52, tn_68, tn_84, tn_100, tn_116, tn_132, fu_e, up_eq, ob_0, ob_b, oi_add, oi_sub, oi_mul, oi_neg, Int.add_zero, Int.zero_add, or_true, true_or, or_false, false_or, and_self, z_i2l, z_l2i, lo_nat, lo_add, lo_sub, lo_mul, lo_0, e_rem]
    exact hq
  · simp (disch := omega) only [wp_c, wp_n, jj_n, v_ct, Int.reduceToNat, Int.toNat_natCast, stE, wlE, lgt, lpu, lpw, v_c2, va_s, true_and, and_true, Option.toList, List.nil_append, List.cons_append, List.take, List.drop, List.reverse, List.reverseAux, List.length_cons, List.length_nil, reduceCtorEq, false_implies, true_implies, forall_const, not_true_eq_false, not_false_eq_true, ite_true, ite_false, Bool.false_eq_true, I_I, J_J, Nat.add_left_cancel_iff, Nat.reduceEqDiff, Nat.add_eq_left, Nat.left_eq_add, false_and, and_false, Nat.reduceSub, Nat.sub_self, Nat.le_refl, Nat.zero_le, ge_iff_le, Nat.reduceAdd, Nat.reduceLeDiff, Nat.zero_add, Nat.reduceLT, z_lt, z_le, z_eq, z_l0, z_g0, z_le0, z_ge0, z_e0, z_e1, z_vp, z_nc, z_rem, z_div, i_ltT, i_ltF, i_leT, i_leF, i_eqT, i_eqF, n_ltT, n_ltF, n_leT, n_leF, n_eqT, n_eqF, tn_9, tn_12, tn_14, tn_20, tn_28, tn_44, tn_52, tn_68, tn_84, tn_100, tn_116, tn_132, fu_e, up_eq, ob_0, ob_b, oi_add, oi_sub, oi_mul, oi_neg, Int.add_zero, Int.zero_add, or_true, true_or, or_false, false_or, and_self, z_i2l, z_l2i, lo_nat, lo_add, lo_sub, lo_mul, lo_0, e_rem]
    exact hq
theorem and255 {x : Int} (h : 0 ≤ x ∧ x ≤ 127) : ((Int32.ofInt x &&& Int32.ofInt 255).toUInt32 % 65536).toInt32 = Int32.ofInt x := by
  obtain ⟨n, rfl⟩ : ∃ n : Nat, x = n := ⟨x.toNat, by omega⟩
  have hd : ∀ m : Fin 128, ((Int32.ofInt (m.val : Int) &&& Int32.ofInt 255).toUInt32 % 65536).toInt32 = Int32.ofInt (m.val : Int) := by decide +kernel
  exact hd ⟨n, by omega⟩
theorem c_ch1 {p n : Nat} {x c : Int} {w : mW} {Q : mW → mO → Prop} (hs : w_sh w p = (3, n)) (hn : n ≤ 1000) (hx : 0 ≤ x ∧ x < n) (hc : w_I w p x.toNat = Int32.ofInt c) (hc2 : 0 ≤ c ∧ c ≤ 127) (hq : Q w (.inl (some (.int (Int32.ofInt c))))) : CT n_J1_charAt_3b067 [.ref p, .int (Int32.ofInt x)] w Q := by
  have hto : (Int32.ofInt c).toInt = c := oi_to ⟨by omega, by omega⟩
  refine ct_J1_charAt_3b067 (rt_J1_charAt_3b067_0 ?_)
  simp (disch := omega) only [wp_c, wp_n, jj_n, v_ct, Int.reduceToNat, Int.toNat_natCast, stE, wlE, lgt, lpu, lpw, v_c2, va_s, true_and, and_true, Option.toList, List.nil_append, List.cons_append, List.take, List.drop, List.reverse, List.reverseAux, List.length_cons, List.length_nil, reduceCtorEq, false_implies, true_implies, forall_const, not_true_eq_false, not_false_eq_true, ite_true, ite_false, Bool.false_eq_true, I_I, J_J, Nat.add_left_cancel_iff, Nat.reduceEqDiff, Nat.add_eq_left, Nat.left_eq_add, false_and, and_false, Nat.reduceSub, Nat.sub_self, Nat.le_refl, Nat.zero_le, ge_iff_le, Nat.reduceAdd, Nat.reduceLeDiff, Nat.zero_add, Nat.reduceLT, z_lt, z_le, z_eq, z_l0, z_g0, z_le0, z_ge0, z_e0, z_e1, z_vp, z_nc, z_rem, z_div, i_ltT, i_ltF, i_leT, i_leF, i_eqT, i_eqF, n_ltT, n_ltF, n_leT, n_leF, n_eqT, n_eqF, tn_9, tn_12, tn_14, tn_20, tn_28, tn_44, tn_52, tn_68, tn_84, tn_100, tn_116, tn_132, fu_e, up_eq, ob_0, ob_b, oi_add, oi_sub, oi_mul, oi_neg, Int.add_zero, Int.zero_add, or_true, true_or, or_false, false_or, and_self, z_i2l, z_l2i, lo_nat, lo_add, lo_sub, lo_mul, lo_0, e_rem, hs, oi_nat, mh_J1_charAt_3b067]
  refine c_ckI ⟨by omega, by omega, by omega⟩ ?_
  simp (disch := omega) only [wp_c, wp_n, jj_n, v_ct, Int.reduceToNat, Int.toNat_natCast, stE, wlE, lgt, lpu, lpw, v_c2, va_s, true_and, and_true, Option.toList, List.nil_append, List.cons_append, List.take, List.drop, List.reverse, List.reverseAux, List.length_cons, List.length_nil, reduceCtorEq, false_implies, true_implies, forall_const, not_true_eq_false, not_false_eq_true, ite_true, ite_false, Bool.false_eq_true, I_I, J_J, Nat.add_left_cancel_iff, Nat.reduceEqDiff, Nat.add_eq_left, Nat.left_eq_add, false_and, and_false, Nat.reduceSub, Nat.sub_self, Nat.le_refl, Nat.zero_le, ge_iff_le, Nat.reduceAdd, Nat.reduceLeDiff, Nat.zero_add, Nat.reduceLT, z_lt, z_le, z_eq, z_l0, z_g0, z_le0, z_ge0, z_e0, z_e1, z_vp, z_nc, z_rem, z_div, i_ltT, i_ltF, i_leT, i_leF, i_eqT, i_eqF, n_ltT, n_ltF, n_leT, n_leF, n_eqT, n_eqF, tn_9, tn_12, tn_14, tn_20, tn_28, tn_44, tn_52, tn_68, tn_84, tn_100, tn_116, tn_132, fu_e, up_eq, ob_0, ob_b, oi_add, oi_sub, oi_mul, oi_neg, Int.add_zero, Int.zero_add, or_true, true_or, or_false, false_or, and_self, z_i2l, z_l2i, lo_nat, lo_add, lo_sub, lo_mul, lo_0, e_rem, hs, hc, and255 hc2, hto, mr_J1_charAt_3b067]
  first | exact hq | exact ⟨hc2.1, by omega, hq⟩
/-- a sign of a text -/
theorem c_chS {s p : Nat} {l : List Int} {x : Int} {w : mW} {Q : mW → mO → Prop} (h : STR w s p l) (hx : 0 ≤ x ∧ x < l.length) (hq : Q w (.inl (some (.int (Int32.ofInt (l.getD x.toNat 0)))))) : CT n_J0_charAt_5068e [.ref s, .int (Int32.ofInt x)] w Q := by
  have l1 : Nat.lt s 100 = False := eq_false (by have := h.1.2.1; show ¬ s < 100; omega)
  have l2 : Nat.le 100 s = True := eq_true h.1.2.1
  obtain ⟨c1, c2⟩ := h.2.2.2.2.2 x.toNat (by omega)
  have hto : (Int32.ofInt (l.getD x.toNat 0)).toInt = l.getD x.toNat 0 := oi_to ⟨by omega, by omega⟩
  have hl := h.2.2.2.2.1
  refine ct_J0_charAt_5068e (rt_J0_charAt_5068e_0 ?_)
  simp (disch := omega) only [wp_c, wp_n, jj_n, v_ct, Int.reduceToNat, Int.toNat_natCast, stE, wlE, lgt, lpu, lpw, v_c2, va_s, true_and, and_true, Option.toList, List.nil_append, List.cons_append, List.take, List.drop, List.reverse, List.reverseAux, List.length_cons, List.length_nil, reduceCtorEq, false_implies, true_implies, forall_const, not_true_eq_false, not_false_eq_true, ite_true, ite_false, Bool.false_eq_true, I_I, J_J, Nat.add_left_cancel_iff, Nat.reduceEqDiff, Nat.add_eq_left, Nat.left_eq_add, false_and, and_false, Nat.reduceSub, Nat.sub_self, Nat.le_refl, Nat.zero_le, ge_iff_le, Nat.reduceAdd, Nat.reduceLeDiff, Nat.zero_add, Nat.reduceLT, z_lt, z_le, z_eq, z_l0, z_g0, z_le0, z_ge0, z_e0, z_e1, z_vp, z_nc, z_rem, z_div, i_ltT, i_ltF, i_leT, i_leF, i_eqT, i_eqF, n_ltT, n_ltF, n_leT, n_leF, n_eqT, n_eqF, tn_9, tn_12, tn_14, tn_20, tn_28, tn_44, tn_52, tn_68, tn_84, tn_100, tn_116, tn_132, fu_e, up_eq, ob_0, ob_b, oi_add, oi_sub, oi_mul, oi_neg, Int.add_zero, Int.zero_add, or_true, true_or, or_false, false_or, and_self, z_i2l, z_l2i, lo_nat, lo_add, lo_sub, lo_mul, lo_0, e_rem, h.1.1, true_or, mh_J0_charAt_5068e]
  try refine ⟨by omega, ?_⟩
  refine c_latS h ?_
  simp (disch := omega) only [wp_c, wp_n, jj_n, v_ct, Int.reduceToNat, Int.toNat_natCast, stE, wlE, lgt, lpu, lpw, v_c2, va_s, true_and, and_true, Option.toList, List.nil_append, List.cons_append, List.take, List.drop, List.reverse, List.reverseAux, List.length_cons, List.length_nil, reduceCtorEq, false_implies, true_implies, forall_const, not_true_eq_false, not_false_eq_true, ite_true, ite_false, Bool.false_eq_true, I_I, J_J, Nat.add_left_cancel_iff, Nat.reduceEqDiff, Nat.add_eq_left, Nat.left_eq_add, false_and, and_false, Nat.reduceSub, Nat.sub_self, Nat.le_refl, Nat.zero_le, ge_iff_le, Nat.reduceAdd, Nat.reduceLeDiff, Nat.zero_add, Nat.reduceLT, z_lt, z_le, z_eq, z_l0, z_g0, z_le0, z_ge0, z_e0, z_e1, z_vp, z_nc, z_rem, z_div, i_ltT, i_ltF, i_leT, i_leF, i_eqT, i_eqF, n_ltT, n_ltF, n_leT, n_leF, n_eqT, n_eqF, tn_9, tn_12, tn_14, tn_20, tn_28, tn_44, tn_52, tn_68, tn_84, tn_100, tn_116, tn_132, fu_e, up_eq, ob_0, ob_b, oi_add, oi_sub, oi_mul, oi_neg, Int.add_zero, Int.zero_add, or_true, true_or, or_false, false_or, and_self, z_i2l, z_l2i, lo_nat, lo_add, lo_sub, lo_mul, lo_0, e_rem, l1, l2, h.1.1, h.2.1.1, mh_J0_charAt_5068e]
  refine c_ch1 h.2.2.2.1 (by omega) hx c1 c2 ?_
  simp (disch := omega) only [wp_c, wp_n, jj_n, v_ct, Int.reduceToNat, Int.toNat_natCast, stE, wlE, lgt, lpu, lpw, v_c2, va_s, true_and, and_true, Option.toList, List.nil_append, List.cons_append, List.take, List.drop, List.reverse, List.reverseAux, List.length_cons, List.length_nil, reduceCtorEq, false_implies, true_implies, forall_const, not_true_eq_false, not_false_eq_true, ite_true, ite_false, Bool.false_eq_true, I_I, J_J, Nat.add_left_cancel_iff, Nat.reduceEqDiff, Nat.add_eq_left, Nat.left_eq_add, false_and, and_false, Nat.reduceSub, Nat.sub_self, Nat.le_refl, Nat.zero_le, ge_iff_le, Nat.reduceAdd, Nat.reduceLeDiff, Nat.zero_add, Nat.reduceLT, z_lt, z_le, z_eq, z_l0, z_g0, z_le0, z_ge0, z_e0, z_e1, z_vp, z_nc, z_rem, z_div, i_ltT, i_ltF, i_leT, i_leF, i_eqT, i_eqF, n_ltT, n_ltF, n_leT, n_leF, n_eqT, n_eqF, tn_9, tn_12, tn_14, tn_20, tn_28, tn_44, tn_52, tn_68, tn_84, tn_100, tn_116, tn_132, fu_e, up_eq, ob_0, ob_b, oi_add, oi_sub, oi_mul, oi_neg, Int.add_zero, Int.zero_add, or_true, true_or, or_false, false_or, and_self, z_i2l, z_l2i, lo_nat, lo_add, lo_sub, lo_mul, lo_0, e_rem, hto, mr_J0_charAt_5068e]
  first | exact hq | exact ⟨c2.1, by omega, hq⟩
theorem c_ch4 {b a p : Nat} {l : List Int} {x : Int} {w : mW} {Q : mW → mO → Prop} (h : SBu w b a p l) (hx : 0 ≤ x ∧ x < l.length) (hq : Q w (.inl (some (.int (Int32.ofInt (l.getD x.toNat 0)))))) : CT n_J4_charAt_5068e [.ref a, .int (Int32.ofInt x)] w Q := by
  obtain ⟨⟨s1, s2, s3⟩, ⟨r1, r2, r3⟩, ⟨v1, v3⟩, ⟨n, hn, hn1, hn2⟩, hl, hc, hf⟩ := h
  obtain ⟨c1, c2⟩ := hc x.toNat (by omega)
  have hto : (Int32.ofInt (l.getD x.toNat 0)).toInt = l.getD x.toNat 0 := oi_to ⟨by omega, by omega⟩
  refine ct_J4_charAt_5068e (rt_J4_charAt_5068e_0 ?_)
  simp (disch := omega) only [wp_c, wp_n, jj_n, v_ct, Int.reduceToNat, Int.toNat_natCast, stE, wlE, lgt, lpu, lpw, v_c2, va_s, true_and, and_true, Option.toList, List.nil_append, List.cons_append, List.take, List.drop, List.reverse, List.reverseAux, List.length_cons, List.length_nil, reduceCtorEq, false_implies, true_implies, forall_const, not_true_eq_false, not_false_eq_true, ite_true, ite_false, Bool.false_eq_true, I_I, J_J, Nat.add_left_cancel_iff, Nat.reduceEqDiff, Nat.add_eq_left, Nat.left_eq_add, false_and, and_false, Nat.reduceSub, Nat.sub_self, Nat.le_refl, Nat.zero_le, ge_iff_le, Nat.reduceAdd, Nat.reduceLeDiff, Nat.zero_add, Nat.reduceLT, z_lt, z_le, z_eq, z_l0, z_g0, z_le0, z_ge0, z_e0, z_e1, z_vp, z_nc, z_rem, z_div, i_ltT, i_ltF, i_leT, i_leF, i_eqT, i_eqF, n_ltT, n_ltF, n_leT, n_leF, n_eqT, n_eqF, tn_9, tn_12, tn_14, tn_20, tn_28, tn_44, tn_52, tn_68, tn_84, tn_100, tn_116, tn_132, fu_e, up_eq, ob_0, ob_b, oi_add, oi_sub, oi_mul, oi_neg, Int.add_zero, Int.zero_add, or_true, true_or, or_false, false_or, and_self, z_i2l, z_l2i, lo_nat, lo_add, lo_sub, lo_mul, lo_0, e_rem, s1, mh_J4_charAt_5068e]
  refine ct_J5_charAt_5068e (rt_J5_charAt_5068e_0 ?_)
  simp (disch := omega) only [wp_c, wp_n, jj_n, v_ct, Int.reduceToNat, Int.toNat_natCast, stE, wlE, lgt, lpu, lpw, v_c2, va_s, true_and, and_true, Option.toList, List.nil_append, List.cons_append, List.take, List.drop, List.reverse, List.reverseAux, List.length_cons, List.length_nil, reduceCtorEq, false_implies, true_implies, forall_const, not_true_eq_false, not_false_eq_true, ite_true, ite_false, Bool.false_eq_true, I_I, J_J, Nat.add_left_cancel_iff, Nat.reduceEqDiff, Nat.add_eq_left, Nat.left_eq_add, false_and, and_false, Nat.reduceSub, Nat.sub_self, Nat.le_refl, Nat.zero_le, ge_iff_le, Nat.reduceAdd, Nat.reduceLeDiff, Nat.zero_add, Nat.reduceLT, z_lt, z_le, z_eq, z_l0, z_g0, z_le0, z_ge0, z_e0, z_e1, z_vp, z_nc, z_rem, z_div, i_ltT, i_ltF, i_leT, i_leF, i_eqT, i_eqF, n_ltT, n_ltF, n_leT, n_leF, n_eqT, n_eqF, tn_9, tn_12, tn_14, tn_20, tn_28, tn_44, tn_52, tn_68, tn_84, tn_100, tn_116, tn_132, fu_e, up_eq, ob_0, ob_b, oi_add, oi_sub, oi_mul, oi_neg, Int.add_zero, Int.zero_add, or_true, true_or, or_false, false_or, and_self, z_i2l, z_l2i, lo_nat, lo_add, lo_sub, lo_mul, lo_0, e_rem, s1, r1, v1, v3, hn, sr0, oi_nat, mh_J5_charAt_5068e]
  refine c_min ⟨by omega, by omega⟩ ⟨by omega, by omega⟩ ?_
  have em : (if (l.length : Int) ≤ (n : Int) then (l.length : Int) else (n : Int)) = l.length := if_pos (by omega)
  simp (disch := omega) only [wp_c, wp_n, jj_n, v_ct, Int.reduceToNat, Int.toNat_natCast, stE, wlE, lgt, lpu, lpw, v_c2, va_s, true_and, and_true, Option.toList, List.nil_append, List.cons_append, List.take, List.drop, List.reverse, List.reverseAux, List.length_cons, List.length_nil, reduceCtorEq, false_implies, true_implies, forall_const, not_true_eq_false, not_false_eq_true, ite_true, ite_false, Bool.false_eq_true, I_I, J_J, Nat.add_left_cancel_iff, Nat.reduceEqDiff, Nat.add_eq_left, Nat.left_eq_add, false_and, and_false, Nat.reduceSub, Nat.sub_self, Nat.le_refl, Nat.zero_le, ge_iff_le, Nat.reduceAdd, Nat.reduceLeDiff, Nat.zero_add, Nat.reduceLT, z_lt, z_le, z_eq, z_l0, z_g0, z_le0, z_ge0, z_e0, z_e1, z_vp, z_nc, z_rem, z_div, i_ltT, i_ltF, i_leT, i_leF, i_eqT, i_eqF, n_ltT, n_ltF, n_leT, n_leF, n_eqT, n_eqF, tn_9, tn_12, tn_14, tn_20, tn_28, tn_44, tn_52, tn_68, tn_84, tn_100, tn_116, tn_132, fu_e, up_eq, ob_0, ob_b, oi_add, oi_sub, oi_mul, oi_neg, Int.add_zero, Int.zero_add, or_true, true_or, or_false, false_or, and_self, z_i2l, z_l2i, lo_nat, lo_add, lo_sub, lo_mul, lo_0, e_rem, em, mh_J5_charAt_5068e]
  refine c_ckI ⟨by omega, by omega, by omega⟩ ?_
  simp (disch := omega) only [wp_c, wp_n, jj_n, v_ct, Int.reduceToNat, Int.toNat_natCast, stE, wlE, lgt, lpu, lpw, v_c2, va_s, true_and, and_true, Option.toList, List.nil_append, List.cons_append, List.take, List.drop, List.reverse, List.reverseAux, List.length_cons, List.length_nil, reduceCtorEq, false_implies, true_implies, forall_const, not_true_eq_false, not_false_eq_true, ite_true, ite_false, Bool.false_eq_true, I_I, J_J, Nat.add_left_cancel_iff, Nat.reduceEqDiff, Nat.add_eq_left, Nat.left_eq_add, false_and, and_false, Nat.reduceSub, Nat.sub_self, Nat.le_refl, Nat.zero_le, ge_iff_le, Nat.reduceAdd, Nat.reduceLeDiff, Nat.zero_add, Nat.reduceLT, z_lt, z_le, z_eq, z_l0, z_g0, z_le0, z_ge0, z_e0, z_e1, z_vp, z_nc, z_rem, z_div, i_ltT, i_ltF, i_leT, i_leF, i_eqT, i_eqF, n_ltT, n_ltF, n_leT, n_leF, n_eqT, n_eqF, tn_9, tn_12, tn_14, tn_20, tn_28, tn_44, tn_52, tn_68, tn_84, tn_100, tn_116, tn_132, fu_e, up_eq, ob_0, ob_b, oi_add, oi_sub, oi_mul, oi_neg, Int.add_zero, Int.zero_add, or_true, true_or, or_false, false_or, and_self, z_i2l, z_l2i, lo_nat, lo_add, lo_sub, lo_mul, lo_0, e_rem, hn, c1, and255 c2, hto, mr_J5_charAt_5068e, mr_J4_charAt_5068e]
  first | exact hq | exact ⟨c2.1, by omega, hq⟩ | exact ⟨c2.1, by omega, c2.1, by omega, hq⟩
-- 60.law
/-! the class beside new cells -/
def LO (w w' : mW) : Prop := ∀ a, a < 309 → w_sh w' a = w_sh w a ∧ w_R w' a = w_R w a ∧ w_I w' a = w_I w a ∧ w_J w' a = w_J w a
theorem Mb.lo {w w' : mW} {b : Nat} (h : Mb w b) (e : LO w w') (hb : b + 12 ≤ 309) : Mb w' b := by
  have s : ∀ c, c < 12 → w_sh w' (b + c) = w_sh w (b + c) := fun c hc => (e (b + c) (by omega)).1
  have r : ∀ c, c < 12 → w_R w' (b + c) = w_R w (b + c) := fun c hc => (e (b + c) (by omega)).2.1
  have s0 : w_sh w' b = w_sh w b := s 0 (by omega)
  have r0 : w_R w' b = w_R w b := r 0 (by omega)
  unfold Mb
  rw [s0, s 1 (by omega), s 2 (by omega), s 3 (by omega), s 4 (by omega), s 5 (by omega), s 6 (by omega), s 7 (by omega), s 8 (by omega), s 9 (by omega), s 10 (by omega), s 11 (by omega), r0, r 7 (by omega), r 9 (by omega)]
  exact h
theorem MS.lo {w w' : mW} {b : Nat} {A : Row} (h : MS w b A) (e : LO w w') (hb : b + 12 ≤ 309) : MS w' b A := h.loc (fun a _ a2 => e a (by omega))
theorem CB.lo {w w' : mW} (h : CB w) (e : LO w w') : CB w' := by
  have s : ∀ c, c < 309 → w_sh w' c = w_sh w c := fun c hc => (e c hc).1
  have r : ∀ c, c < 309 → w_R w' c = w_R w c := fun c hc => (e c hc).2.1
  obtain ⟨h1, ⟨h2, h3, h4, h5, h6, h7⟩, ⟨k1, k2, k3⟩, k4, k5, k6, k7, k8, k9⟩ := h
  refine ⟨by rw [s 100 (by omega), r 100 (by omega)]; exact h1, ⟨h2.lo e (by omega), h3.lo e (by omega), by rw [s _ (by omega)]; exact h4, by rw [r _ (by omega)]; exact h5, by rw [s _ (by omega)]; exact h6, fun i hi => ⟨by rw [r _ (by omega)]; exact (h7 i hi).1, (h7 i hi).2.lo e (by omega)⟩⟩,
    ⟨by rw [s _ (by omega)]; exact k1, by rw [s _ (by omega)]; exact k2, fun i hi => ⟨by rw [r _ (by omega)]; exact (k3 i hi).1, (k3 i hi).2.lo e (by omega)⟩⟩, ?_, ?_, ?_, ?_, ?_, by rw [s _ (by omega)]; exact k9⟩
  · unfold Mu; rw [s _ (by omega), s _ (by omega), r _ (by omega)]; exact k4
  · rw [s 275 (by omega), s 276 (by omega), r 275 (by omega)]; exact k5
  · rw [s 277 (by omega), r 277 (by omega)]; exact k6
  · rw [s 278 (by omega), s 279 (by omega), r 278 (by omega)]; exact k7
  · rw [s 280 (by omega), s 281 (by omega), s 282 (by omega), s 283 (by omega), r 280 (by omega)]; exact k8
theorem CS.lo {w w' : mW} {A : Row} {Z : Zx} {Y : Yx} {X : Xx} {U : Ux} (h : CS w A Z Y X U) (e : LO w w') : CS w' A Z Y X U := by
  have z : ∀ c, c < 309 → w_I w' c = w_I w c := fun c hc => (e c hc).2.2.1
  obtain ⟨h1, h2, h3, h4, h5, h6, h7⟩ := h
  refine ⟨h1.lo e, h2.lo e (by omega), ?_, ?_, ?_, ?_, ?_⟩
  · unfold IB; rw [z 275 (by omega), z 276 (by omega)]; exact h3
  · unfold ER; rw [z 277 (by omega)]; exact h4
  · obtain ⟨g1, g2, nx, g3, g4, g5⟩ := h5
    exact ⟨g1, by rw [z 125 (by omega)]; exact g2, nx, g3, by rw [z 125 (by omega)]; exact g4, fun i hi => (g5 i hi).lo e (by omega)⟩
  · exact ⟨fun i hi => by rw [z 272 (by omega)]; exact h6.1 i hi, fun i hi q => (h6.2 i hi q).lo e (by omega)⟩
  · unfold US; rw [z 100 (by omega), z 284 (by omega)]; exact h7
theorem FO.lo {b : Nat} {w w' : mW} (h : FO b w w') (hb : 309 ≤ b) : LO w w' := fun a ha => h.1 a (Or.inl (by omega))
theorem FB.lo {b : Nat} {w w' : mW} (h : FB b w w') (hb : 309 ≤ b) : LO w w' := fun a ha => h.1 a (Or.inl (by omega))
theorem Mb.no4 {w : mW} {b q : Nat} (h : Mb w b) (h1 : b ≤ q) (h2 : q < b + 12) : ¬ w_sh w q = (1, 4) := by
  obtain ⟨⟨s0, s1, s2, s3, s4, s5, s6, s7, s8, s9, s10, s11⟩, -⟩ := h
  rcases (show q = b ∨ q = b + 1 ∨ q = b + 2 ∨ q = b + 3 ∨ q = b + 4 ∨ q = b + 5 ∨ q = b + 6 ∨ q = b + 7 ∨ q = b + 8 ∨ q = b + 9 ∨ q = b + 10 ∨ q = b + 11 by omega) with e | e | e | e | e | e | e | e | e | e | e | e <;> rw [e]
  · rw [s0]; decide
  · rw [s1]; decide
  · rw [s2]; decide
  · rw [s3]; decide
  · rw [s4]; decide
  · rw [s5]; decide
  · rw [s6]; decide
  · rw [s7]; decide
  · rw [s8]; decide
  · rw [s9]; decide
  · rw [s10]; decide
  · rw [s11]; decide
theorem CB.no4 {w : mW} {q : Nat} (h : CB w) (h1 : 100 ≤ q) (h2 : q < 309) : ¬ w_sh w q = (1, 4) := by
  obtain ⟨h1', ⟨m1, m2, s125, -, s126, m7⟩, ⟨s271, s272, m3⟩, ⟨s273, s274, -⟩, ⟨s275, -, s276⟩, ⟨s277, -⟩, ⟨s278, -, -, s279⟩, ⟨s280, -, -, -, -, s281, s282, s283⟩, s284⟩ := h
  have s100 := h1'.1
  by_cases q1 : 101 ≤ q ∧ q < 113
  · exact m1.no4 q1.1 (by omega)
  by_cases q2 : 113 ≤ q ∧ q < 125
  · exact m2.no4 q2.1 (by omega)
  by_cases q3 : 127 ≤ q ∧ q < 271
  · exact (m7 ((q - 127) / 12) (by omega)).2.no4 (by omega) (by omega)
  by_cases q4 : 285 ≤ q ∧ q < 309
  · exact (m3 ((q - 285) / 12) (by omega)).2.no4 (by omega) (by omega)
  rcases (show q = 100 ∨ q = 125 ∨ q = 126 ∨ q = 271 ∨ q = 272 ∨ q = 273 ∨ q = 274 ∨ q = 275 ∨ q = 276 ∨ q = 277 ∨ q = 278 ∨ q = 279 ∨ q = 280 ∨ q = 281 ∨ q = 282 ∨ q = 283 ∨ q = 284 by omega) with e | e | e | e | e | e | e | e | e | e | e | e | e | e | e | e | e <;> rw [e]
  · rw [s100]; decide
  · rw [s125]; decide
  · rw [s126]; decide
  · rw [s271]; decide
  · rw [s272]; decide
  · rw [s273]; decide
  · rw [s274]; decide
  · rw [s275]; decide
  · rw [s276]; decide
  · rw [s277]; decide
  · rw [s278]; decide
  · rw [s279]; decide
  · rw [s280]; decide
  · rw [s281]; decide
  · rw [s282]; decide
  · rw [s283]; decide
  · rw [s284]; decide
/-- what the class leaves alone -/
theorem OW.fx {w w1 : mW} {b o : Nat} {P : Nat → Nat} {B : Row} (h : OW w b o P B) (f : FX CL w w1) (hb : 309 ≤ b) (hC : CB w) : OW w1 b o P B := by
  have hge := h.ge
  have n : ∀ a, b ≤ a → ¬ CL a := fun a ha q => by unfold CL at q; omega
  have i : ∀ a, b ≤ a → w_I w1 a = w_I w a ∧ w_J w1 a = w_J w a := fun a ha => f.2.2.2 a (n a ha)
  obtain ⟨⟨p1, p2, p3, p4, p5, p6⟩, ⟨v1, v2, v4⟩, l0, l1⟩ := h
  refine ⟨⟨by rw [f.1]; exact p1, by rw [f.2.2.1]; exact p2, fun g g1 g2 => by rw [f.1]; exact p3 g g1 g2, by rw [f.1]; exact p4, fun g g1 g2 => by rw [f.2.1, f.2.2.1]; exact p5 g g1 g2, p6⟩, ⟨fun g hg => by rw [(i o p2.1).1]; exact v1 g hg, by rw [(i o p2.1).2]; exact v2, fun g j g1 g2 hj => by rw [(i _ (hge.2 g g1 (by omega)).1).1]; exact v4 g j g1 g2 hj⟩, l0, fun k hk => ?_⟩
  obtain ⟨q, q1, q2, q3, q4⟩ := l1 k hk
  refine ⟨q, by rw [f.2.1]; exact q1, by rw [f.1]; exact q2, by rw [f.2.2.1]; exact q3, fun m hm => ?_⟩
  by_cases hq : CL q
  · exact absurd q2 (hC.no4 hq.1 hq.2)
  · rw [(f.2.2.2 q hq).1]; exact q4 m hm
/-- bytes in a cell -/
def BY (w : mW) (a : Nat) (l : List Int) : Prop := (309 ≤ a ∧ a < 100 + w_n w) ∧ w_sh w a = (3, l.length) ∧ l.length ≤ 400 ∧ ∀ i, i < l.length → w_I w a i = Int32.ofInt (l.getD i 0) ∧ 0 ≤ l.getD i 0 ∧ l.getD i 0 ≤ 127
theorem BY.fx {w w1 : mW} {a : Nat} {l : List Int} (h : BY w a l) (f : FX CL w w1) : BY w1 a l := by
  have n : ¬ CL a := fun q => by have := h.1.1; unfold CL at q; omega
  exact ⟨by rw [f.2.2.1]; exact h.1, by rw [f.1]; exact h.2.1, h.2.2.1, fun i hi => by rw [(f.2.2.2 a n).1]; exact h.2.2.2 i hi⟩
def cc (l : List Int) (i : Nat) : Int := if i < l.length then l.getD i 0 else 32
theorem cc_b {w : mW} {a : Nat} {l : List Int} (h : BY w a l) (i : Nat) : 0 ≤ cc l i ∧ cc l i ≤ 127 := by
  unfold cc
  split
  · rename_i q; exact (h.2.2.2 i q).2
  · omega
def fo4 (l : List Int) (k : Nat) : Int := ((cc l k * 256 + cc l (k + 1)) * 256 + cc l (k + 2)) * 256 + cc l (k + 3)
theorem shl8 {v c : Int} (h : 0 ≤ v ∧ v < 8388608) (hc : 0 ≤ c ∧ c ≤ 255) : (Int32.ofInt v <<< (Int32.ofInt 8 &&& 31)) ||| Int32.ofInt c = Int32.ofInt (v * 256 + c) := by
  obtain ⟨n, rfl⟩ : ∃ n : Nat, v = n := ⟨v.toNat, by omega⟩
  obtain ⟨m, rfl⟩ : ∃ m : Nat, c = m := ⟨c.toNat, by omega⟩
  have e8 : (Int32.ofInt 8 &&& 31) = 8 := by decide
  rw [e8, ← Int32.toBitVec_inj, Int32.toBitVec_or, Int32.toBitVec_shiftLeft]
  show (BitVec.ofInt 32 (n : Int)) <<< (_ : Nat) ||| BitVec.ofInt 32 (m : Int) = BitVec.ofInt 32 ((n : Int) * 256 + m)
  rw [show (n : Int) * 256 + m = ((n * 256 + m : Nat) : Int) by omega]
  rw [BitVec.ofInt_natCast, BitVec.ofInt_natCast, BitVec.ofInt_natCast]
  apply BitVec.eq_of_toNat_eq
  have h8 : ((8 : Int32).toBitVec.smod 32).toNat = 8 := by decide
  simp only [BitVec.toNat_or, BitVec.toNat_shiftLeft, BitVec.toNat_ofNat, h8]
  have h2 : m < 2 ^ 8 := by omega
  rw [Nat.mod_eq_of_lt (show n < 2 ^ 32 by omega), Nat.mod_eq_of_lt (show m < 2 ^ 32 by omega), Nat.mod_eq_of_lt (show n <<< 8 < 2 ^ 32 by rw [Nat.shiftLeft_eq]; omega), ← Nat.shiftLeft_add_eq_or_of_lt h2, Nat.shiftLeft_eq, Nat.mod_eq_of_lt (show n * 256 + m < 2 ^ 32 by omega)]
theorem z_four {a k : Nat} {l : List Int} {w : mW} {Q : mW → mO → Prop} (h : BY w a l) (hk : k ≤ 1000) (hq : Q w (.inl (some (.int (Int32.ofInt (fo4 l k)))))) : CT n_L_four [.ref a, .int (Int32.ofInt k)] w Q := by
  have hb := cc_b h
  obtain ⟨⟨ha, ha2⟩, hs, hl, hc⟩ := h
  have step : ∀ (v : Int) (i : Nat), 0 ≤ v ∧ v < 8388608 → k ≤ i → i < k + 4 → RT n_L_four 4 [.ref a, .int (Int32.ofInt k), .int (Int32.ofInt (v * 256 + cc l i)), .int (Int32.ofInt ((i + 1 : Nat) : Int))] [] w (0, 0, false) Q → RT n_L_four 4 [.ref a, .int (Int32.ofInt k), .int (Int32.ofInt v), .int (Int32.ofInt i)] [] w (0, 0, false) Q := by
    intro v i hv h1 h2 hnext
    have hcb := hb i
    have h33 : RT n_L_four 33 [.ref a, .int (Int32.ofInt k), .int (Int32.ofInt v), .int (Int32.ofInt i)] [.int (Int32.ofInt (cc l i)), .int (Int32.ofInt v <<< (Int32.ofInt 8 &&& 31))] w (0, 0, false) Q := by
      refine rt_L_four_33 ?_
      have e := shl8 hv (c := cc l i) ⟨hcb.1, by omega⟩
      have hc1 : ((i : Int) + 1) = ((i + 1 : Nat) : Int) := by omega
      simp (disch := omega) only [wp_c, wp_n, jj_n, v_ct, Int.reduceToNat, Int.toNat_natCast, stE, wlE, lgt, lpu, lpw, v_c2, va_s, true_and, and_true, Option.toList, List.nil_append, List.cons_append, List.take, List.drop, List.reverse, List.reverseAux, List.length_cons, List.length_nil, reduceCtorEq, false_implies, true_implies, forall_const, not_true_eq_false, not_false_eq_true, ite_true, ite_false, Bool.false_eq_true, I_I, J_J, Nat.add_left_cancel_iff, Nat.reduceEqDiff, Nat.add_eq_left, Nat.left_eq_add, false_and, and_false, Nat.reduceSub, Nat.sub_self, Nat.le_refl, Nat.zero_le, ge_iff_le, Nat.reduceAdd, Nat.reduceLeDiff, Nat.zero_add, Nat.reduceLT, z_lt, z_le, z_eq, z_l0, z_g0, z_le0, z_ge0, z_e0, z_e1, z_vp, z_nc, z_rem, z_div, i_ltT, i_ltF, i_leT, i_leF, i_eqT, i_eqF, n_ltT, n_ltF, n_leT, n_leF, n_eqT, n_eqF, tn_9, tn_12, tn_14, tn_20, tn_28, tn_44, tn_52, tn_68, tn_84, tn_100, tn_116, tn_132, fu_e, up_eq, ob_0, ob_b, oi_add, oi_sub, oi_mul, oi_neg, Int.add_zero, Int.zero_add, or_true, true_or, or_false, false_or, and_self, z_i2l, z_l2i, lo_nat, lo_add, lo_sub, lo_mul, lo_0, e_rem, e, hc1]
      exact hnext
    refine rt_L_four_4 ?_
    by_cases q : i < l.length
    · have hci := (hc i q).1
      have e255 : Int32.ofInt (l.getD i 0) &&& Int32.ofInt 255 = Int32.ofInt (l.getD i 0) := by
        obtain ⟨m, hm⟩ : ∃ m : Nat, l.getD i 0 = m := ⟨(l.getD i 0).toNat, by have := (hc i q).2; omega⟩
        rw [hm]
        have hd : ∀ m : Fin 128, Int32.ofInt (m.val : Int) &&& Int32.ofInt 255 = Int32.ofInt (m.val : Int) := by decide +kernel
        exact hd ⟨m, by have := (hc i q).2; omega⟩
      simp (disch := omega) only [wp_c, wp_n, jj_n, v_ct, Int.reduceToNat, Int.toNat_natCast, stE, wlE, lgt, lpu, lpw, v_c2, va_s, true_and, and_true, Option.toList, List.nil_append, List.cons_append, List.take, List.drop, List.reverse, List.reverseAux, List.length_cons, List.length_nil, reduceCtorEq, false_implies, true_implies, forall_const, not_true_eq_false, not_false_eq_true, ite_true, ite_false, Bool.false_eq_true, I_I, J_J, Nat.add_left_cancel_iff, Nat.reduceEqDiff, Nat.add_eq_left, Nat.left_eq_add, false_and, and_false, Nat.reduceSub, Nat.sub_self, Nat.le_refl, Nat.zero_le, ge_iff_le, Nat.reduceAdd, Nat.reduceLeDiff, Nat.zero_add, Nat.reduceLT, z_lt, z_le, z_eq, z_l0, z_g0, z_le0, z_ge0, z_e0, z_e1, z_vp, z_nc, z_rem, z_div, i_ltT, i_ltF, i_leT, i_leF, i_eqT, i_eqF, n_ltT, n_ltF, n_leT, n_leF, n_eqT, n_eqF, tn_9, tn_12, tn_14, tn_20, tn_28, tn_44, tn_52, tn_68, tn_84, tn_100, tn_116, tn_132, fu_e, up_eq, ob_0, ob_b, oi_add, oi_sub, oi_mul, oi_neg, Int.add_zero, Int.zero_add, or_true, true_or, or_false, false_or, and_self, z_i2l, z_l2i, lo_nat, lo_add, lo_sub, lo_mul, lo_0, e_rem, hs, oi_nat, hci, e255]
      have ecc : cc l i = l.getD i 0 := by unfold cc; rw [if_pos q]
      rw [ecc] at h33
      exact h33
    · simp (disch := omega) only [wp_c, wp_n, jj_n, v_ct, Int.reduceToNat, Int.toNat_natCast, stE, wlE, lgt, lpu, lpw, v_c2, va_s, true_and, and_true, Option.toList, List.nil_append, List.cons_append, List.take, List.drop, List.reverse, List.reverseAux, List.length_cons, List.length_nil, reduceCtorEq, false_implies, true_implies, forall_const, not_true_eq_false, not_false_eq_true, ite_true, ite_false, Bool.false_eq_true, I_I, J_J, Nat.add_left_cancel_iff, Nat.reduceEqDiff, Nat.add_eq_left, Nat.left_eq_add, false_and, and_false, Nat.reduceSub, Nat.sub_self, Nat.le_refl, Nat.zero_le, ge_iff_le, Nat.reduceAdd, Nat.reduceLeDiff, Nat.zero_add, Nat.reduceLT, z_lt, z_le, z_eq, z_l0, z_g0, z_le0, z_ge0, z_e0, z_e1, z_vp, z_nc, z_rem, z_div, i_ltT, i_ltF, i_leT, i_leF, i_eqT, i_eqF, n_ltT, n_ltF, n_leT, n_leF, n_eqT, n_eqF, tn_9, tn_12, tn_14, tn_20, tn_28, tn_44, tn_52, tn_68, tn_84, tn_100, tn_116, tn_132, fu_e, up_eq, ob_0, ob_b, oi_add, oi_sub, oi_mul, oi_neg, Int.add_zero, Int.zero_add, or_true, true_or, or_false, false_or, and_self, z_i2l, z_l2i, lo_nat, lo_add, lo_sub, lo_mul, lo_0, e_rem, hs, oi_nat]
      refine rt_L_four_31 ?_
      simp (disch := omega) only [wp_c, wp_n, jj_n, v_ct, Int.reduceToNat, Int.toNat_natCast, stE, wlE, lgt, lpu, lpw, v_c2, va_s, true_and, and_true, Option.toList, List.nil_append, List.cons_append, List.take, List.drop, List.reverse, List.reverseAux, List.length_cons, List.length_nil, reduceCtorEq, false_implies, true_implies, forall_const, not_true_eq_false, not_false_eq_true, ite_true, ite_false, Bool.false_eq_true, I_I, J_J, Nat.add_left_cancel_iff, Nat.reduceEqDiff, Nat.add_eq_left, Nat.left_eq_add, false_and, and_false, Nat.reduceSub, Nat.sub_self, Nat.le_refl, Nat.zero_le, ge_iff_le, Nat.reduceAdd, Nat.reduceLeDiff, Nat.zero_add, Nat.reduceLT, z_lt, z_le, z_eq, z_l0, z_g0, z_le0, z_ge0, z_e0, z_e1, z_vp, z_nc, z_rem, z_div, i_ltT, i_ltF, i_leT, i_leF, i_eqT, i_eqF, n_ltT, n_ltF, n_leT, n_leF, n_eqT, n_eqF, tn_9, tn_12, tn_14, tn_20, tn_28, tn_44, tn_52, tn_68, tn_84, tn_100, tn_116, tn_132, fu_e, up_eq, ob_0, ob_b, oi_add, oi_sub, oi_mul, oi_neg, Int.add_zero, Int.zero_add, or_true, true_or, or_false, false_or, and_self, z_i2l, z_l2i, lo_nat, lo_add, lo_sub, lo_mul, lo_0, e_rem]
      have ecc : cc l i = 32 := by unfold cc; rw [if_neg q]
      rw [ecc] at h33
      exact h33
  have b0 := hb k
  have b1 := hb (k + 1)
  have b2 := hb (k + 2)
  have b3 := hb (k + 3)
  refine ct_L_four (rt_L_four_0 ?_)
  simp (disch := omega) only [wp_c, wp_n, jj_n, v_ct, Int.reduceToNat, Int.toNat_natCast, stE, wlE, lgt, lpu, lpw, v_c2, va_s, true_and, and_true, Option.toList, List.nil_append, List.cons_append, List.take, List.drop, List.reverse, List.reverseAux, List.length_cons, List.length_nil, reduceCtorEq, false_implies, true_implies, forall_const, not_true_eq_false, not_false_eq_true, ite_true, ite_false, Bool.false_eq_true, I_I, J_J, Nat.add_left_cancel_iff, Nat.reduceEqDiff, Nat.add_eq_left, Nat.left_eq_add, false_and, and_false, Nat.reduceSub, Nat.sub_self, Nat.le_refl, Nat.zero_le, ge_iff_le, Nat.reduceAdd, Nat.reduceLeDiff, Nat.zero_add, Nat.reduceLT, z_lt, z_le, z_eq, z_l0, z_g0, z_le0, z_ge0, z_e0, z_e1, z_vp, z_nc, z_rem, z_div, i_ltT, i_ltF, i_leT, i_leF, i_eqT, i_eqF, n_ltT, n_ltF, n_leT, n_leF, n_eqT, n_eqF, tn_9, tn_12, tn_14, tn_20, tn_28, tn_44, tn_52, tn_68, tn_84, tn_100, tn_116, tn_132, fu_e, up_eq, ob_0, ob_b, oi_add, oi_sub, oi_mul, oi_neg, Int.add_zero, Int.zero_add, or_true, true_or, or_false, false_or, and_self, z_i2l, z_l2i, lo_nat, lo_add, lo_sub, lo_mul, lo_0, e_rem]
  refine step 0 k ⟨by omega, by omega⟩ (by omega) (by omega) ?_
  refine step _ (k + 1) ⟨by omega, by omega⟩ (by omega) (by omega) ?_
  refine step _ (k + 1 + 1) ⟨by omega, by omega⟩ (by omega) (by omega) ?_
  refine step _ (k + 1 + 1 + 1) ⟨by omega, by omega⟩ (by omega) (by omega) ?_
  refine rt_L_four_4 ?_
  simp (disch := omega) only [wp_c, wp_n, jj_n, v_ct, Int.reduceToNat, Int.toNat_natCast, stE, wlE, lgt, lpu, lpw, v_c2, va_s, true_and, and_true, Option.toList, List.nil_append, List.cons_append, List.take, List.drop, List.reverse, List.reverseAux, List.length_cons, List.length_nil, reduceCtorEq, false_implies, true_implies, forall_const, not_true_eq_false, not_false_eq_true, ite_true, ite_false, Bool.false_eq_true, I_I, J_J, Nat.add_left_cancel_iff, Nat.reduceEqDiff, Nat.add_eq_left, Nat.left_eq_add, false_and, and_false, Nat.reduceSub, Nat.sub_self, Nat.le_refl, Nat.zero_le, ge_iff_le, Nat.reduceAdd, Nat.reduceLeDiff, Nat.zero_add, Nat.reduceLT, z_lt, z_le, z_eq, z_l0, z_g0, z_le0, z_ge0, z_e0, z_e1, z_vp, z_nc, z_rem, z_div, i_ltT, i_ltF, i_leT, i_leF, i_eqT, i_eqF, n_ltT, n_ltF, n_leT, n_leF, n_eqT, n_eqF, tn_9, tn_12, tn_14, tn_20, tn_28, tn_44, tn_52, tn_68, tn_84, tn_100, tn_116, tn_132, fu_e, up_eq, ob_0, ob_b, oi_add, oi_sub, oi_mul, oi_neg, Int.add_zero, Int.zero_add, or_true, true_or, or_false, false_or, and_self, z_i2l, z_l2i, lo_nat, lo_add, lo_sub, lo_mul, lo_0, e_rem]
  refine rt_L_four_41 ?_
  simp (disch := omega) only [wp_c, wp_n, jj_n, v_ct, Int.reduceToNat, Int.toNat_natCast, stE, wlE, lgt, lpu, lpw, v_c2, va_s, true_and, and_true, Option.toList, List.nil_append, List.cons_append, List.take, List.drop, List.reverse, List.reverseAux, List.length_cons, List.length_nil, reduceCtorEq, false_implies, true_implies, forall_const, not_true_eq_false, not_false_eq_true, ite_true, ite_false, Bool.false_eq_true, I_I, J_J, Nat.add_left_cancel_iff, Nat.reduceEqDiff, Nat.add_eq_left, Nat.left_eq_add, false_and, and_false, Nat.reduceSub, Nat.sub_self, Nat.le_refl, Nat.zero_le, ge_iff_le, Nat.reduceAdd, Nat.reduceLeDiff, Nat.zero_add, Nat.reduceLT, z_lt, z_le, z_eq, z_l0, z_g0, z_le0, z_ge0, z_e0, z_e1, z_vp, z_nc, z_rem, z_div, i_ltT, i_ltF, i_leT, i_leF, i_eqT, i_eqF, n_ltT, n_ltF, n_leT, n_leF, n_eqT, n_eqF, tn_9, tn_12, tn_14, tn_20, tn_28, tn_44, tn_52, tn_68, tn_84, tn_100, tn_116, tn_132, fu_e, up_eq, ob_0, ob_b, oi_add, oi_sub, oi_mul, oi_neg, Int.add_zero, Int.zero_add, or_true, true_or, or_false, false_or, and_self, z_i2l, z_l2i, lo_nat, lo_add, lo_sub, lo_mul, lo_0, e_rem, mr_L_four]
  unfold fo4 at hq
  simpa using hq
-- 61.law
/-! bytes are sent -/
theorem sr_at {x : Int} {s : Nat} (hs : s = 24 ∨ s = 16 ∨ s = 8 ∨ s = 0) (h : 0 ≤ x ∧ x ≤ 2147483647) : (Int32.ofInt x >>> (Int32.ofInt s &&& 31)).toInt = x / 2 ^ s := by
  have ht : (Int32.ofInt x).toBitVec.toInt = x := oi_to ⟨by omega, by omega⟩
  have key : ∀ (y : Int32) (n : Nat), (y.toBitVec.smod 32).toNat = n → (Int32.ofInt x >>> y).toInt = x / 2 ^ n := by
    intro y n hy
    show (Int32.ofInt x >>> y).toBitVec.toInt = _
    rw [Int32.toBitVec_shiftRight]
    show ((Int32.ofInt x).toBitVec.sshiftRight (y.toBitVec.smod 32).toNat).toInt = _
    rw [hy, BitVec.toInt_sshiftRight, ht, Int.shiftRight_eq_div_pow]
    rfl
  rcases hs with rfl | rfl | rfl | rfl
  · exact key _ 24 (by decide)
  · exact key _ 16 (by decide)
  · exact key _ 8 (by decide)
  · exact key _ 0 (by decide)
theorem fo4_b {w : mW} {a : Nat} {l : List Int} (h : BY w a l) (k : Nat) : (0 ≤ fo4 l k ∧ fo4 l k ≤ 2147483647) ∧ by8 (Int32.ofInt (fo4 l k)) 24 = cc l k ∧ by8 (Int32.ofInt (fo4 l k)) 16 = cc l (k + 1) ∧ by8 (Int32.ofInt (fo4 l k)) 8 = cc l (k + 2) ∧ by8 (Int32.ofInt (fo4 l k)) 0 = cc l (k + 3) := by
  have b0 := cc_b h k
  have b1 := cc_b h (k + 1)
  have b2 := cc_b h (k + 2)
  have b3 := cc_b h (k + 3)
  have hb : 0 ≤ fo4 l k ∧ fo4 l k ≤ 2147483647 := by unfold fo4; omega
  refine ⟨hb, ?_, ?_, ?_, ?_⟩
  · have := sr_at (s := 24) (by omega) hb
    unfold by8
    rw [show (Int32.ofInt (24 : Int)) = Int32.ofInt ((24 : Nat) : Int) from rfl, this]
    unfold fo4; omega
  · have := sr_at (s := 16) (by omega) hb
    unfold by8
    rw [show (Int32.ofInt (16 : Int)) = Int32.ofInt ((16 : Nat) : Int) from rfl, this]
    unfold fo4; omega
  · have := sr_at (s := 8) (by omega) hb
    unfold by8
    rw [show (Int32.ofInt (8 : Int)) = Int32.ofInt ((8 : Nat) : Int) from rfl, this]
    unfold fo4; omega
  · have := sr_at (s := 0) (by omega) hb
    unfold by8
    rw [show (Int32.ofInt (0 : Int)) = Int32.ofInt ((0 : Nat) : Int) from rfl, this]
    unfold fo4; omega
theorem ap4_lt (f : Nat → Int) (n : Nat) (x : Int32) (i : Nat) (h : i < n ∨ n + 4 ≤ i) : ap4 f n x i = f i := by
  unfold ap4
  rw [if_neg (by omega), if_neg (by omega), if_neg (by omega), if_neg (by omega)]
theorem ap4_at {w : mW} {a : Nat} {l : List Int} (h : BY w a l) (f : Nat → Int) (n i : Nat) (h1 : n ≤ i) (h2 : i < n + 4) : ap4 f n (Int32.ofInt (fo4 l n)) i = cc l i := by
  obtain ⟨-, e0, e1, e2, e3⟩ := fo4_b h n
  unfold ap4
  rcases (show i = n ∨ i = n + 1 ∨ i = n + 2 ∨ i = n + 3 by omega) with q | q | q | q
  · rw [if_pos q, e0, q]
  · rw [if_neg (by omega), if_pos q, e1, q]
  · rw [if_neg (by omega), if_neg (by omega), if_pos q, e2, q]
  · rw [if_neg (by omega), if_neg (by omega), if_neg (by omega), if_pos q, e3, q]
theorem ap20_at {w : mW} {a : Nat} {l : List Int} (h : BY w a l) (f : Nat → Int) (n i : Nat) : ap20 f n (Int32.ofInt (fo4 l n)) (Int32.ofInt (fo4 l (n + 4))) (Int32.ofInt (fo4 l (n + 8))) (Int32.ofInt (fo4 l (n + 12))) (Int32.ofInt (fo4 l (n + 16))) i = if n ≤ i ∧ i < n + 20 then cc l i else f i := by
  unfold ap20
  by_cases q : n ≤ i ∧ i < n + 20
  · rw [if_pos q]
    by_cases q4 : n + 16 ≤ i
    · exact ap4_at h _ _ _ q4 (by omega)
    rw [ap4_lt _ _ _ _ (by omega)]
    by_cases q3 : n + 12 ≤ i
    · exact ap4_at h _ _ _ q3 (by omega)
    rw [ap4_lt _ _ _ _ (by omega)]
    by_cases q2 : n + 8 ≤ i
    · exact ap4_at h _ _ _ q2 (by omega)
    rw [ap4_lt _ _ _ _ (by omega)]
    by_cases q1 : n + 4 ≤ i
    · exact ap4_at h _ _ _ q1 (by omega)
    rw [ap4_lt _ _ _ _ (by omega)]
    exact ap4_at h _ _ _ q.1 (by omega)
  · rw [if_neg q, ap4_lt _ _ _ _ (by omega), ap4_lt _ _ _ _ (by omega), ap4_lt _ _ _ _ (by omega), ap4_lt _ _ _ _ (by omega), ap4_lt _ _ _ _ (by omega)]
theorem z_sends_12 {a : Nat} {A : Row} {e : Int × Int} {Y : Yx} {X : Xx} {U : Ux} {l : List Int} {w0 : mW} {Q : mW → mO → Prop} (hG : GR A)
  (hq : ∀ w' f, CS w' A (f, l.length, e) Y X U → (∀ i, i < l.length → f i = l.getD i 0) → FX CL w0 w' → Q w' (.inl (some (.int (Int32.ofInt 1))))) : ∀ (m j d : Nat) (f : Nat → Int) (w : mW), j + m = 21 → d ≤ j → CS w A (f, min l.length (20 * j), e) Y X U → (∀ i, i < min l.length (20 * j) → f i = l.getD i 0) → BY w a l → FX CL w0 w → RT n_L_sends 12 [.ref 100, .ref a, .int (Int32.ofInt ((20 * j : Nat) : Int))] [] w (100 - 2 * j, 600 - 12 * j, false) Q := by
  intro m
  induction m with
  | zero =>
    intro j d f w hj hd hS hf hB hF
    have hl := hB.2.2.1
    have em : min l.length (20 * j) = l.length := by omega
    rw [em] at hS hf
    refine rt_L_sends_12 ?_
    simp (disch := omega) only [wp_c, wp_n, jj_n, v_ct, Int.reduceToNat, Int.toNat_natCast, stE, wlE, lgt, lpu, lpw, v_c2, va_s, true_and, and_true, Option.toList, List.nil_append, List.cons_append, List.take, List.drop, List.reverse, List.reverseAux, List.length_cons, List.length_nil, reduceCtorEq, false_implies, true_implies, forall_const, not_true_eq_false, not_false_eq_true, ite_true, ite_false, Bool.false_eq_true, I_I, J_J, Nat.add_left_cancel_iff, Nat.reduceEqDiff, Nat.add_eq_left, Nat.left_eq_add, false_and, and_false, Nat.reduceSub, Nat.sub_self, Nat.le_refl, Nat.zero_le, ge_iff_le, Nat.reduceAdd, Nat.reduceLeDiff, Nat.zero_add, Nat.reduceLT, z_lt, z_le, z_eq, z_l0, z_g0, z_le0, z_ge0, z_e0, z_e1, z_vp, z_nc, z_rem, z_div, i_ltT, i_ltF, i_leT, i_leF, i_eqT, i_eqF, n_ltT, n_ltF, n_leT, n_leF, n_eqT, n_eqF, tn_9, tn_12, tn_14, tn_20, tn_28, tn_44, tn_52, tn_68, tn_84, tn_100, tn_116, tn_132, fu_e, up_eq, ob_0, ob_b, oi_add, oi_sub, oi_mul, oi_neg, Int.add_zero, Int.zero_add, or_true, true_or, or_false, false_or, and_self, z_i2l, z_l2i, lo_nat, lo_add, lo_sub, lo_mul, lo_0, e_rem, hB.2.1, oi_nat]
    refine rt_L_sends_87 ?_
    simp (disch := omega) only [wp_c, wp_n, jj_n, v_ct, Int.reduceToNat, Int.toNat_natCast, stE, wlE, lgt, lpu, lpw, v_c2, va_s, true_and, and_true, Option.toList, List.nil_append, List.cons_append, List.take, List.drop, List.reverse, List.reverseAux, List.length_cons, List.length_nil, reduceCtorEq, false_implies, true_implies, forall_const, not_true_eq_false, not_false_eq_true, ite_true, ite_false, Bool.false_eq_true, I_I, J_J, Nat.add_left_cancel_iff, Nat.reduceEqDiff, Nat.add_eq_left, Nat.left_eq_add, false_and, and_false, Nat.reduceSub, Nat.sub_self, Nat.le_refl, Nat.zero_le, ge_iff_le, Nat.reduceAdd, Nat.reduceLeDiff, Nat.zero_add, Nat.reduceLT, z_lt, z_le, z_eq, z_l0, z_g0, z_le0, z_ge0, z_e0, z_e1, z_vp, z_nc, z_rem, z_div, i_ltT, i_ltF, i_leT, i_leF, i_eqT, i_eqF, n_ltT, n_ltF, n_leT, n_leF, n_eqT, n_eqF, tn_9, tn_12, tn_14, tn_20, tn_28, tn_44, tn_52, tn_68, tn_84, tn_100, tn_116, tn_132, fu_e, up_eq, ob_0, ob_b, oi_add, oi_sub, oi_mul, oi_neg, Int.add_zero, Int.zero_add, or_true, true_or, or_false, false_or, and_self, z_i2l, z_l2i, lo_nat, lo_add, lo_sub, lo_mul, lo_0, e_rem, mr_L_sends]
    first | exact hq w f hS hf hF | exact ⟨Or.inr rfl, hq w f hS hf hF⟩
  | succ m ih =>
    intro j d f w hj hd hS hf hB hF
    have hl := hB.2.2.1
    refine rt_L_sends_12 ?_
    by_cases q : 20 * j < l.length
    · have em : min l.length (20 * j) = 20 * j := by omega
      rw [em] at hS hf
      have c4 : (((20 * j : Nat) : Int) + 4) = ((20 * j + 4 : Nat) : Int) := by omega
      have c8 : (((20 * j : Nat) : Int) + 8) = ((20 * j + 8 : Nat) : Int) := by omega
      have c12 : (((20 * j : Nat) : Int) + 12) = ((20 * j + 12 : Nat) : Int) := by omega
      have c16 : (((20 * j : Nat) : Int) + 16) = ((20 * j + 16 : Nat) : Int) := by omega
      have c20 : (((20 * j : Nat) : Int) + 20) = ((20 * j + 20 : Nat) : Int) := by omega
      have s100 := hS.1.1.1
      simp (disch := omega) only [wp_c, wp_n, jj_n, v_ct, Int.reduceToNat, Int.toNat_natCast, stE, wlE, lgt, lpu, lpw, v_c2, va_s, true_and, and_true, Option.toList, List.nil_append, List.cons_append, List.take, List.drop, List.reverse, List.reverseAux, List.length_cons, List.length_nil, reduceCtorEq, false_implies, true_implies, forall_const, not_true_eq_false, not_false_eq_true, ite_true, ite_false, Bool.false_eq_true, I_I, J_J, Nat.add_left_cancel_iff, Nat.reduceEqDiff, Nat.add_eq_left, Nat.left_eq_add, false_and, and_false, Nat.reduceSub, Nat.sub_self, Nat.le_refl, Nat.zero_le, ge_iff_le, Nat.reduceAdd, Nat.reduceLeDiff, Nat.zero_add, Nat.reduceLT, z_lt, z_le, z_eq, z_l0, z_g0, z_le0, z_ge0, z_e0, z_e1, z_vp, z_nc, z_rem, z_div, i_ltT, i_ltF, i_leT, i_leF, i_eqT, i_eqF, n_ltT, n_ltF, n_leT, n_leF, n_eqT, n_eqF, tn_9, tn_12, tn_14, tn_20, tn_28, tn_44, tn_52, tn_68, tn_84, tn_100, tn_116, tn_132, fu_e, up_eq, ob_0, ob_b, oi_add, oi_sub, oi_mul, oi_neg, Int.add_zero, Int.zero_add, or_true, true_or, or_false, false_or, and_self, z_i2l, z_l2i, lo_nat, lo_add, lo_sub, lo_mul, lo_0, e_rem, hB.2.1, oi_nat, c4, c8, c12, c16, mh_L_sends]
      refine z_four hB (by omega) ?_
      simp (disch := omega) only [wp_c, wp_n, jj_n, v_ct, Int.reduceToNat, Int.toNat_natCast, stE, wlE, lgt, lpu, lpw, v_c2, va_s, true_and, and_true, Option.toList, List.nil_append, List.cons_append, List.take, List.drop, List.reverse, List.reverseAux, List.length_cons, List.length_nil, reduceCtorEq, false_implies, true_implies, forall_const, not_true_eq_false, not_false_eq_true, ite_true, ite_false, Bool.false_eq_true, I_I, J_J, Nat.add_left_cancel_iff, Nat.reduceEqDiff, Nat.add_eq_left, Nat.left_eq_add, false_and, and_false, Nat.reduceSub, Nat.sub_self, Nat.le_refl, Nat.zero_le, ge_iff_le, Nat.reduceAdd, Nat.reduceLeDiff, Nat.zero_add, Nat.reduceLT, z_lt, z_le, z_eq, z_l0, z_g0, z_le0, z_ge0, z_e0, z_e1, z_vp, z_nc, z_rem, z_div, i_ltT, i_ltF, i_leT, i_leF, i_eqT, i_eqF, n_ltT, n_ltF, n_leT, n_leF, n_eqT, n_eqF, tn_9, tn_12, tn_14, tn_20, tn_28, tn_44, tn_52, tn_68, tn_84, tn_100, tn_116, tn_132, fu_e, up_eq, ob_0, ob_b, oi_add, oi_sub, oi_mul, oi_neg, Int.add_zero, Int.zero_add, or_true, true_or, or_false, false_or, and_self, z_i2l, z_l2i, lo_nat, lo_add, lo_sub, lo_mul, lo_0, e_rem, c4, mh_L_sends]
      refine z_four hB (by omega) ?_
      simp (disch := omega) only [wp_c, wp_n, jj_n, v_ct, Int.reduceToNat, Int.toNat_natCast, stE, wlE, lgt, lpu, lpw, v_c2, va_s, true_and, and_true, Option.toList, List.nil_append, List.cons_append, List.take, List.drop, List.reverse, List.reverseAux, List.length_cons, List.length_nil, reduceCtorEq, false_implies, true_implies, forall_const, not_true_eq_false, not_false_eq_true, ite_true, ite_false, Bool.false_eq_true, I_I, J_J, Nat.add_left_cancel_iff, Nat.reduceEqDiff, Nat.add_eq_left, Nat.left_eq_add, false_and, and_false, Nat.reduceSub, Nat.sub_self, Nat.le_refl, Nat.zero_le, ge_iff_le, Nat.reduceAdd, Nat.reduceLeDiff, Nat.zero_add, Nat.reduceLT, z_lt, z_le, z_eq, z_l0, z_g0, z_le0, z_ge0, z_e0, z_e1, z_vp, z_nc, z_rem, z_div, i_ltT, i_ltF, i_leT, i_leF, i_eqT, i_eqF, n_ltT, n_ltF, n_leT, n_leF, n_eqT, n_eqF, tn_9, tn_12, tn_14, tn_20, tn_28, tn_44, tn_52, tn_68, tn_84, tn_100, tn_116, tn_132, fu_e, up_eq, ob_0, ob_b, oi_add, oi_sub, oi_mul, oi_neg, Int.add_zero, Int.zero_add, or_true, true_or, or_false, false_or, and_self, z_i2l, z_l2i, lo_nat, lo_add, lo_sub, lo_mul, lo_0, e_rem, c8, mh_L_sends]
      refine z_four hB (by omega) ?_
      simp (disch := omega) only [wp_c, wp_n, jj_n, v_ct, Int.reduceToNat, Int.toNat_natCast, stE, wlE, lgt, lpu, lpw, v_c2, va_s, true_and, and_true, Option.toList, List.nil_append, List.cons_append, List.take, List.drop, List.reverse, List.reverseAux, List.length_cons, List.length_nil, reduceCtorEq, false_implies, true_implies, forall_const, not_true_eq_false, not_false_eq_true, ite_true, ite_false, Bool.false_eq_true, I_I, J_J, Nat.add_left_cancel_iff, Nat.reduceEqDiff, Nat.add_eq_left, Nat.left_eq_add, false_and, and_false, Nat.reduceSub, Nat.sub_self, Nat.le_refl, Nat.zero_le, ge_iff_le, Nat.reduceAdd, Nat.reduceLeDiff, Nat.zero_add, Nat.reduceLT, z_lt, z_le, z_eq, z_l0, z_g0, z_le0, z_ge0, z_e0, z_e1, z_vp, z_nc, z_rem, z_div, i_ltT, i_ltF, i_leT, i_leF, i_eqT, i_eqF, n_ltT, n_ltF, n_leT, n_leF, n_eqT, n_eqF, tn_9, tn_12, tn_14, tn_20, tn_28, tn_44, tn_52, tn_68, tn_84, tn_100, tn_116, tn_132, fu_e, up_eq, ob_0, ob_b, oi_add, oi_sub, oi_mul, oi_neg, Int.add_zero, Int.zero_add, or_true, true_or, or_false, false_or, and_self, z_i2l, z_l2i, lo_nat, lo_add, lo_sub, lo_mul, lo_0, e_rem, c12, mh_L_sends]
      refine z_four hB (by omega) ?_
      simp (disch := omega) only [wp_c, wp_n, jj_n, v_ct, Int.reduceToNat, Int.toNat_natCast, stE, wlE, lgt, lpu, lpw, v_c2, va_s, true_and, and_true, Option.toList, List.nil_append, List.cons_append, List.take, List.drop, List.reverse, List.reverseAux, List.length_cons, List.length_nil, reduceCtorEq, false_implies, true_implies, forall_const, not_true_eq_false, not_false_eq_true, ite_true, ite_false, Bool.false_eq_true, I_I, J_J, Nat.add_left_cancel_iff, Nat.reduceEqDiff, Nat.add_eq_left, Nat.left_eq_add, false_and, and_false, Nat.reduceSub, Nat.sub_self, Nat.le_refl, Nat.zero_le, ge_iff_le, Nat.reduceAdd, Nat.reduceLeDiff, Nat.zero_add, Nat.reduceLT, z_lt, z_le, z_eq, z_l0, z_g0, z_le0, z_ge0, z_e0, z_e1, z_vp, z_nc, z_rem, z_div, i_ltT, i_ltF, i_leT, i_leF, i_eqT, i_eqF, n_ltT, n_ltF, n_leT, n_leF, n_eqT, n_eqF, tn_9, tn_12, tn_14, tn_20, tn_28, tn_44, tn_52, tn_68, tn_84, tn_100, tn_116, tn_132, fu_e, up_eq, ob_0, ob_b, oi_add, oi_sub, oi_mul, oi_neg, Int.add_zero, Int.zero_add, or_true, true_or, or_false, false_or, and_self, z_i2l, z_l2i, lo_nat, lo_add, lo_sub, lo_mul, lo_0, e_rem, c16, mh_L_sends]
      refine z_four hB (by omega) ?_
      simp (disch := omega) only [wp_c, wp_n, jj_n, v_ct, Int.reduceToNat, Int.toNat_natCast, stE, wlE, lgt, lpu, lpw, v_c2, va_s, true_and, and_true, Option.toList, List.nil_append, List.cons_append, List.take, List.drop, List.reverse, List.reverseAux, List.length_cons, List.length_nil, reduceCtorEq, false_implies, true_implies, forall_const, not_true_eq_false, not_false_eq_true, ite_true, ite_false, Bool.false_eq_true, I_I, J_J, Nat.add_left_cancel_iff, Nat.reduceEqDiff, Nat.add_eq_left, Nat.left_eq_add, false_and, and_false, Nat.reduceSub, Nat.sub_self, Nat.le_refl, Nat.zero_le, ge_iff_le, Nat.reduceAdd, Nat.reduceLeDiff, Nat.zero_add, Nat.reduceLT, z_lt, z_le, z_eq, z_l0, z_g0, z_le0, z_ge0, z_e0, z_e1, z_vp, z_nc, z_rem, z_div, i_ltT, i_ltF, i_leT, i_leF, i_eqT, i_eqF, n_ltT, n_ltF, n_leT, n_leF, n_eqT, n_eqF, tn_9, tn_12, tn_14, tn_20, tn_28, tn_44, tn_52, tn_68, tn_84, tn_100, tn_116, tn_132, fu_e, up_eq, ob_0, ob_b, oi_add, oi_sub, oi_mul, oi_neg, Int.add_zero, Int.zero_add, or_true, true_or, or_false, false_or, and_self, z_i2l, z_l2i, lo_nat, lo_add, lo_sub, lo_mul, lo_0, e_rem, s100, mh_L_sends]
      try refine ⟨by omega, by omega, ?_⟩
      refine x_append hS hG (fun z => absurd (show 20 * j + 20 ≤ 900 by omega) z) (fun _ w1 k1 k2 => ?_)
      have hB1 := hB.fx k2
      have s100' := k1.1.1.1
      simp (disch := omega) only [wp_c, wp_n, jj_n, v_ct, Int.reduceToNat, Int.toNat_natCast, stE, wlE, lgt, lpu, lpw, v_c2, va_s, true_and, and_true, Option.toList, List.nil_append, List.cons_append, List.take, List.drop, List.reverse, List.reverseAux, List.length_cons, List.length_nil, reduceCtorEq, false_implies, true_implies, forall_const, not_true_eq_false, not_false_eq_true, ite_true, ite_false, Bool.false_eq_true, I_I, J_J, Nat.add_left_cancel_iff, Nat.reduceEqDiff, Nat.add_eq_left, Nat.left_eq_add, false_and, and_false, Nat.reduceSub, Nat.sub_self, Nat.le_refl, Nat.zero_le, ge_iff_le, Nat.reduceAdd, Nat.reduceLeDiff, Nat.zero_add, Nat.reduceLT, z_lt, z_le, z_eq, z_l0, z_g0, z_le0, z_ge0, z_e0, z_e1, z_vp, z_nc, z_rem, z_div, i_ltT, i_ltF, i_leT, i_leF, i_eqT, i_eqF, n_ltT, n_ltF, n_leT, n_leF, n_eqT, n_eqF, tn_9, tn_12, tn_14, tn_20, tn_28, tn_44, tn_52, tn_68, tn_84, tn_100, tn_116, tn_132, fu_e, up_eq, ob_0, ob_b, oi_add, oi_sub, oi_mul, oi_neg, Int.add_zero, Int.zero_add, or_true, true_or, or_false, false_or, and_self, z_i2l, z_l2i, lo_nat, lo_add, lo_sub, lo_mul, lo_0, e_rem, hB1.2.1, oi_nat, c20, mh_L_sends]
      refine c_min ⟨by omega, by omega⟩ ⟨by omega, by omega⟩ ?_
      obtain ⟨v, hv⟩ : ∃ v : Nat, min l.length (20 * j + 20) = v := ⟨_, rfl⟩
      have emin : (if (l.length : Int) ≤ ((20 * j + 20 : Nat) : Int) then (l.length : Int) else ((20 * j + 20 : Nat) : Int)) = (v : Int) := by split <;> omega
      simp (disch := omega) only [wp_c, wp_n, jj_n, v_ct, Int.reduceToNat, Int.toNat_natCast, stE, wlE, lgt, lpu, lpw, v_c2, va_s, true_and, and_true, Option.toList, List.nil_append, List.cons_append, List.take, List.drop, List.reverse, List.reverseAux, List.length_cons, List.length_nil, reduceCtorEq, false_implies, true_implies, forall_const, not_true_eq_false, not_false_eq_true, ite_true, ite_false, Bool.false_eq_true, I_I, J_J, Nat.add_left_cancel_iff, Nat.reduceEqDiff, Nat.add_eq_left, Nat.left_eq_add, false_and, and_false, Nat.reduceSub, Nat.sub_self, Nat.le_refl, Nat.zero_le, ge_iff_le, Nat.reduceAdd, Nat.reduceLeDiff, Nat.zero_add, Nat.reduceLT, z_lt, z_le, z_eq, z_l0, z_g0, z_le0, z_ge0, z_e0, z_e1, z_vp, z_nc, z_rem, z_div, i_ltT, i_ltF, i_leT, i_leF, i_eqT, i_eqF, n_ltT, n_ltF, n_leT, n_leF, n_eqT, n_eqF, tn_9, tn_12, tn_14, tn_20, tn_28, tn_44, tn_52, tn_68, tn_84, tn_100, tn_116, tn_132, fu_e, up_eq, ob_0, ob_b, oi_add, oi_sub, oi_mul, oi_neg, Int.add_zero, Int.zero_add, or_true, true_or, or_false, false_or, and_self, z_i2l, z_l2i, lo_nat, lo_add, lo_sub, lo_mul, lo_0, e_rem, emin, s100', mh_L_sends]
      try refine ⟨by omega, by omega, ?_⟩
      refine x_truncate ⟨by omega, by omega⟩ k1 hG (fun z => absurd (show 0 ≤ (v : Int) ∧ (v : Int) ≤ ((20 * j + 20 : Nat) : Int) by omega) z) (fun _ w2 m1 m2 => ?_)
      have g1 : 100 - 2 * j - 1 - 1 = 100 - 2 * (j + 1) := by omega
      have g2 : 600 - 12 * j - 6 - 6 = 600 - 12 * (j + 1) := by omega
      simp (disch := omega) only [wp_c, wp_n, jj_n, v_ct, Int.reduceToNat, Int.toNat_natCast, stE, wlE, lgt, lpu, lpw, v_c2, va_s, true_and, and_true, Option.toList, List.nil_append, List.cons_append, List.take, List.drop, List.reverse, List.reverseAux, List.length_cons, List.length_nil, reduceCtorEq, false_implies, true_implies, forall_const, not_true_eq_false, not_false_eq_true, ite_true, ite_false, Bool.false_eq_true, I_I, J_J, Nat.add_left_cancel_iff, Nat.reduceEqDiff, Nat.add_eq_left, Nat.left_eq_add, false_and, and_false, Nat.reduceSub, Nat.sub_self, Nat.le_refl, Nat.zero_le, ge_iff_le, Nat.reduceAdd, Nat.reduceLeDiff, Nat.zero_add, Nat.reduceLT, z_lt, z_le, z_eq, z_l0, z_g0, z_le0, z_ge0, z_e0, z_e1, z_vp, z_nc, z_rem, z_div, i_ltT, i_ltF, i_leT, i_leF, i_eqT, i_eqF, n_ltT, n_ltF, n_leT, n_leF, n_eqT, n_eqF, tn_9, tn_12, tn_14, tn_20, tn_28, tn_44, tn_52, tn_68, tn_84, tn_100, tn_116, tn_132, fu_e, up_eq, ob_0, ob_b, oi_add, oi_sub, oi_mul, oi_neg, Int.add_zero, Int.zero_add, or_true, true_or, or_false, false_or, and_self, z_i2l, z_l2i, lo_nat, lo_add, lo_sub, lo_mul, lo_0, e_rem, g1, g2]
      refine rt_L_sends_81 ?_
      have c20' : (((20 * j : Nat) : Int) + 20) = ((20 * (j + 1) : Nat) : Int) := by omega
      simp (disch := omega) only [wp_c, wp_n, jj_n, v_ct, Int.reduceToNat, Int.toNat_natCast, stE, wlE, lgt, lpu, lpw, v_c2, va_s, true_and, and_true, Option.toList, List.nil_append, List.cons_append, List.take, List.drop, List.reverse, List.reverseAux, List.length_cons, List.length_nil, reduceCtorEq, false_implies, true_implies, forall_const, not_true_eq_false, not_false_eq_true, ite_true, ite_false, Bool.false_eq_true, I_I, J_J, Nat.add_left_cancel_iff, Nat.reduceEqDiff, Nat.add_eq_left, Nat.left_eq_add, false_and, and_false, Nat.reduceSub, Nat.sub_self, Nat.le_refl, Nat.zero_le, ge_iff_le, Nat.reduceAdd, Nat.reduceLeDiff, Nat.zero_add, Nat.reduceLT, z_lt, z_le, z_eq, z_l0, z_g0, z_le0, z_ge0, z_e0, z_e1, z_vp, z_nc, z_rem, z_div, i_ltT, i_ltF, i_leT, i_leF, i_eqT, i_eqF, n_ltT, n_ltF, n_leT, n_leF, n_eqT, n_eqF, tn_9, tn_12, tn_14, tn_20, tn_28, tn_44, tn_52, tn_68, tn_84, tn_100, tn_116, tn_132, fu_e, up_eq, ob_0, ob_b, oi_add, oi_sub, oi_mul, oi_neg, Int.add_zero, Int.zero_add, or_true, true_or, or_false, false_or, and_self, z_i2l, z_l2i, lo_nat, lo_add, lo_sub, lo_mul, lo_0, e_rem, c20']
      have ev : min l.length (20 * (j + 1)) = v := by omega
      refine ih (j + 1) 0 _ w2 (by omega) (by omega) (by rw [ev]; exact m1) (fun i hi => ?_) (hB1.fx m2) (hF.trans (k2.trans m2))
      rw [ev] at hi
      have e20 := ap20_at hB f (20 * j) i
      refine Eq.trans e20 ?_
      by_cases z : 20 * j ≤ i ∧ i < 20 * j + 20
      · rw [if_pos z]
        unfold cc
        rw [if_pos (by omega)]
      · rw [if_neg z]
        exact hf i (by omega)
    · have em : min l.length (20 * j) = l.length := by omega
      rw [em] at hS hf
      simp (disch := omega) only [wp_c, wp_n, jj_n, v_ct, Int.reduceToNat, Int.toNat_natCast, stE, wlE, lgt, lpu, lpw, v_c2, va_s, true_and, and_true, Option.toList, List.nil_append, List.cons_append, List.take, List.drop, List.reverse, List.reverseAux, List.length_cons, List.length_nil, reduceCtorEq, false_implies, true_implies, forall_const, not_true_eq_false, not_false_eq_true, ite_true, ite_false, Bool.false_eq_true, I_I, J_J, Nat.add_left_cancel_iff, Nat.reduceEqDiff, Nat.add_eq_left, Nat.left_eq_add, false_and, and_false, Nat.reduceSub, Nat.sub_self, Nat.le_refl, Nat.zero_le, ge_iff_le, Nat.reduceAdd, Nat.reduceLeDiff, Nat.zero_add, Nat.reduceLT, z_lt, z_le, z_eq, z_l0, z_g0, z_le0, z_ge0, z_e0, z_e1, z_vp, z_nc, z_rem, z_div, i_ltT, i_ltF, i_leT, i_leF, i_eqT, i_eqF, n_ltT, n_ltF, n_leT, n_leF, n_eqT, n_eqF, tn_9, tn_12, tn_14, tn_20, tn_28, tn_44, tn_52, tn_68, tn_84, tn_100, tn_116, tn_132, fu_e, up_eq, ob_0, ob_b, oi_add, oi_sub, oi_mul, oi_neg, Int.add_zero, Int.zero_add, or_true, true_or, or_false, false_or, and_self, z_i2l, z_l2i, lo_nat, lo_add, lo_sub, lo_mul, lo_0, e_rem, hB.2.1, oi_nat]
      refine rt_L_sends_87 ?_
      simp (disch := omega) only [wp_c, wp_n, jj_n, v_ct, Int.reduceToNat, Int.toNat_natCast, stE, wlE, lgt, lpu, lpw, v_c2, va_s, true_and, and_true, Option.toList, List.nil_append, List.cons_append, List.take, List.drop, List.reverse, List.reverseAux, List.length_cons, List.length_nil, reduceCtorEq, false_implies, true_implies, forall_const, not_true_eq_false, not_false_eq_true, ite_true, ite_false, Bool.false_eq_true, I_I, J_J, Nat.add_left_cancel_iff, Nat.reduceEqDiff, Nat.add_eq_left, Nat.left_eq_add, false_and, and_false, Nat.reduceSub, Nat.sub_self, Nat.le_refl, Nat.zero_le, ge_iff_le, Nat.reduceAdd, Nat.reduceLeDiff, Nat.zero_add, Nat.reduceLT, z_lt, z_le, z_eq, z_l0, z_g0, z_le0, z_ge0, z_e0, z_e1, z_vp, z_nc, z_rem, z_div, i_ltT, i_ltF, i_leT, i_leF, i_eqT, i_eqF, n_ltT, n_ltF, n_leT, n_leF, n_eqT, n_eqF, tn_9, tn_12, tn_14, tn_20, tn_28, tn_44, tn_52, tn_68, tn_84, tn_100, tn_116, tn_132, fu_e, up_eq, ob_0, ob_b, oi_add, oi_sub, oi_mul, oi_neg, Int.add_zero, Int.zero_add, or_true, true_or, or_false, false_or, and_self, z_i2l, z_l2i, lo_nat, lo_add, lo_sub, lo_mul, lo_0, e_rem, mr_L_sends]
      first | exact hq w f hS hf hF | exact ⟨Or.inr rfl, hq w f hS hf hF⟩
theorem z_sends {a : Nat} {A : Row} {Z : Zx} {Y : Yx} {X : Xx} {U : Ux} {l : List Int} {w : mW} {Q : mW → mO → Prop} (hS : CS w A Z Y X U) (hG : GR A) (hB : BY w a l)
  (hq : ∀ w' f, CS w' A (f, l.length, Z.2.2) Y X U → (∀ i, i < l.length → f i = l.getD i 0) → FX CL w w' → Q w' (.inl (some (.int (Int32.ofInt 1))))) : CT n_L_sends [.ref 100, .ref a] w Q := by
  have s100 := hS.1.1.1
  have hl := hB.2.2.1
  refine ct_L_sends (rt_L_sends_0 ?_)
  simp (disch := omega) only [wp_c, wp_n, jj_n, v_ct, Int.reduceToNat, Int.toNat_natCast, stE, wlE, lgt, lpu, lpw, v_c2, va_s, true_and, and_true, Option.toList, List.nil_append, List.cons_append, List.take, List.drop, List.reverse, List.reverseAux, List.length_cons, List.length_nil, reduceCtorEq, false_implies, true_implies, forall_const, not_true_eq_false, not_false_eq_true, ite_true, ite_false, Bool.false_eq_true, I_I, J_J, Nat.add_left_cancel_iff, Nat.reduceEqDiff, Nat.add_eq_left, Nat.left_eq_add, false_and, and_false, Nat.reduceSub, Nat.sub_self, Nat.le_refl, Nat.zero_le, ge_iff_le, Nat.reduceAdd, Nat.reduceLeDiff, Nat.zero_add, Nat.reduceLT, z_lt, z_le, z_eq, z_l0, z_g0, z_le0, z_ge0, z_e0, z_e1, z_vp, z_nc, z_rem, z_div, i_ltT, i_ltF, i_leT, i_leF, i_eqT, i_eqF, n_ltT, n_ltF, n_leT, n_leF, n_eqT, n_eqF, tn_9, tn_12, tn_14, tn_20, tn_28, tn_44, tn_52, tn_68, tn_84, tn_100, tn_116, tn_132, fu_e, up_eq, ob_0, ob_b, oi_add, oi_sub, oi_mul, oi_neg, Int.add_zero, Int.zero_add, or_true, true_or, or_false, false_or, and_self, z_i2l, z_l2i, lo_nat, lo_add, lo_sub, lo_mul, lo_0, e_rem, s100, mh_L_sends]
  refine x_truncate (v0 := 0) ⟨by omega, by omega⟩ hS hG (fun z => absurd (show (0 : Int) ≤ 0 ∧ (0 : Int) ≤ (Z.2.1 : Int) by omega) z) (fun _ w2 m1 m2 => ?_)
  simp (disch := omega) only [wp_c, wp_n, jj_n, v_ct, Int.reduceToNat, Int.toNat_natCast, stE, wlE, lgt, lpu, lpw, v_c2, va_s, true_and, and_true, Option.toList, List.nil_append, List.cons_append, List.take, List.drop, List.reverse, List.reverseAux, List.length_cons, List.length_nil, reduceCtorEq, false_implies, true_implies, forall_const, not_true_eq_false, not_false_eq_true, ite_true, ite_false, Bool.false_eq_true, I_I, J_J, Nat.add_left_cancel_iff, Nat.reduceEqDiff, Nat.add_eq_left, Nat.left_eq_add, false_and, and_false, Nat.reduceSub, Nat.sub_self, Nat.le_refl, Nat.zero_le, ge_iff_le, Nat.reduceAdd, Nat.reduceLeDiff, Nat.zero_add, Nat.reduceLT, z_lt, z_le, z_eq, z_l0, z_g0, z_le0, z_ge0, z_e0, z_e1, z_vp, z_nc, z_rem, z_div, i_ltT, i_ltF, i_leT, i_leF, i_eqT, i_eqF, n_ltT, n_ltF, n_leT, n_leF, n_eqT, n_eqF, tn_9, tn_12, tn_14, tn_20, tn_28, tn_44, tn_52, tn_68, tn_84, tn_100, tn_116, tn_132, fu_e, up_eq, ob_0, ob_b, oi_add, oi_sub, oi_mul, oi_neg, Int.add_zero, Int.zero_add, or_true, true_or, or_false, false_or, and_self, z_i2l, z_l2i, lo_nat, lo_add, lo_sub, lo_mul, lo_0, e_rem]
  refine rt_L_sends_10 ?_
  simp (disch := omega) only [wp_c, wp_n, jj_n, v_ct, Int.reduceToNat, Int.toNat_natCast, stE, wlE, lgt, lpu, lpw, v_c2, va_s, true_and, and_true, Option.toList, List.nil_append, List.cons_append, List.take, List.drop, List.reverse, List.reverseAux, List.length_cons, List.length_nil, reduceCtorEq, false_implies, true_implies, forall_const, not_true_eq_false, not_false_eq_true, ite_true, ite_false, Bool.false_eq_true, I_I, J_J, Nat.add_left_cancel_iff, Nat.reduceEqDiff, Nat.add_eq_left, Nat.left_eq_add, false_and, and_false, Nat.reduceSub, Nat.sub_self, Nat.le_refl, Nat.zero_le, ge_iff_le, Nat.reduceAdd, Nat.reduceLeDiff, Nat.zero_add, Nat.reduceLT, z_lt, z_le, z_eq, z_l0, z_g0, z_le0, z_ge0, z_e0, z_e1, z_vp, z_nc, z_rem, z_div, i_ltT, i_ltF, i_leT, i_leF, i_eqT, i_eqF, n_ltT, n_ltF, n_leT, n_leF, n_eqT, n_eqF, tn_9, tn_12, tn_14, tn_20, tn_28, tn_44, tn_52, tn_68, tn_84, tn_100, tn_116, tn_132, fu_e, up_eq, ob_0, ob_b, oi_add, oi_sub, oi_mul, oi_neg, Int.add_zero, Int.zero_add, or_true, true_or, or_false, false_or, and_self, z_i2l, z_l2i, lo_nat, lo_add, lo_sub, lo_mul, lo_0, e_rem]
  have := z_sends_12 (a := a) (e := Z.2.2) (w0 := w) (Q := Q) (l := l) hG hq 21 0 0 Z.1 w2 (by omega) (by omega) (by rw [show min l.length (20 * 0) = 0 by omega]; exact m1) (fun i hi => absurd hi (by omega)) (hB.fx m2) m2
  exact this
