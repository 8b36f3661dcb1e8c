theorem CK_sh (w : mW) (q a : Nat) : w_sh (s_C (s_K w q) a) (100 + q) = w_sh w a := by rw [(C_at (w := w) (a := a) (q := q)).1, if_pos rfl]
theorem CK_shn {w : mW} {q a c : Nat} (h : ¬ c = 100 + q) : w_sh (s_C (s_K w q) a) c = w_sh w c := by rw [(C_at (w := w) (a := a) (q := q)).1, if_neg h]
theorem CK_Rn {w : mW} {q a c : Nat} (h : ¬ c = 100 + q) : w_R (s_C (s_K w q) a) c = w_R w c := (C_at (w := w) (a := a) (q := q)).2.2.1 c h
theorem CK_n (w : mW) (q a : Nat) : w_n (s_C (s_K w q) a) = q + 1 := rfl
theorem NK_sh (w : mW) (q : Nat) (z : Nat × Nat) : w_sh (s_N (s_K w q) z) (100 + q) = z := by rw [N_sh, K_n, if_pos rfl]
theorem NK_shn {w : mW} {q c : Nat} {z : Nat × Nat} (h : ¬ c = 100 + q) : w_sh (s_N (s_K w q) z) c = w_sh w c := by rw [N_sh, K_n, if_neg h, K_sh]
theorem NK_Rn {w : mW} {q c : Nat} {z : Nat × Nat} (h : ¬ c = 100 + q) : w_R (s_N (s_K w q) z) c = w_R w c := by rw [N_Rc, K_n, if_neg h, K_R]
theorem beg_at (A : Row) (way : Int) (j : Nat) : a_beg A way j = if j = 7 then way else if (52 ≤ j ∧ j < 68) ∨ (84 ≤ j ∧ j < 100) ∨ (9 ≤ j ∧ j < 12) then 0 else A j := by
  simp only [a_beg, zr, up_eq]
  by_cases h7 : j = 7
  · rw [if_pos h7, if_pos h7]
  · rw [if_neg h7, if_neg h7]
    repeat' split
    all_goals first | rfl | omega
theorem rl_beg {A B : Row} {way dv : Int} (h : RAB A B) : RAB (a_beg A way) (o_beg B way dv) := by
  refine ⟨fun j hj => ?_, fun i hi => ?_⟩
  · have hb := h.1 j hj
    unfold RK at hj
    by_cases z : 52 ≤ j ∧ j < 68
    · rw [beg_at, if_neg (show ¬ j = 7 by omega), if_pos (by omega)]
      unfold o_beg
      rw [if_neg (by omega), if_neg (by omega), if_neg (by omega), if_neg (by omega), if_pos (by omega)]
    · rw [beg_at, if_neg (show ¬ j = 7 by omega), if_neg (by omega), ← hb]
      unfold o_beg
      rw [if_neg (by omega), if_neg (by omega), if_neg (by omega), if_neg (by omega), if_neg (by omega)]
  · have e : a_beg A way (84 + i) = 0 := by rw [beg_at, if_neg (by omega), if_pos (by omega)]
    rw [e, mvd_0]
    unfold o_beg
    rw [if_neg (by omega), if_neg (by omega), if_neg (by omega), if_neg (by omega), if_pos (by omega)]
def bg1 (B : Row) (way dv : Int) : Row := up (up B 7 way) 8 dv
def bg2 (B : Row) (way dv : Int) : Row := fun j => if oi 22 0 ≤ j ∧ j < oi 22 0 + olen 22 then bg1 B way dv (oi 16 0 + (j - oi 22 0)) else bg1 B way dv j
def bg3 (B : Row) (way dv : Int) : Row := fun j => if oi 23 0 ≤ j ∧ j < oi 23 0 + olen 23 then bg2 B way dv (oi 21 0 + (j - oi 23 0)) else bg2 B way dv j
def bg4 (B : Row) (way dv : Int) : Row := fun j => if oi 18 0 ≤ j ∧ j < oi 18 0 + olen 18 then 0 else bg3 B way dv j
def bg5 (B : Row) (way dv : Int) : Row := fun j => if oi 20 0 ≤ j ∧ j < oi 20 0 + olen 20 then 0 else bg4 B way dv j
theorem bg1_at (B : Row) (way dv : Int) (j : Nat) (h : ¬ j = 7 ∧ ¬ j = 8) : bg1 B way dv j = B j := by unfold bg1; rw [up_eq, if_neg h.2, up_eq, if_neg h.1]
theorem bg2_at (B : Row) (way dv : Int) (j : Nat) : bg2 B way dv j = if 1020 ≤ j ∧ j < 1036 then B (28 + (j - 1020)) else bg1 B way dv j := by
  show (if 1020 + 0 ≤ j ∧ j < 1020 + 0 + 16 then bg1 B way dv (28 + 0 + (j - (1020 + 0))) else bg1 B way dv j) = _
  by_cases q : 1020 ≤ j ∧ j < 1036
  · rw [if_pos (by omega), if_pos q, bg1_at _ _ _ _ (by omega)]
  · rw [if_neg (by omega), if_neg q]
theorem bg3_at (B : Row) (way dv : Int) (j : Nat) : bg3 B way dv j = if 1040 ≤ j ∧ j < 1046 then B (12 + (j - 1040)) else bg2 B way dv j := by
  show (if 1040 + 0 ≤ j ∧ j < 1040 + 0 + 6 then bg2 B way dv (12 + 0 + (j - (1040 + 0))) else bg2 B way dv j) = _
  by_cases q : 1040 ≤ j ∧ j < 1046
  · rw [if_pos (by omega), if_pos q, bg2_at, if_neg (by omega), bg1_at _ _ _ _ (by omega)]
  · rw [if_neg (by omega), if_neg q]
theorem beg_row (B : Row) (way dv : Int) : up (up (bg5 B way dv) 1009 0) 1010 0 = o_beg B way dv := by
  funext j
  have e5 : bg5 B way dv j = if 84 ≤ j ∧ j < 100 then 0 else bg4 B way dv j := rfl
  have e4 : bg4 B way dv j = if 52 ≤ j ∧ j < 68 then 0 else bg3 B way dv j := rfl
  rw [up_eq, up_eq, e5, e4, bg3_at, bg2_at]
  unfold o_beg bg1
  rw [up_eq, up_eq]
  by_cases c7 : j = 7
  · subst c7; rfl
  by_cases c8 : j = 8
  · subst c8; rfl
  rw [if_neg c8, if_neg c7, if_neg c7, if_neg c8]
  by_cases c1 : 1020 ≤ j ∧ j < 1036
  · rw [if_neg (by omega), if_neg (by omega), if_neg (by omega), if_neg (by omega), if_neg (by omega), if_pos c1, if_pos c1]
  by_cases c2 : 1040 ≤ j ∧ j < 1046
  · rw [if_neg (by omega), if_neg (by omega), if_neg (by omega), if_neg (by omega), if_pos c2, if_neg c1, if_pos c2]
  rw [if_neg c1, if_neg c2, if_neg c1, if_neg c2]
  by_cases c3 : j = 1010
  · rw [if_pos c3, if_pos (by omega)]
  by_cases c4 : j = 1009
  · rw [if_neg c3, if_pos c4, if_pos (by omega)]
  rw [if_neg c3, if_neg c4]
  by_cases c5 : 84 ≤ j ∧ j < 100
  · rw [if_pos c5, if_pos (by omega)]
  by_cases c6 : 52 ≤ j ∧ j < 68
  · rw [if_neg c5, if_pos c6, if_pos (by omega)]
  · rw [if_neg c5, if_neg c6, if_neg (by omega)]
set_option maxHeartbeats 4000000 in
theorem z_turn {b o : Nat} {P : Nat → Nat} {A B : Row} {way dv : Int} {w : mW} {Q : mW → mO → Prop} (hO : OW w b o P B) (hJ : TJ A) (h18 : 0 ≤ A 18) (hR : RAB A B) (hk : B 1013 = k_num A) (hdu : B 1014 = du A) (h11 : B 1011 = B 18) (h8 : A 8 = dv) (hdv : dv = 0 ∨ dv = 1) (hw : way = 1 ∨ way = -1) (h14 : 0 ≤ A 14 ∧ A 14 ≤ 1000000000)
  (hq : ∀ w' P' B', OW w' b o P' B' → FO b w w' → RX (a_fin (a_one A way)) B' → (B' 7 = way ∧ B' 8 = dv ∧ B' 1000 = B 1000) → (∀ i, i < 16 → B' (1020 + i) = A (28 + i)) → (∀ i, i < 6 → B' (1040 + i) = A (12 + i)) → (0 < a_fin (a_one A way) 5 → B' 6 = a_fin (a_one A way) 6) → Int32.ofInt (B' 1009) = (a_one A way).2.2 → SV (a_beg A way) (a_fin (a_one A way)) → (LX A B → LX (a_fin (a_one A way)) B') → Q w' (.inl (some (.int (Int32.ofInt (match (a_one A way).2.1 with | none => 1 | some _ => 0)))))) :
  CT n_X10_turn [.ref o, .int (Int32.ofInt way), .int (Int32.ofInt dv)] w Q := by
  have hF := hO.F
  have hge := hO.ge
  have hlt := hO.lt
  have hb0 := hO.1.2.1
  have hI := beg_TI (way := way) hJ.1 hw
  have hz := TJ_sz hJ
  have hM : M0 (a_beg A way) := fun i hi => by rw [beg_at, if_neg (by omega), if_pos (by omega)]; omega
  have h16 : (Int32.ofInt 16).toNatClampNeg = 16 := by decide
  have h1 := (hO.sway (v := way)).soth (v := dv)
  have f1 : FO b w (s_I (s_I w o 8 (Int32.ofInt way)) o 12 (Int32.ofInt dv)) := ((FO.refl _ _).I hge.1).I hge.1
  refine ct_X10_turn (rt_X10_turn_0 ?_)
  simp (disch := omega) only [wp_c, wp_n, jj_n, v_ct, Int.reduceToNat, Int.toNat_natCast, stE, wlE, lgt, lpu, lpw, v_c2, va_s, true_and, and_true, Option.toList, List.nil_append, List.cons_append, List.take, List.drop, List.reverse, List.reverseAux, List.length_cons, List.length_nil, reduceCtorEq, false_implies, true_implies, forall_const, not_true_eq_false, not_false_eq_true, ite_true, ite_false, Bool.false_eq_true, I_I, J_J, Nat.add_left_cancel_iff, Nat.reduceEqDiff, Nat.add_eq_left, Nat.left_eq_add, false_and, and_false, Nat.reduceSub, Nat.sub_self, Nat.le_refl, Nat.zero_le, ge_iff_le, Nat.reduceAdd, Nat.reduceLeDiff, Nat.zero_add, Nat.reduceLT, z_lt, z_le, z_eq, z_l0, z_g0, z_le0, z_ge0, z_e0, z_e1, z_vp, z_nc, z_rem, z_div, i_ltT, i_ltF, i_leT, i_leF, i_eqT, i_eqF, n_ltT, n_ltF, n_leT, n_leF, n_eqT, n_eqF, tn_9, tn_12, tn_14, tn_20, tn_28, tn_44, tn_52, tn_68, tn_84, tn_100, tn_116, tn_132, fu_e, up_eq, ob_0, ob_b, oi_add, oi_sub, oi_mul, oi_neg, Int.add_zero, Int.zero_add, or_true, true_or, or_false, false_or, and_self, z_i2l, z_l2i, lo_nat, lo_add, lo_sub, lo_mul, lo_0, e_rem, hF, hdv]
  generalize hw1 : s_I (s_I w o 8 (Int32.ofInt way)) o 12 (Int32.ofInt dv) = w1 at h1 f1 ⊢
  have hn1 : w_n w1 = w_n w := by rw [← hw1]; rfl
  intro q1 hq1
  have hq1' : w_n w1 ≤ q1 := by omega
  have F1 := h1.F
  have L1 := h1.lt
  have h2 := h1.copy (f := 22) (g := 16) (by omega) (by omega) rfl hq1'
  have f2 : FO b w (s_R (s_C (s_K w1 q1) (P 16)) o 22 (some (100 + q1))) := (f1.C hq1' (by omega)).R hge.1
  have no1 : ¬ o = 100 + q1 := by omega
  generalize hw2 : s_R (s_C (s_K w1 q1) (P 16)) o 22 (some (100 + q1)) = w2 at h2 f2 ⊢
  have hn2 : w_n w2 = q1 + 1 := by rw [← hw2]; rfl
  have F2 := h2.F
  simp only [Nat.reduceEqDiff, ite_true, ite_false] at F2
  simp (disch := omega) only [wp_c, wp_n, jj_n, v_ct, Int.reduceToNat, Int.toNat_natCast, stE, wlE, lgt, lpu, lpw, v_c2, va_s, true_and, and_true, Option.toList, List.nil_append, List.cons_append, List.take, List.drop, List.reverse, List.reverseAux, List.length_cons, List.length_nil, reduceCtorEq, false_implies, true_implies, forall_const, not_true_eq_false, not_false_eq_true, ite_true, ite_false, Bool.false_eq_true, I_I, J_J, Nat.add_left_cancel_iff, Nat.reduceEqDiff, Nat.add_eq_left, Nat.left_eq_add, false_and, and_false, Nat.reduceSub, Nat.sub_self, Nat.le_refl, Nat.zero_le, ge_iff_le, Nat.reduceAdd, Nat.reduceLeDiff, Nat.zero_add, Nat.reduceLT, z_lt, z_le, z_eq, z_l0, z_g0, z_le0, z_ge0, z_e0, z_e1, z_vp, z_nc, z_rem, z_div, i_ltT, i_ltF, i_leT, i_leF, i_eqT, i_eqF, n_ltT, n_ltF, n_leT, n_leF, n_eqT, n_eqF, tn_9, tn_12, tn_14, tn_20, tn_28, tn_44, tn_52, tn_68, tn_84, tn_100, tn_116, tn_132, fu_e, up_eq, ob_0, ob_b, oi_add, oi_sub, oi_mul, oi_neg, Int.add_zero, Int.zero_add, or_true, true_or, or_false, false_or, and_self, z_i2l, z_l2i, lo_nat, lo_add, lo_sub, lo_mul, lo_0, e_rem, CK_sh, CK_shn no1, CK_Rn no1, F1, F2]
  intro q2 hq2
  have hq2' : w_n w2 ≤ q2 := by omega
  have h3 := h2.copy (f := 23) (g := 21) (by omega) (by omega) rfl hq2'
  simp only [Nat.reduceEqDiff, ite_true, ite_false] at h3
  have f3 : FO b w (s_R (s_C (s_K w2 q2) (P 21)) o 23 (some (100 + q2))) := (f2.C hq2' (by omega)).R hge.1
  have no2 : ¬ o = 100 + q2 := by omega
  generalize hw3 : s_R (s_C (s_K w2 q2) (P 21)) o 23 (some (100 + q2)) = w3 at h3 f3 ⊢
  have hn3 : w_n w3 = q2 + 1 := by rw [← hw3]; rfl
  have F3 := h3.F
  simp only [Nat.reduceEqDiff, ite_true, ite_false] at F3
  simp (disch := omega) only [wp_c, wp_n, jj_n, v_ct, Int.reduceToNat, Int.toNat_natCast, stE, wlE, lgt, lpu, lpw, v_c2, va_s, true_and, and_true, Option.toList, List.nil_append, List.cons_append, List.take, List.drop, List.reverse, List.reverseAux, List.length_cons, List.length_nil, reduceCtorEq, false_implies, true_implies, forall_const, not_true_eq_false, not_false_eq_true, ite_true, ite_false, Bool.false_eq_true, I_I, J_J, Nat.add_left_cancel_iff, Nat.reduceEqDiff, Nat.add_eq_left, Nat.left_eq_add, false_and, and_false, Nat.reduceSub, Nat.sub_self, Nat.le_refl, Nat.zero_le, ge_iff_le, Nat.reduceAdd, Nat.reduceLeDiff, Nat.zero_add, Nat.reduceLT, z_lt, z_le, z_eq, z_l0, z_g0, z_le0, z_ge0, z_e0, z_e1, z_vp, z_nc, z_rem, z_div, i_ltT, i_ltF, i_leT, i_leF, i_eqT, i_eqF, n_ltT, n_ltF, n_leT, n_leF, n_eqT, n_eqF, tn_9, tn_12, tn_14, tn_20, tn_28, tn_44, tn_52, tn_68, tn_84, tn_100, tn_116, tn_132, fu_e, up_eq, ob_0, ob_b, oi_add, oi_sub, oi_mul, oi_neg, Int.add_zero, Int.zero_add, or_true, true_or, or_false, false_or, and_self, z_i2l, z_l2i, lo_nat, lo_add, lo_sub, lo_mul, lo_0, e_rem, CK_sh, CK_shn no2, CK_Rn no2, F2, F3, h16]
  intro q3 hq3
  have hq3' : w_n w3 ≤ q3 := by omega
  have h4 := h3.new (f := 18) (n := 16) (by omega) rfl hq3'
  have f4 : FO b w (s_R (s_N (s_K w3 q3) (1, 16)) o 18 (some (100 + q3))) := (f3.N hq3' (by omega)).R hge.1
  have no3 : ¬ o = 100 + q3 := by omega
  generalize hw4 : s_R (s_N (s_K w3 q3) (1, 16)) o 18 (some (100 + q3)) = w4 at h4 f4 ⊢
  have hn4 : w_n w4 = q3 + 1 := by rw [← hw4]; rfl
  have F4 := h4.F
  simp only [Nat.reduceEqDiff, ite_true, ite_false] at F4
  simp (disch := omega) only [wp_c, wp_n, jj_n, v_ct, Int.reduceToNat, Int.toNat_natCast, stE, wlE, lgt, lpu, lpw, v_c2, va_s, true_and, and_true, Option.toList, List.nil_append, List.cons_append, List.take, List.drop, List.reverse, List.reverseAux, List.length_cons, List.length_nil, reduceCtorEq, false_implies, true_implies, forall_const, not_true_eq_false, not_false_eq_true, ite_true, ite_false, Bool.false_eq_true, I_I, J_J, Nat.add_left_cancel_iff, Nat.reduceEqDiff, Nat.add_eq_left, Nat.left_eq_add, false_and, and_false, Nat.reduceSub, Nat.sub_self, Nat.le_refl, Nat.zero_le, ge_iff_le, Nat.reduceAdd, Nat.reduceLeDiff, Nat.zero_add, Nat.reduceLT, z_lt, z_le, z_eq, z_l0, z_g0, z_le0, z_ge0, z_e0, z_e1, z_vp, z_nc, z_rem, z_div, i_ltT, i_ltF, i_leT, i_leF, i_eqT, i_eqF, n_ltT, n_ltF, n_leT, n_leF, n_eqT, n_eqF, tn_9, tn_12, tn_14, tn_20, tn_28, tn_44, tn_52, tn_68, tn_84, tn_100, tn_116, tn_132, fu_e, up_eq, ob_0, ob_b, oi_add, oi_sub, oi_mul, oi_neg, Int.add_zero, Int.zero_add, or_true, true_or, or_false, false_or, and_self, z_i2l, z_l2i, lo_nat, lo_add, lo_sub, lo_mul, lo_0, e_rem, NK_sh, NK_shn no3, NK_Rn no3, F3, F4, h16]
  intro q4 hq4
  have hq4' : w_n w4 ≤ q4 := by omega
  have h5 := h4.new (f := 20) (n := 16) (by omega) rfl hq4'
  have f5 : FO b w (s_R (s_N (s_K w4 q4) (1, 16)) o 20 (some (100 + q4))) := (f4.N hq4' (by omega)).R hge.1
  have no4 : ¬ o = 100 + q4 := by omega
  generalize hw5 : s_R (s_N (s_K w4 q4) (1, 16)) o 20 (some (100 + q4)) = w5 at h5 f5 ⊢
  have F5 := h5.F
  simp (disch := omega) only [wp_c, wp_n, jj_n, v_ct, Int.reduceToNat, Int.toNat_natCast, stE, wlE, lgt, lpu, lpw, v_c2, va_s, true_and, and_true, Option.toList, List.nil_append, List.cons_append, List.take, List.drop, List.reverse, List.reverseAux, List.length_cons, List.length_nil, reduceCtorEq, false_implies, true_implies, forall_const, not_true_eq_false, not_false_eq_true, ite_true, ite_false, Bool.false_eq_true, I_I, J_J, Nat.add_left_cancel_iff, Nat.reduceEqDiff, Nat.add_eq_left, Nat.left_eq_add, false_and, and_false, Nat.reduceSub, Nat.sub_self, Nat.le_refl, Nat.zero_le, ge_iff_le, Nat.reduceAdd, Nat.reduceLeDiff, Nat.zero_add, Nat.reduceLT, z_lt, z_le, z_eq, z_l0, z_g0, z_le0, z_ge0, z_e0, z_e1, z_vp, z_nc, z_rem, z_div, i_ltT, i_ltF, i_leT, i_leF, i_eqT, i_eqF, n_ltT, n_ltF, n_leT, n_leF, n_eqT, n_eqF, tn_9, tn_12, tn_14, tn_20, tn_28, tn_44, tn_52, tn_68, tn_84, tn_100, tn_116, tn_132, fu_e, up_eq, ob_0, ob_b, oi_add, oi_sub, oi_mul, oi_neg, Int.add_zero, Int.zero_add, or_true, true_or, or_false, false_or, and_self, z_i2l, z_l2i, lo_nat, lo_add, lo_sub, lo_mul, lo_0, e_rem, NK_sh, NK_shn no4, NK_Rn no4, F4, F5.1, mh_X10_turn]
  have h6 := (h5.slong (v := 0)).srun (v := 0)
  have f6 : FO b w (s_I (s_I w5 o 9 (Int32.ofInt 0)) o 10 (Int32.ofInt 0)) := (f5.I hge.1).I hge.1
  have h7 := h6.cg (beg_row B way dv).symm
  have ob : ∀ j, (j < 5 ∨ (12 ≤ j ∧ j < 52) ∨ (68 ≤ j ∧ j < 84) ∨ (100 ≤ j ∧ j < 1009) ∨ (1011 ≤ j ∧ j < 1020)) → o_beg B way dv j = B j := fun j hj => by
    unfold o_beg
    rw [if_neg (by omega), if_neg (by omega), if_neg (by omega), if_neg (by omega), if_neg (by omega)]
  have ab : ∀ j, (j < 7 ∨ j = 8 ∨ (12 ≤ j ∧ j < 52) ∨ (68 ≤ j ∧ j < 84) ∨ 100 ≤ j) → a_beg A way j = A j := fun j hj => by
    rw [beg_at, if_neg (by omega), if_neg (by omega)]
  have a9 : a_beg A way 9 = 0 := by rw [beg_at, if_neg (by omega), if_pos (by omega)]
  have b7 : o_beg B way dv 7 = way := by unfold o_beg; rw [if_pos rfl]
  have b8 : o_beg B way dv 8 = dv := by unfold o_beg; rw [if_neg (by omega), if_pos rfl]
  have b1042 : o_beg B way dv 1042 = A 14 := by
    unfold o_beg
    rw [if_neg (by omega), if_neg (by omega), if_neg (by omega), if_pos (by omega)]
    exact hR.cts (j := 2) (by omega)
  have z1 : (((0 : Nat) : Int) + 1) = 1 := rfl
  have hgo := @z_goOn b o 0 0 (fun g => if g = 20 then 100 + q4 else if g = 18 then 100 + q3 else if g = 23 then 100 + q2 else if g = 22 then 100 + q1 else P g) (a_beg A way) (o_beg B way dv) (Int32.ofInt 0) (Int32.ofInt 0) (s_I (s_I w5 o 9 (Int32.ofInt 0)) o 10 (Int32.ofInt 0))
  rw [z1] at hgo
  refine hgo h7 hI hM (rl_beg hR) (by rw [b7, beg_7]) (by rw [b8, ab 8 (by omega)]; exact h8.symm) (by rw [ab 8 (by omega), h8]; exact hdv) ?_ ?_ (by rw [ob _ (by omega), ob _ (by omega)]; exact h11) (by rw [ab _ (by omega)]; exact h18) (fun j hj => by rw [ab _ (by omega)]; exact hJ.2 j hj) (by rw [b1042, ab 14 (by omega), a9]; omega) (by rw [b1042]; exact h14) a9 (by unfold o_beg; rfl) (by unfold o_beg; rfl) (Or.inl ⟨rfl, by rw [ab 0 (by omega)]; omega⟩) ?_
  · rw [ob _ (by omega), hk]
    exact (k_c (ab _ (by omega)) (by omega) (fun j hj => ab _ (by omega))).symm
  · rw [ob _ (by omega), hdu]
    exact (d_c (ab _ (by omega)) (by omega) (fun j hj => ab _ (by omega))).symm
  · intro w6 B6 m1 m2 m3 m4 m5 m6 m7 m8
    simp (disch := omega) only [wp_c, wp_n, jj_n, v_ct, Int.reduceToNat, Int.toNat_natCast, stE, wlE, lgt, lpu, lpw, v_c2, va_s, true_and, and_true, Option.toList, List.nil_append, List.cons_append, List.take, List.drop, List.reverse, List.reverseAux, List.length_cons, List.length_nil, reduceCtorEq, false_implies, true_implies, forall_const, not_true_eq_false, not_false_eq_true, ite_true, ite_false, Bool.false_eq_true, I_I, J_J, Nat.add_left_cancel_iff, Nat.reduceEqDiff, Nat.add_eq_left, Nat.left_eq_add, false_and, and_false, Nat.reduceSub, Nat.sub_self, Nat.le_refl, Nat.zero_le, ge_iff_le, Nat.reduceAdd, Nat.reduceLeDiff, Nat.zero_add, Nat.reduceLT, z_lt, z_le, z_eq, z_l0, z_g0, z_le0, z_ge0, z_e0, z_e1, z_vp, z_nc, z_rem, z_div, i_ltT, i_ltF, i_leT, i_leF, i_eqT, i_eqF, n_ltT, n_ltF, n_leT, n_leF, n_eqT, n_eqF, tn_9, tn_12, tn_14, tn_20, tn_28, tn_44, tn_52, tn_68, tn_84, tn_100, tn_116, tn_132, fu_e, up_eq, ob_0, ob_b, oi_add, oi_sub, oi_mul, oi_neg, Int.add_zero, Int.zero_add, or_true, true_or, or_false, false_or, and_self, z_i2l, z_l2i, lo_nat, lo_add, lo_sub, lo_mul, lo_0, e_rem, mr_X10_turn]
    refine And.intro ?_ ?_
    · cases (a_go (a_beg A way) 0 0 (Int32.ofInt 0) (Int32.ofInt 0)).2.1
      · exact Or.inr rfl
      · exact Or.inl rfl
    · refine hq w6 _ B6 m1 (f6.trans m2) m3 ⟨?_, ?_, ?_⟩ (fun i hi => ?_) (fun i hi => ?_) m5 m6 m7 (fun hL => m8 ⟨?_, fun j j1 j2 => ?_⟩)
      · rw [m4 7 (by omega), b7]
      · rw [m4 8 (by omega), b8]
      · rw [m4 1000 (by omega), ob _ (by omega)]
      · rw [m4 _ (by omega)]
        unfold o_beg
        rw [if_neg (by omega), if_neg (by omega), if_pos (by omega), show 28 + (1020 + i - 1020) = 28 + i by omega]
        exact hR.dig hi
      · rw [m4 _ (by omega)]
        unfold o_beg
        rw [if_neg (by omega), if_neg (by omega), if_neg (by omega), if_pos (by omega), show 12 + (1040 + i - 1040) = 12 + i by omega]
        exact hR.cts hi
      · rw [ob _ (by omega), ab _ (by omega)]; exact hL.1
      · rw [ob _ (by omega), ab _ (by omega)]; exact hL.2 j j1 j2
