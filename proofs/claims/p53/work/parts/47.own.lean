/-! a turn goes on, from a pin or a lever -/
theorem pins_M0 : ∀ (n : Nat) (A : Row) (p : Nat), (p : Int) + n = A 0 → TI A → M0 A → M0 (a_pins n A p).1 := by
  intro n
  induction n with
  | zero => intro A p _ _ h; exact h
  | succ n ih =>
    intro A p hn hI h
    have h0 := hI.1
    rw [a_pins]
    split
    · exact ih A (p + 1) (by omega) hI h
    · split
      · intro i hi; simp only; rw [up_eq, if_neg (by omega)]; exact h i hi
      · have e0 : a_mv A ((A 4).toNat + p) (A (20 + p)) 0 = A 0 := mv_k _ _ _ _ (by omega) (by unfold kp; omega)
        exact ih _ (p + 1) (by omega) (hI.mv (by omega) (hI.2.2.1 p (by omega))) (h.mv (by omega) (hI.2.2.1 p (by omega)).1)
theorem z_goOn {b o part pl : Nat} {P : Nat → Nat} {A B : Row} {c l : Int32} {w : mW} {Q : mW → mO → Prop} (hO : OW w b o P B) (hI : TI A) (hM : M0 A) (hR : RAB A B) (h7 : B 7 = A 7) (h8 : B 8 = A 8) (h8' : A 8 = 0 ∨ A 8 = 1) (hk : B 1013 = k_num A) (hdu : B 1014 = du A) (h11 : B 1011 = B 18) (h18 : 0 ≤ A 18) (hd : ∀ j, j < 16 → 0 ≤ A (116 + j) ∧ A (116 + j) ≤ 9)
  (hcd : B 1042 = A 14 - A 9) (hcr : 0 ≤ B 1042 ∧ B 1042 ≤ 1000000000) (h9 : A 9 = 0) (hc : Int32.ofInt (B 1010) = c) (hl : Int32.ofInt (B 1009) = l) (hp : (part = 0 ∧ (pl : Int) ≤ A 0) ∨ (part = 1 ∧ (pl : Int) ≤ A 1))
  (hq : ∀ w' B', OW w' b o P B' → FO b w w' → RX (a_fin (a_go A part pl c l)) B' → KG B B' → (0 < a_fin (a_go A part pl c l) 5 → B' 6 = a_fin (a_go A part pl c l) 6) → Int32.ofInt (B' 1009) = (a_go A part pl c l).2.2 → SV A (a_fin (a_go A part pl c l)) → (LX A B → LX (a_fin (a_go A part pl c l)) B') → Q w' (.inl (some (.int (Int32.ofInt (match (a_go A part pl c l).2.1 with | none => 1 | some _ => 0)))))) :
  CT n_X10_goOn [.ref o, .int (Int32.ofInt ((part : Int) + 1)), .int (Int32.ofInt pl)] w Q := by
  have h0 := hI.1
  have hF := hO.F
  have hV := hO.V
  have hge := hO.ge
  refine ct_X10_goOn (rt_X10_goOn_0 ?_)
  have hO5 := hO.spart (v := 0)
  have hR5 := hR.u5 (v := 0)
  have f5 : ∀ j, ¬ j = 5 → up B 5 0 j = B j := fun j hj => by rw [up_eq, if_neg hj]
  have hL5 : LX A B → LX A (up B 5 0) := fun h => ⟨by rw [f5 _ (by omega)]; exact h.1, fun j h1 h2 => by rw [f5 _ (by omega)]; exact h.2 j h1 h2⟩
  have F5 : FO b w (s_I w o 6 (Int32.ofInt 0)) := (FO.refl _ _).I hge.1
  have K5 : KG B (up B 5 0) := fun j hj => f5 j (by omega)
  rcases hp with ⟨rfl, hpl⟩ | ⟨rfl, hpl⟩
  · have z1 : (((0 : Nat) : Int) + 1) = 1 := rfl
    simp (disch := omega) only [wp_c, wp_n, jj_n, v_ct, Int.reduceToNat, Int.toNat_natCast, stE, wlE, lgt, lpu, lpw, v_c2, va_s, true_and, and_true, Option.toList, List.nil_append, List.cons_append, List.take, List.drop, List.reverse, List.reverseAux, List.length_cons, List.length_nil, reduceCtorEq, false_implies, true_implies, forall_const, not_true_eq_false, not_false_eq_true, ite_true, ite_false, Bool.false_eq_true, I_I, J_J, Nat.add_left_cancel_iff, Nat.reduceEqDiff, Nat.add_eq_left, Nat.left_eq_add, false_and, and_false, Nat.reduceSub, Nat.sub_self, Nat.le_refl, Nat.zero_le, ge_iff_le, Nat.reduceAdd, Nat.reduceLeDiff, Nat.zero_add, Nat.reduceLT, z_lt, z_le, z_eq, z_l0, z_g0, z_le0, z_ge0, z_e0, z_e1, z_vp, z_nc, z_rem, z_div, i_ltT, i_ltF, i_leT, i_leF, i_eqT, i_eqF, n_ltT, n_ltF, n_leT, n_leF, n_eqT, n_eqF, tn_9, tn_12, tn_14, tn_20, tn_28, tn_44, tn_52, tn_68, tn_84, tn_100, tn_116, tn_132, fu_e, up_eq, ob_0, ob_b, oi_add, oi_sub, oi_mul, oi_neg, Int.add_zero, Int.zero_add, or_true, true_or, or_false, false_or, and_self, z_i2l, z_l2i, lo_nat, lo_add, lo_sub, lo_mul, lo_0, e_rem, hF, z1]
    have kk : ∀ j, kp j → (a_pins ((A 0).toNat - pl) A pl).1 j = A j ∧ TI (a_pins ((A 0).toNat - pl) A pl).1 := fun j hj => pins_k _ A pl j (by omega) hI hj
    have kS := pins_SV ((A 0).toNat - pl) A pl (by omega) hI
    have k9 := pins_9 ((A 0).toNat - pl) A pl
    have kM := pins_M0 ((A 0).toNat - pl) A pl (by omega) hI hM
    rw [go_0 _ _ _ _ (kk 1 (by unfold kp; omega)).1] at hq
    refine z_gp ((A 0).toNat - pl) A (up B 5 0) pl _ _ _ (by omega) hI hM hR5 (by rw [f5 _ (by omega)]; exact h7) hO5 ?_
    intro w1 B1 r1 r2 r3 r4 r5 r6 r7
    generalize a_pins ((A 0).toNat - pl) A pl = z at kk kS k9 kM hq r1 r3 ⊢
    obtain ⟨A1, ok⟩ := z
    simp only at kk kS k9 kM hq r1 r3 ⊢
    have kI : TI A1 := (kk 0 (by unfold kp; omega)).2
    have g : ∀ j, kp j → A1 j = A j := fun j hj => (kk j hj).1
    have g0 := g 0 (by unfold kp; omega)
    have g1 := g 1 (by unfold kp; omega)
    have g2 := g 2 (by unfold kp; omega)
    have g4 := g 4 (by unfold kp; omega)
    have g7 := g 7 (by unfold kp; omega)
    have g8 := g 8 (by unfold kp; omega)
    have g18 := g 18 (by unfold kp; omega)
    have gk : k_num A1 = k_num A := k_c g2 (by omega) (fun j hj => g _ (by unfold kp; omega))
    have gd : du A1 = du A := d_c g1 (by omega) (fun j hj => g _ (by unfold kp; omega))
    have e : ∀ j, (j = 7 ∨ j = 8 ∨ j = 18 ∨ j = 1000 ∨ 1011 ≤ j ∨ (132 ≤ j ∧ j < 252)) → B1 j = B j := fun j hj => by rw [r2 j (by omega), f5 j (by omega)]
    have gL : LX A B → LX A1 B1 := fun hL => ⟨by rw [e 18 (by omega), g18]; exact hL.1, fun j h1 h2 => by rw [e j (by omega), g j (by unfold kp; omega)]; exact hL.2 j h1 h2⟩
    cases ok with
    | none =>
      intro z5 z6 v3 v4 v5
      simp only at hq
      have hs1 := r1.sz
      have hV1 := r6.V
      have hF1 := r6.F
      have hw4 : B1 4 = ((A 4).toNat : Int) := by rw [hs1.2.2.2.2, g4]; omega
      refine rt_X10_goOn_87 ?_
      simp (disch := omega) only [wp_c, wp_n, jj_n, v_ct, Int.reduceToNat, Int.toNat_natCast, stE, wlE, lgt, lpu, lpw, v_c2, va_s, true_and, and_true, Option.toList, List.nil_append, List.cons_append, List.take, List.drop, List.reverse, List.reverseAux, List.length_cons, List.length_nil, reduceCtorEq, false_implies, true_implies, forall_const, not_true_eq_false, not_false_eq_true, ite_true, ite_false, Bool.false_eq_true, I_I, J_J, Nat.add_left_cancel_iff, Nat.reduceEqDiff, Nat.add_eq_left, Nat.left_eq_add, false_and, and_false, Nat.reduceSub, Nat.sub_self, Nat.le_refl, Nat.zero_le, ge_iff_le, Nat.reduceAdd, Nat.reduceLeDiff, Nat.zero_add, Nat.reduceLT, z_lt, z_le, z_eq, z_l0, z_g0, z_le0, z_ge0, z_e0, z_e1, z_vp, z_nc, z_rem, z_div, i_ltT, i_ltF, i_leT, i_leF, i_eqT, i_eqF, n_ltT, n_ltF, n_leT, n_leF, n_eqT, n_eqF, tn_9, tn_12, tn_14, tn_20, tn_28, tn_44, tn_52, tn_68, tn_84, tn_100, tn_116, tn_132, fu_e, up_eq, ob_0, ob_b, oi_add, oi_sub, oi_mul, oi_neg, Int.add_zero, Int.zero_add, or_true, true_or, or_false, false_or, and_self, z_i2l, z_l2i, lo_nat, lo_add, lo_sub, lo_mul, lo_0, e_rem, hF1, hV1.1, hw4]
      refine rt_X10_goOn_100 ?_
      simp (disch := omega) only [wp_c, wp_n, jj_n, v_ct, Int.reduceToNat, Int.toNat_natCast, stE, wlE, lgt, lpu, lpw, v_c2, va_s, true_and, and_true, Option.toList, List.nil_append, List.cons_append, List.take, List.drop, List.reverse, List.reverseAux, List.length_cons, List.length_nil, reduceCtorEq, false_implies, true_implies, forall_const, not_true_eq_false, not_false_eq_true, ite_true, ite_false, Bool.false_eq_true, I_I, J_J, Nat.add_left_cancel_iff, Nat.reduceEqDiff, Nat.add_eq_left, Nat.left_eq_add, false_and, and_false, Nat.reduceSub, Nat.sub_self, Nat.le_refl, Nat.zero_le, ge_iff_le, Nat.reduceAdd, Nat.reduceLeDiff, Nat.zero_add, Nat.reduceLT, z_lt, z_le, z_eq, z_l0, z_g0, z_le0, z_ge0, z_e0, z_e1, z_vp, z_nc, z_rem, z_div, i_ltT, i_ltF, i_leT, i_leF, i_eqT, i_eqF, n_ltT, n_ltF, n_leT, n_leF, n_eqT, n_eqF, tn_9, tn_12, tn_14, tn_20, tn_28, tn_44, tn_52, tn_68, tn_84, tn_100, tn_116, tn_132, fu_e, up_eq, ob_0, ob_b, oi_add, oi_sub, oi_mul, oi_neg, Int.add_zero, Int.zero_add, or_true, true_or, or_false, false_or, and_self, z_i2l, z_l2i, lo_nat, lo_add, lo_sub, lo_mul, lo_0, e_rem]
      refine z_lv (c := c) (l := l) r6 kI kM r1 (by rw [e 7 (by omega), g7]; exact h7) (by rw [e 8 (by omega), g8]; exact h8) (by rw [g8]; exact h8') (by rw [z5, up_eq, if_pos rfl]) (by rw [e 1013 (by omega), gk]; exact hk) (by rw [e 1014 (by omega), gd]; exact hdu) (by rw [e 1011 (by omega), e 18 (by omega)]; exact h11) (by rw [g18]; exact h18) (fun j hj => by rw [g _ (by unfold kp; omega)]; exact hd j hj)
        ?_ (by rw [e 1042 (by omega)]; exact hcr) (by rw [k9]; exact h9) (by rw [r5, f5 _ (by omega)]; exact hc) (by rw [r4, f5 _ (by omega)]; exact hl) (by rw [g1]; omega) ?_
      · rw [e 1042 (by omega), hcd]
        have := kS.2.1 0 (by omega)
        simp only [Nat.add_zero] at this
        omega
      · intro w2 B2 m1 m2 m3 m4 m5 m6 m7 m8
        refine hq w2 B2 m1 ((F5.trans r7).trans m2) m3 (fun j hj => ?_) m5 m6 (kS.trans m7) (fun hL => m8 (gL hL))
        rw [m4 j hj]
        exact e j (by omega)
    | some k =>
      intro z5 z6
      simp only at hq
      have e5 : a_fin (A1, some (0, k), l) 5 = 1 := by simp only [a_fin]; rw [up_eq, if_neg (by omega), up_eq, if_pos rfl]; rfl
      have e6 : a_fin (A1, some (0, k), l) 6 = k := by simp only [a_fin]; rw [up_eq, if_pos rfl]
      have eo : ∀ j, ¬ j = 5 → ¬ j = 6 → a_fin (A1, some (0, k), l) j = A1 j := fun j q1 q2 => by simp only [a_fin]; rw [up_eq, if_neg q2, up_eq, if_neg q1]
      refine hq w1 B1 r6 (F5.trans r7) ⟨⟨fun j hj => ?_, fun i hi => ?_⟩, ?_, ?_, ?_, ?_⟩ (fun j hj => ?_) (fun _ => ?_) ?_ ?_ (fun hL => ⟨?_, fun j h1 h2 => ?_⟩)
      · rw [eo j (by unfold RK at hj; omega) (by unfold RK at hj; omega)]; exact r1.1 j hj
      · rw [eo _ (by omega) (by omega)]; exact r1.2 i hi
      · rw [z5]; exact e5.symm
      · rw [e 1013 (by omega), hk]
        exact ((k_c (eo _ (by omega) (by omega)) (by omega) (fun j hj => eo _ (by omega) (by omega))).trans gk).symm
      · rw [e 1014 (by omega), hdu]
        exact ((d_c (eo _ (by omega) (by omega)) (by omega) (fun j hj => eo _ (by omega) (by omega))).trans gd).symm
      · rw [e 1011 (by omega), e 18 (by omega)]; exact h11
      · exact e j (by omega)
      · rw [z6]; exact e6.symm
      · rw [r4, f5 _ (by omega)]; exact hl
      · exact kS.trans (SV.same (fun j hj => eo j (by omega) (by omega)))
      · rw [eo _ (by omega) (by omega)]; exact (gL hL).1
      · rw [eo _ (by omega) (by omega)]; exact (gL hL).2 j h1 h2
  · have z1 : (((1 : Nat) : Int) + 1) = 2 := rfl
    simp (disch := omega) only [wp_c, wp_n, jj_n, v_ct, Int.reduceToNat, Int.toNat_natCast, stE, wlE, lgt, lpu, lpw, v_c2, va_s, true_and, and_true, Option.toList, List.nil_append, List.cons_append, List.take, List.drop, List.reverse, List.reverseAux, List.length_cons, List.length_nil, reduceCtorEq, false_implies, true_implies, forall_const, not_true_eq_false, not_false_eq_true, ite_true, ite_false, Bool.false_eq_true, I_I, J_J, Nat.add_left_cancel_iff, Nat.reduceEqDiff, Nat.add_eq_left, Nat.left_eq_add, false_and, and_false, Nat.reduceSub, Nat.sub_self, Nat.le_refl, Nat.zero_le, ge_iff_le, Nat.reduceAdd, Nat.reduceLeDiff, Nat.zero_add, Nat.reduceLT, z_lt, z_le, z_eq, z_l0, z_g0, z_le0, z_ge0, z_e0, z_e1, z_vp, z_nc, z_rem, z_div, i_ltT, i_ltF, i_leT, i_leF, i_eqT, i_eqF, n_ltT, n_ltF, n_leT, n_leF, n_eqT, n_eqF, tn_9, tn_12, tn_14, tn_20, tn_28, tn_44, tn_52, tn_68, tn_84, tn_100, tn_116, tn_132, fu_e, up_eq, ob_0, ob_b, oi_add, oi_sub, oi_mul, oi_neg, Int.add_zero, Int.zero_add, or_true, true_or, or_false, false_or, and_self, z_i2l, z_l2i, lo_nat, lo_add, lo_sub, lo_mul, lo_0, e_rem, hF, z1]
    rw [go_1] at hq
    refine rt_X10_goOn_87 ?_
    simp (disch := omega) only [wp_c, wp_n, jj_n, v_ct, Int.reduceToNat, Int.toNat_natCast, stE, wlE, lgt, lpu, lpw, v_c2, va_s, true_and, and_true, Option.toList, List.nil_append, List.cons_append, List.take, List.drop, List.reverse, List.reverseAux, List.length_cons, List.length_nil, reduceCtorEq, false_implies, true_implies, forall_const, not_true_eq_false, not_false_eq_true, ite_true, ite_false, Bool.false_eq_true, I_I, J_J, Nat.add_left_cancel_iff, Nat.reduceEqDiff, Nat.add_eq_left, Nat.left_eq_add, false_and, and_false, Nat.reduceSub, Nat.sub_self, Nat.le_refl, Nat.zero_le, ge_iff_le, Nat.reduceAdd, Nat.reduceLeDiff, Nat.zero_add, Nat.reduceLT, z_lt, z_le, z_eq, z_l0, z_g0, z_le0, z_ge0, z_e0, z_e1, z_vp, z_nc, z_rem, z_div, i_ltT, i_ltF, i_leT, i_leF, i_eqT, i_eqF, n_ltT, n_ltF, n_leT, n_leF, n_eqT, n_eqF, tn_9, tn_12, tn_14, tn_20, tn_28, tn_44, tn_52, tn_68, tn_84, tn_100, tn_116, tn_132, fu_e, up_eq, ob_0, ob_b, oi_add, oi_sub, oi_mul, oi_neg, Int.add_zero, Int.zero_add, or_true, true_or, or_false, false_or, and_self, z_i2l, z_l2i, lo_nat, lo_add, lo_sub, lo_mul, lo_0, e_rem]
    refine rt_X10_goOn_99 ?_
    simp (disch := omega) only [wp_c, wp_n, jj_n, v_ct, Int.reduceToNat, Int.toNat_natCast, stE, wlE, lgt, lpu, lpw, v_c2, va_s, true_and, and_true, Option.toList, List.nil_append, List.cons_append, List.take, List.drop, List.reverse, List.reverseAux, List.length_cons, List.length_nil, reduceCtorEq, false_implies, true_implies, forall_const, not_true_eq_false, not_false_eq_true, ite_true, ite_false, Bool.false_eq_true, I_I, J_J, Nat.add_left_cancel_iff, Nat.reduceEqDiff, Nat.add_eq_left, Nat.left_eq_add, false_and, and_false, Nat.reduceSub, Nat.sub_self, Nat.le_refl, Nat.zero_le, ge_iff_le, Nat.reduceAdd, Nat.reduceLeDiff, Nat.zero_add, Nat.reduceLT, z_lt, z_le, z_eq, z_l0, z_g0, z_le0, z_ge0, z_e0, z_e1, z_vp, z_nc, z_rem, z_div, i_ltT, i_ltF, i_leT, i_leF, i_eqT, i_eqF, n_ltT, n_ltF, n_leT, n_leF, n_eqT, n_eqF, tn_9, tn_12, tn_14, tn_20, tn_28, tn_44, tn_52, tn_68, tn_84, tn_100, tn_116, tn_132, fu_e, up_eq, ob_0, ob_b, oi_add, oi_sub, oi_mul, oi_neg, Int.add_zero, Int.zero_add, or_true, true_or, or_false, false_or, and_self, z_i2l, z_l2i, lo_nat, lo_add, lo_sub, lo_mul, lo_0, e_rem]
    refine rt_X10_goOn_100 ?_
    simp (disch := omega) only [wp_c, wp_n, jj_n, v_ct, Int.reduceToNat, Int.toNat_natCast, stE, wlE, lgt, lpu, lpw, v_c2, va_s, true_and, and_true, Option.toList, List.nil_append, List.cons_append, List.take, List.drop, List.reverse, List.reverseAux, List.length_cons, List.length_nil, reduceCtorEq, false_implies, true_implies, forall_const, not_true_eq_false, not_false_eq_true, ite_true, ite_false, Bool.false_eq_true, I_I, J_J, Nat.add_left_cancel_iff, Nat.reduceEqDiff, Nat.add_eq_left, Nat.left_eq_add, false_and, and_false, Nat.reduceSub, Nat.sub_self, Nat.le_refl, Nat.zero_le, ge_iff_le, Nat.reduceAdd, Nat.reduceLeDiff, Nat.zero_add, Nat.reduceLT, z_lt, z_le, z_eq, z_l0, z_g0, z_le0, z_ge0, z_e0, z_e1, z_vp, z_nc, z_rem, z_div, i_ltT, i_ltF, i_leT, i_leF, i_eqT, i_eqF, n_ltT, n_ltF, n_leT, n_leF, n_eqT, n_eqF, tn_9, tn_12, tn_14, tn_20, tn_28, tn_44, tn_52, tn_68, tn_84, tn_100, tn_116, tn_132, fu_e, up_eq, ob_0, ob_b, oi_add, oi_sub, oi_mul, oi_neg, Int.add_zero, Int.zero_add, or_true, true_or, or_false, false_or, and_self, z_i2l, z_l2i, lo_nat, lo_add, lo_sub, lo_mul, lo_0, e_rem]
    refine z_lv (c := c) (l := l) hO5 hI hM hR5 (by rw [f5 _ (by omega)]; exact h7) (by rw [f5 _ (by omega)]; exact h8) h8' (by rw [up_eq, if_pos rfl]) (by rw [f5 _ (by omega)]; exact hk) (by rw [f5 _ (by omega)]; exact hdu) (by rw [f5 _ (by omega), f5 _ (by omega)]; exact h11) h18 hd
      (by rw [f5 _ (by omega)]; exact hcd) (by rw [f5 _ (by omega)]; exact hcr) h9 (by rw [f5 _ (by omega)]; exact hc) (by rw [f5 _ (by omega)]; exact hl) (by omega) ?_
    intro w2 B2 m1 m2 m3 m4 m5 m6 m7 m8
    refine hq w2 B2 m1 (F5.trans m2) m3 (fun j hj => ?_) m5 m6 m7 (fun hL => m8 (hL5 hL))
    rw [m4 j hj]
    exact K5 j hj
/-! a turn -/
/-- the row before a turn -/
def o_beg (B : Row) (way dv : Int) : Row := fun j => if j = 7 then way else if j = 8 then dv else if 1020 ≤ j ∧ j < 1036 then B (28 + (j - 1020)) else if 1040 ≤ j ∧ j < 1046 then B (12 + (j - 1040)) else if (52 ≤ j ∧ j < 68) ∨ (84 ≤ j ∧ j < 100) ∨ j = 1009 ∨ j = 1010 then 0 else B j
theorem OW.arr' {w w1 : mW} {b o f q : Nat} {P : Nat → Nat} {B : Row} {g : Nat → Int} (h : OW w b o P B) (hf : 15 ≤ f ∧ f ≤ 23) (hw : FO (100 + w_n w) w w1) (hq : 100 + w_n w ≤ q) (hq2 : q < 100 + w_n w1) (hs : w_sh w1 q = (1, olen f)) (hv : ∀ i, i < olen f → w_I w1 q i = Int32.ofInt (g i)) :
    OW (s_R w1 o f (some q)) b o (fun k => if k = f then q else P k) (fun j => if oi f 0 ≤ j ∧ j < oi f 0 + olen f then g (j - oi f 0) else B j) :=
  h.arr hf hw hq hq2 hs (fun i hi => by
    have e := oi_base f i hf
    rw [hv i hi, if_pos (by omega), show oi f i - oi f 0 = i by omega]) (fun j hj => by
    rw [if_neg]
    intro z
    have e := oi_base f (j - oi f 0) hf
    exact hj (j - oi f 0) (by omega) (by omega))
/-- a copy of a row, in a new cell -/
theorem C_at {w : mW} {a q : Nat} : (∀ c, w_sh (s_C (s_K w q) a) c = if c = 100 + q then w_sh w a else w_sh w c) ∧ (∀ c, w_I (s_C (s_K w q) a) c = if c = 100 + q then w_I w a else w_I w c) ∧ (∀ c, ¬ c = 100 + q → w_R (s_C (s_K w q) a) c = w_R w c) ∧ (∀ c, ¬ c = 100 + q → w_J (s_C (s_K w q) a) c = w_J w c) ∧ w_n (s_C (s_K w q) a) = q + 1 := by
  refine ⟨fun c => ?_, fun c => ?_, fun c hc => ?_, fun c hc => ?_, rfl⟩
  · rw [s_C, A_sh, N_sh, K_n, K_sh]
  · rw [s_C, A_I, K_n]
    split
    · rw [K_I]
    · rename_i h; rw [N_Ic, K_n, if_neg h, K_I]
  · rw [s_C, A_R, N_Rc, K_n, if_neg hc, K_R]
  · rw [s_C, A_J, N_Jc, K_n, if_neg hc, K_J]
theorem FO.C {b a q : Nat} {w w' : mW} (h : FO b w w') (hq : w_n w' ≤ q) (hb : b ≤ 100 + w_n w') : FO b w (s_C (s_K w' q) a) := by
  obtain ⟨c1, c2, c3, c4, c5⟩ := C_at (w := w') (a := a) (q := q)
  refine ⟨fun c hc => ?_, by rw [c5]; have := h.2; omega⟩
  have hl := h.lv hb hc
  have hn : ¬ c = 100 + q := by omega
  rw [c1, c2, c3 _ hn, c4 _ hn, if_neg hn, if_neg hn]
  exact h.1 c hc
/-- a row of an own machine is copied -/
theorem OW.copy {w : mW} {b o f g q : Nat} {P : Nat → Nat} {B : Row} (h : OW w b o P B) (hf : 15 ≤ f ∧ f ≤ 23) (hg : 15 ≤ g ∧ g ≤ 23) (hl : olen f = olen g) (hq : w_n w ≤ q) :
    OW (s_R (s_C (s_K w q) (P g)) o f (some (100 + q))) b o (fun k => if k = f then 100 + q else P k) (fun j => if oi f 0 ≤ j ∧ j < oi f 0 + olen f then B (oi g 0 + (j - oi f 0)) else B j) := by
  obtain ⟨c1, c2, c3, c4, c5⟩ := C_at (w := w) (a := P g) (q := q)
  refine h.arr' (g := fun i => B (oi g 0 + i)) hf ((FO.refl _ _).C hq (Nat.le_refl _)) (by omega) (by rw [c5]; omega) ?_ (fun i hi => ?_)
  · rw [c1, if_pos rfl, h.1.2.2.1 g hg.1 hg.2, hl]
  · rw [c2, if_pos rfl, h.2.1.2.2 g i hg.1 hg.2 (by omega), oi_base g i hg]
/-- a row of an own machine is new -/
theorem OW.new {w : mW} {b o f q n : Nat} {P : Nat → Nat} {B : Row} (h : OW w b o P B) (hf : 15 ≤ f ∧ f ≤ 23) (hl : olen f = n) (hq : w_n w ≤ q) :
    OW (s_R (s_N (s_K w q) (1, n)) o f (some (100 + q))) b o (fun k => if k = f then 100 + q else P k) (fun j => if oi f 0 ≤ j ∧ j < oi f 0 + olen f then 0 else B j) := by
  refine h.arr' (g := fun _ => 0) hf ((FO.refl _ _).N hq (Nat.le_refl _)) (by omega) (by show 100 + q < 100 + (q + 1); omega) ?_ (fun i hi => ?_)
  · rw [N_sh, K_n, if_pos rfl, hl]
  · rw [N_Ic, K_n, if_pos rfl]; rfl
