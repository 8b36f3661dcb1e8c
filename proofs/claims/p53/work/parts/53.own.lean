/-! going on from a jam -/
theorem z_free {b o : Nat} {P : Nat → Nat} {A B : Row} {N : Int} {w : mW} {Q : mW → mO → Prop} (hO : OW w b o P B) (hT : TS A B N) (h5 : 0 < A 5) (hN : N ≤ 900000000)
  (hq : ∀ w' B', OW w' b o P B' → FO b w w' → TS (a_fin (a_go (a_fr A) (A 5 - 1).toNat (A 6).toNat 0 0)) B' (N + 1) → B' 1000 = B 1000 → (LX A B → LX (a_fin (a_go (a_fr A) (A 5 - 1).toNat (A 6).toNat 0 0)) B') → Q w' (.inl (some (.int (Int32.ofInt (match (a_go (a_fr A) (A 5 - 1).toNat (A 6).toNat 0 0).2.1 with | none => 1 | some _ => 0)))))) : CT n_X10_free [.ref o] w Q := by
  obtain ⟨hG, ⟨hR, b5, hk, hdu, h11⟩, hJX, h14⟩ := hT
  obtain ⟨x6, x7, x8, x20, x42⟩ := hJX h5
  have hz := hG.sz
  have hJI : JI A ∧ A 9 = 0 ∧ JM A := by
    rcases hG.2.2.2 with q | q
    · omega
    · exact q
  have hJ := hG.1.1
  have hTI := TJ_TI hJ hJI.1.2.1
  have hjw := JI_jw hJI.1 hJ
  obtain ⟨j, hjn⟩ : ∃ j : Nat, a_jw A = j := ⟨(a_jw A).toNat, by omega⟩
  have hj16 : j < 16 := by omega
  have hf := hTI.2.2.2.2.2.2 j hj16
  have hF := hO.F
  have hV := hO.V
  have hge := hO.ge
  have hs := hR.sz
  have g17 := hge.2 17 (by omega) (by omega)
  have hfr : a_fr A = up (up A (68 + j) (A (68 + j) % 2)) 5 0 := by unfold a_fr; rw [hjn]; rfl
  have hk1 : ∀ i, i ≠ 5 → ¬ i = 68 + j → a_fr A i = A i := fun i h1 h2 => by rw [hfr, up_eq, if_neg h1, up_eq, if_neg h2]
  have hTI1 : TI (a_fr A) := by
    rw [hfr]; exact (flt_TI hTI ⟨by omega, by omega⟩ hj16).up (by omega)
  have b68 := hR.flt hj16
  have h12 : B 5 = 1 ∨ B 5 = 2 := by rcases hJI.1.1 with q | q <;> omega
  have ewh : (if B 5 = 1 then B 4 + B 6 else B 6 + 1) = (j : Int) := by rw [← hjn, a_jw, b5, hs.2.2.2.2, x6]
  have hp : ((A 5 - 1).toNat = 0 ∧ ((A 6).toNat : Int) ≤ a_fr A 0) ∨ ((A 5 - 1).toNat = 1 ∧ ((A 6).toNat : Int) ≤ a_fr A 1) := by
    rw [hk1 0 (by omega) (by omega), hk1 1 (by omega) (by omega)]
    rcases hJI.1.1 with q | q
    · left; omega
    · right; omega
  have e5 : B 5 = ((A 5 - 1).toNat : Int) + 1 := by omega
  have e6 : B 6 = ((A 6).toNat : Int) := by rcases hJI.1.1 with q | q <;> omega
  have hM84 := mb hG h5
  refine ct_X10_free (rt_X10_free_0 ?_)
  simp (disch := omega) only [wp_c, wp_n, jj_n, v_ct, Int.reduceToNat, Int.toNat_natCast, stE, wlE, lgt, lpu, lpw, v_c2, va_s, true_and, and_true, Option.toList, List.nil_append, List.cons_append, List.take, List.drop, List.reverse, List.reverseAux, List.length_cons, List.length_nil, reduceCtorEq, false_implies, true_implies, forall_const, not_true_eq_false, not_false_eq_true, ite_true, ite_false, Bool.false_eq_true, I_I, J_J, Nat.add_left_cancel_iff, Nat.reduceEqDiff, Nat.add_eq_left, Nat.left_eq_add, false_and, and_false, Nat.reduceSub, Nat.sub_self, Nat.le_refl, Nat.zero_le, ge_iff_le, Nat.reduceAdd, Nat.reduceLeDiff, Nat.zero_add, Nat.reduceLT, z_lt, z_le, z_eq, z_l0, z_g0, z_le0, z_ge0, z_e0, z_e1, z_vp, z_nc, z_rem, z_div, i_ltT, i_ltF, i_leT, i_leF, i_eqT, i_eqF, n_ltT, n_ltF, n_leT, n_leF, n_eqT, n_eqF, tn_9, tn_12, tn_14, tn_20, tn_28, tn_44, tn_52, tn_68, tn_84, tn_100, tn_116, tn_132, fu_e, up_eq, ob_0, ob_b, oi_add, oi_sub, oi_mul, oi_neg, Int.add_zero, Int.zero_add, or_true, true_or, or_false, false_or, and_self, z_i2l, z_l2i, lo_nat, lo_add, lo_sub, lo_mul, lo_0, e_rem, hF, mh_X10_free]
  refine z_wheel hO h12 ?_
  rw [ewh]
  have h1 := hO.sflt (j := j) (v := A (68 + j) % 2) hj16
  have f1 : FO b w (s_I w (P 17) j (Int32.ofInt (A (68 + j) % 2))) := (FO.refl _ _).I g17
  have hF1 := h1.F
  have hV1 := h1.V
  have u : ∀ i, ¬ i = 68 + j → up B (68 + j) (A (68 + j) % 2) i = B i := fun i hi => by rw [up_eq, if_neg hi]
  have hE := hO.E
  simp (disch := omega) only [wp_c, wp_n, jj_n, v_ct, Int.reduceToNat, Int.toNat_natCast, stE, wlE, lgt, lpu, lpw, v_c2, va_s, true_and, and_true, Option.toList, List.nil_append, List.cons_append, List.take, List.drop, List.reverse, List.reverseAux, List.length_cons, List.length_nil, reduceCtorEq, false_implies, true_implies, forall_const, not_true_eq_false, not_false_eq_true, ite_true, ite_false, Bool.false_eq_true, I_I, J_J, Nat.add_left_cancel_iff, Nat.reduceEqDiff, Nat.add_eq_left, Nat.left_eq_add, false_and, and_false, Nat.reduceSub, Nat.sub_self, Nat.le_refl, Nat.zero_le, ge_iff_le, Nat.reduceAdd, Nat.reduceLeDiff, Nat.zero_add, Nat.reduceLT, z_lt, z_le, z_eq, z_l0, z_g0, z_le0, z_ge0, z_e0, z_e1, z_vp, z_nc, z_rem, z_div, i_ltT, i_ltF, i_leT, i_leF, i_eqT, i_eqF, n_ltT, n_ltF, n_leT, n_leF, n_eqT, n_eqF, tn_9, tn_12, tn_14, tn_20, tn_28, tn_44, tn_52, tn_68, tn_84, tn_100, tn_116, tn_132, fu_e, up_eq, ob_0, ob_b, oi_add, oi_sub, oi_mul, oi_neg, Int.add_zero, Int.zero_add, or_true, true_or, or_false, false_or, and_self, z_i2l, z_l2i, lo_nat, lo_add, lo_sub, lo_mul, lo_0, e_rem, hF, hE, hV, b68, and_1 _ hf, e5, e6, mh_X10_free]
  have hR1 : RAB (a_fr A) (up B (68 + j) (A (68 + j) % 2)) := by
    rw [hfr]
    refine ⟨fun i hi => ?_, fun i hi => ?_⟩
    · unfold RK at hi
      rw [up_eq (up A (68 + j) (A (68 + j) % 2)), if_neg (by omega), up_eq, up_eq]
      split
      · rfl
      · exact hR.1 i hi
    · rw [up_eq (up A (68 + j) (A (68 + j) % 2)), if_neg (by omega), up_eq, if_neg (by omega), up_eq, if_neg (by omega)]; exact hR.2 i hi
  have c14 : B 1042 = A 14 - A 9 := by have := x42 0 (by omega); simpa using this
  refine z_goOn (A := a_fr A) (part := (A 5 - 1).toNat) (pl := (A 6).toNat) (c := Int32.ofInt (B 1010)) (l := Int32.ofInt (B 1009)) h1 hTI1 (fun i hi => by rw [hk1 _ (by omega) (by omega)]; exact (hM84 i hi).1) hR1 (by rw [u _ (by omega), hk1 _ (by omega) (by omega)]; exact x7) (by rw [u _ (by omega), hk1 _ (by omega) (by omega)]; exact x8) (by rw [hk1 _ (by omega) (by omega)]; exact hG.1.2.1) ?_ ?_ (by rw [u _ (by omega), u _ (by omega)]; exact h11) (by rw [hk1 _ (by omega) (by omega)]; exact hG.1.2.2.1) (fun i hi => by rw [hk1 _ (by omega) (by omega)]; exact hJ.2 i hi)
    (by rw [u _ (by omega), hk1 _ (by omega) (by omega), hk1 _ (by omega) (by omega)]; exact c14) (by rw [u _ (by omega), c14, hJI.2.1]; omega) (by rw [hk1 _ (by omega) (by omega)]; exact hJI.2.1) (by rw [u _ (by omega)]) (by rw [u _ (by omega)]) hp ?_
  · rw [u _ (by omega), hk]
    exact (k_c (hk1 _ (by omega) (by omega)) (by omega) (fun i hi => hk1 _ (by omega) (by omega))).symm
  · rw [u _ (by omega), hdu]
    exact (d_c (hk1 _ (by omega) (by omega)) (by omega) (fun i hi => hk1 _ (by omega) (by omega))).symm
  · intro w2 B2 m1 m2 m3 m4 m5 m6 m7 m8
    have ecl := go_cl (a_fr A) (A 5 - 1).toNat (A 6).toNat (Int32.ofInt (B 1010)) (Int32.ofInt (B 1009)) 0 0
    have efl := fin_cl (a_fr A) (A 5 - 1).toNat (A 6).toNat (Int32.ofInt (B 1010)) (Int32.ofInt (B 1009)) 0 0
    have hfk := (fin_k (c := 0) (l := 0) hTI1 hp (by rw [hk1 _ (by omega) (by omega)]; exact hG.1.2.2.1) (fun i hi => by rw [hk1 _ (by omega) (by omega)]; exact hJ.2 i hi)).1
    have hfG := free_GR hG h5
    rw [efl] at m3 m5 m7 m8
    rw [ecl.2]
    have f7 := m7.1
    rw [hk1 7 (by omega) (by omega)] at f7
    have f8 := hfk 8 (by unfold kg; omega) (by omega) (by omega) (by omega)
    rw [hk1 8 (by omega) (by omega)] at f8
    have s0 := m7.2.1 0 (by omega)
    simp only [Nat.add_zero] at s0
    rw [hk1 14 (by omega) (by omega), hk1 9 (by omega) (by omega)] at s0
    have h9 := hfG.2.2.1
    have hJ9 := hJI.2.1
    have hres : TS (a_fin (a_go (a_fr A) (A 5 - 1).toNat (A 6).toNat 0 0)) B2 (N + 1) := by
      refine ⟨hfG, m3, fun q => ⟨m5 q, ?_, ?_, fun i hi => ?_, fun i hi => ?_⟩, by omega, by omega⟩
      · rw [m4 7 (by omega), u _ (by omega), f7]; exact x7
      · rw [m4 8 (by omega), u _ (by omega), f8]; exact x8
      · have := m7.2.2 i hi
        rw [hk1 7 (by omega) (by omega), hk1 _ (by omega) (by omega), hk1 (84 + i) (by omega) (by omega)] at this
        rw [m4 _ (by omega), u _ (by omega), f7, this]; exact x20 i hi
      · have := m7.2.1 i hi
        rw [hk1 (14 + i) (by omega) (by omega), hk1 (9 + i) (by omega) (by omega)] at this
        rw [m4 _ (by omega), u _ (by omega), this]; exact x42 i hi
    have hqq := hq w2 B2 m1 (f1.trans m2) hres (by rw [m4 1000 (by omega), u _ (by omega)]) (fun hL => m8 ⟨by rw [u _ (by omega), hk1 _ (by omega) (by omega)]; exact hL.1, fun i i1 i2 => by rw [u _ (by omega), hk1 _ (by omega) (by omega)]; exact hL.2 i i1 i2⟩)
    cases ho : (a_go (a_fr A) (A 5 - 1).toNat (A 6).toNat 0 0).2.1 with
    | none =>
      rw [ho] at hqq
      simp (disch := omega) only [wp_c, wp_n, jj_n, v_ct, Int.reduceToNat, Int.toNat_natCast, stE, wlE, lgt, lpu, lpw, v_c2, va_s, true_and, and_true, Option.toList, List.nil_append, List.cons_append, List.take, List.drop, List.reverse, List.reverseAux, List.length_cons, List.length_nil, reduceCtorEq, false_implies, true_implies, forall_const, not_true_eq_false, not_false_eq_true, ite_true, ite_false, Bool.false_eq_true, I_I, J_J, Nat.add_left_cancel_iff, Nat.reduceEqDiff, Nat.add_eq_left, Nat.left_eq_add, false_and, and_false, Nat.reduceSub, Nat.sub_self, Nat.le_refl, Nat.zero_le, ge_iff_le, Nat.reduceAdd, Nat.reduceLeDiff, Nat.zero_add, Nat.reduceLT, z_lt, z_le, z_eq, z_l0, z_g0, z_le0, z_ge0, z_e0, z_e1, z_vp, z_nc, z_rem, z_div, i_ltT, i_ltF, i_leT, i_leF, i_eqT, i_eqF, n_ltT, n_ltF, n_leT, n_leF, n_eqT, n_eqF, tn_9, tn_12, tn_14, tn_20, tn_28, tn_44, tn_52, tn_68, tn_84, tn_100, tn_116, tn_132, fu_e, up_eq, ob_0, ob_b, oi_add, oi_sub, oi_mul, oi_neg, Int.add_zero, Int.zero_add, or_true, true_or, or_false, false_or, and_self, z_i2l, z_l2i, lo_nat, lo_add, lo_sub, lo_mul, lo_0, e_rem]
      refine rt_X10_free_33 ?_
      simp (disch := omega) only [wp_c, wp_n, jj_n, v_ct, Int.reduceToNat, Int.toNat_natCast, stE, wlE, lgt, lpu, lpw, v_c2, va_s, true_and, and_true, Option.toList, List.nil_append, List.cons_append, List.take, List.drop, List.reverse, List.reverseAux, List.length_cons, List.length_nil, reduceCtorEq, false_implies, true_implies, forall_const, not_true_eq_false, not_false_eq_true, ite_true, ite_false, Bool.false_eq_true, I_I, J_J, Nat.add_left_cancel_iff, Nat.reduceEqDiff, Nat.add_eq_left, Nat.left_eq_add, false_and, and_false, Nat.reduceSub, Nat.sub_self, Nat.le_refl, Nat.zero_le, ge_iff_le, Nat.reduceAdd, Nat.reduceLeDiff, Nat.zero_add, Nat.reduceLT, z_lt, z_le, z_eq, z_l0, z_g0, z_le0, z_ge0, z_e0, z_e1, z_vp, z_nc, z_rem, z_div, i_ltT, i_ltF, i_leT, i_leF, i_eqT, i_eqF, n_ltT, n_ltF, n_leT, n_leF, n_eqT, n_eqF, tn_9, tn_12, tn_14, tn_20, tn_28, tn_44, tn_52, tn_68, tn_84, tn_100, tn_116, tn_132, fu_e, up_eq, ob_0, ob_b, oi_add, oi_sub, oi_mul, oi_neg, Int.add_zero, Int.zero_add, or_true, true_or, or_false, false_or, and_self, z_i2l, z_l2i, lo_nat, lo_add, lo_sub, lo_mul, lo_0, e_rem, mr_X10_free]
      exact hqq
    | some y =>
      rw [ho] at hqq
      simp (disch := omega) only [wp_c, wp_n, jj_n, v_ct, Int.reduceToNat, Int.toNat_natCast, stE, wlE, lgt, lpu, lpw, v_c2, va_s, true_and, and_true, Option.toList, List.nil_append, List.cons_append, List.take, List.drop, List.reverse, List.reverseAux, List.length_cons, List.length_nil, reduceCtorEq, false_implies, true_implies, forall_const, not_true_eq_false, not_false_eq_true, ite_true, ite_false, Bool.false_eq_true, I_I, J_J, Nat.add_left_cancel_iff, Nat.reduceEqDiff, Nat.add_eq_left, Nat.left_eq_add, false_and, and_false, Nat.reduceSub, Nat.sub_self, Nat.le_refl, Nat.zero_le, ge_iff_le, Nat.reduceAdd, Nat.reduceLeDiff, Nat.zero_add, Nat.reduceLT, z_lt, z_le, z_eq, z_l0, z_g0, z_le0, z_ge0, z_e0, z_e1, z_vp, z_nc, z_rem, z_div, i_ltT, i_ltF, i_leT, i_leF, i_eqT, i_eqF, n_ltT, n_ltF, n_leT, n_leF, n_eqT, n_eqF, tn_9, tn_12, tn_14, tn_20, tn_28, tn_44, tn_52, tn_68, tn_84, tn_100, tn_116, tn_132, fu_e, up_eq, ob_0, ob_b, oi_add, oi_sub, oi_mul, oi_neg, Int.add_zero, Int.zero_add, or_true, true_or, or_false, false_or, and_self, z_i2l, z_l2i, lo_nat, lo_add, lo_sub, lo_mul, lo_0, e_rem]
      refine rt_X10_free_32 ?_
      simp (disch := omega) only [wp_c, wp_n, jj_n, v_ct, Int.reduceToNat, Int.toNat_natCast, stE, wlE, lgt, lpu, lpw, v_c2, va_s, true_and, and_true, Option.toList, List.nil_append, List.cons_append, List.take, List.drop, List.reverse, List.reverseAux, List.length_cons, List.length_nil, reduceCtorEq, false_implies, true_implies, forall_const, not_true_eq_false, not_false_eq_true, ite_true, ite_false, Bool.false_eq_true, I_I, J_J, Nat.add_left_cancel_iff, Nat.reduceEqDiff, Nat.add_eq_left, Nat.left_eq_add, false_and, and_false, Nat.reduceSub, Nat.sub_self, Nat.le_refl, Nat.zero_le, ge_iff_le, Nat.reduceAdd, Nat.reduceLeDiff, Nat.zero_add, Nat.reduceLT, z_lt, z_le, z_eq, z_l0, z_g0, z_le0, z_ge0, z_e0, z_e1, z_vp, z_nc, z_rem, z_div, i_ltT, i_ltF, i_leT, i_leF, i_eqT, i_eqF, n_ltT, n_ltF, n_leT, n_leF, n_eqT, n_eqF, tn_9, tn_12, tn_14, tn_20, tn_28, tn_44, tn_52, tn_68, tn_84, tn_100, tn_116, tn_132, fu_e, up_eq, ob_0, ob_b, oi_add, oi_sub, oi_mul, oi_neg, Int.add_zero, Int.zero_add, or_true, true_or, or_false, false_or, and_self, z_i2l, z_l2i, lo_nat, lo_add, lo_sub, lo_mul, lo_0, e_rem]
      refine rt_X10_free_33 ?_
      simp (disch := omega) only [wp_c, wp_n, jj_n, v_ct, Int.reduceToNat, Int.toNat_natCast, stE, wlE, lgt, lpu, lpw, v_c2, va_s, true_and, and_true, Option.toList, List.nil_append, List.cons_append, List.take, List.drop, List.reverse, List.reverseAux, List.length_cons, List.length_nil, reduceCtorEq, false_implies, true_implies, forall_const, not_true_eq_false, not_false_eq_true, ite_true, ite_false, Bool.false_eq_true, I_I, J_J, Nat.add_left_cancel_iff, Nat.reduceEqDiff, Nat.add_eq_left, Nat.left_eq_add, false_and, and_false, Nat.reduceSub, Nat.sub_self, Nat.le_refl, Nat.zero_le, ge_iff_le, Nat.reduceAdd, Nat.reduceLeDiff, Nat.zero_add, Nat.reduceLT, z_lt, z_le, z_eq, z_l0, z_g0, z_le0, z_ge0, z_e0, z_e1, z_vp, z_nc, z_rem, z_div, i_ltT, i_ltF, i_leT, i_leF, i_eqT, i_eqF, n_ltT, n_ltF, n_leT, n_leF, n_eqT, n_eqF, tn_9, tn_12, tn_14, tn_20, tn_28, tn_44, tn_52, tn_68, tn_84, tn_100, tn_116, tn_132, fu_e, up_eq, ob_0, ob_b, oi_add, oi_sub, oi_mul, oi_neg, Int.add_zero, Int.zero_add, or_true, true_or, or_false, false_or, and_self, z_i2l, z_l2i, lo_nat, lo_add, lo_sub, lo_mul, lo_0, e_rem, mr_X10_free]
      exact hqq
