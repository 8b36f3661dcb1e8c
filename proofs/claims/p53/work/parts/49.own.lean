/-! turns, one behind the other -/
def JX (A B : Row) : Prop := 0 < A 5 → B 6 = A 6 ∧ B 7 = A 7 ∧ B 8 = A 8 ∧ (∀ i, i < 16 → B (1020 + i) = (A (28 + i) - A 7 * A (84 + i)) % 10) ∧ ∀ i, i < 3 → B (1042 + i) = A (14 + i) - A (9 + i)
def TS (A B : Row) (N : Int) : Prop := GR A ∧ RX A B ∧ JX A B ∧ 0 ≤ A 14 ∧ A 14 ≤ N
theorem z_turn2 {b o : Nat} {P : Nat → Nat} {A B : Row} {way dv N : Int} {w : mW} {Q : mW → mO → Prop} (hO : OW w b o P B) (hT : TS A B N) (h8 : A 8 = dv) (hw : way = 1 ∨ way = -1) (hN : N ≤ 1000000000)
  (hq : ∀ w' P' B', OW w' b o P' B' → FO b w w' → TS (a_fin (a_one A way)) B' (N + 1) → B' 1042 = a_fin (a_one A way) 14 - a_fin (a_one A way) 9 → B' 1000 = B 1000 → a_fin (a_one A way) 8 = A 8 → a_fin (a_one A way) 4 = A 4 → Int32.ofInt (B' 1009) = (a_one A way).2.2 → (LX A B → LX (a_fin (a_one A way)) B') → Q w' (.inl (some (.int (Int32.ofInt (match (a_one A way).2.1 with | none => 1 | some _ => 0)))))) :
  CT n_X10_turn [.ref o, .int (Int32.ofInt way), .int (Int32.ofInt dv)] w Q := by
  obtain ⟨hG, ⟨hR, h5, hk, hdu, h11⟩, hJ, h14⟩ := hT
  have hRI := hG.1
  have h1G := one_GR (way := way) hG hw
  obtain ⟨-, j8, j4⟩ := one_TJ (way := way) hRI.1 hw hRI.2.2.1
  refine z_turn hO hRI.1 hRI.2.2.1 hR hk hdu h11 h8 (by rw [← h8]; exact hRI.2.1) hw ⟨h14.1, by omega⟩ ?_
  intro w' P' B' m1 m2 m3 m4 m5 m6 m7 m8 m9 m10
  have b9 : a_beg A way 9 = 0 := by rw [beg_at, if_neg (by omega), if_pos (by omega)]
  have b10 : a_beg A way 10 = 0 := by rw [beg_at, if_neg (by omega), if_pos (by omega)]
  have b11 : a_beg A way 11 = 0 := by rw [beg_at, if_neg (by omega), if_pos (by omega)]
  have bo : ∀ j, (12 ≤ j ∧ j < 52) → a_beg A way j = A j := fun j hj => by rw [beg_at, if_neg (by omega), if_neg (by omega)]
  have bz : ∀ j, (84 ≤ j ∧ j < 100) → a_beg A way j = 0 := fun j hj => by rw [beg_at, if_neg (by omega), if_pos (by omega)]
  have s0 := m9.2.1 0 (by omega)
  have s1 := m9.2.1 1 (by omega)
  have s2 := m9.2.1 2 (by omega)
  simp only [Nat.add_zero, Nat.reduceAdd] at s0 s1 s2
  rw [b9, bo 14 (by omega)] at s0
  rw [b10, bo 15 (by omega)] at s1
  rw [b11, bo 16 (by omega)] at s2
  have e7 : a_fin (a_one A way) 7 = way := by rw [m9.1, beg_7]
  have c2 := m6 2 (by omega)
  have c3 := m6 3 (by omega)
  have c4 := m6 4 (by omega)
  simp only [Nat.reduceAdd] at c2 c3 c4
  have h9 := h1G.2.2.1
  refine hq w' P' B' m1 m2 ⟨h1G, m3, fun q => ⟨m7 q, by rw [m4.1, e7], by rw [m4.2.1, j8, h8], fun i hi => ?_, fun i hi => ?_⟩, by omega, by omega⟩ (by omega) m4.2.2 j8 j4 m8 m10
  · have := m9.2.2 i hi
    rw [beg_7, bz (84 + i) (by omega), bo (28 + i) (by omega), Int.mul_zero, Int.sub_zero] at this
    rw [m5 i hi, e7, this]
    have hd := TJ_dig hRI.1 i hi
    omega
  · rcases (show i = 0 ∨ i = 1 ∨ i = 2 by omega) with rfl | rfl | rfl
    · show B' 1042 = a_fin (a_one A way) 14 - a_fin (a_one A way) 9; omega
    · show B' 1043 = a_fin (a_one A way) 15 - a_fin (a_one A way) 10; omega
    · show B' 1044 = a_fin (a_one A way) 16 - a_fin (a_one A way) 11; omega
theorem fin_5 {A : Row} {way : Int} (hG : GR A) (hw : way = 1 ∨ way = -1) : match (a_one A way).2.1 with | none => a_fin (a_one A way) 5 = 0 | some (p, _) => a_fin (a_one A way) 5 = (p : Int) + 1 := by
  have hJ := hG.1.1
  have hsz := TJ_sz hJ
  have hI := beg_TI (way := way) hJ.1 hw
  exact (fin_k (A := a_beg A way) (c := Int32.ofInt 0) (l := Int32.ofInt 0) (part := 0) (pl := 0) hI (Or.inl ⟨rfl, by rw [beg_k _ _ _ (by omega)]; omega⟩) (by rw [beg_k _ _ _ (by omega)]; exact hG.1.2.2.1) (fun j hj => by rw [beg_k _ _ _ (by omega)]; exact hJ.2 j hj)).2.2.2
theorem z_turns_2 {b o m : Nat} {t dv way : Int} {Q : mW → mO → Prop} (ht : -12 ≤ t ∧ t ≤ 12) (hm : m = t.natAbs) (hway : way = if t < 0 then -1 else 1) : ∀ (n i : Nat) (P : Nat → Nat) (A B : Row) (N : Int) (w : mW), i + n = m → TS A B N → A 8 = dv → N + n ≤ 1000000000 → OW w b o P B →
  (∀ w' P' B', OW w' b o P' B' → FO b w w' → TS (a_many n A way).1 B' (N + n) → B' 1000 = B 1000 → (a_many n A way).1 8 = A 8 → (a_many n A way).1 4 = A 4 → (LX A B → LX (a_many n A way).1 B') → Q w' (.inl (some (.int (Int32.ofInt ((i : Int) + (a_many n A way).2)))))) →
  RT n_X10_turns 2 [.ref o, .int (Int32.ofInt t), .int (Int32.ofInt dv), .int (Int32.ofInt i)] [] w (60 - 5 * i, 696 - 58 * i, false) Q := by
  have hw : way = 1 ∨ way = -1 := by rw [hway]; split <;> simp
  intro n
  induction n with
  | zero =>
    intro i P A B N w hi hT h8 hN hO hq
    refine rt_X10_turns_2 ?_
    simp (disch := omega) only [wp_c, wp_n, jj_n, v_ct, Int.reduceToNat, Int.toNat_natCast, stE, wlE, lgt, lpu, lpw, v_c2, va_s, true_and, and_true, Option.toList, List.nil_append, List.cons_append, List.take, List.drop, List.reverse, List.reverseAux, List.length_cons, List.length_nil, reduceCtorEq, false_implies, true_implies, forall_const, not_true_eq_false, not_false_eq_true, ite_true, ite_false, Bool.false_eq_true, I_I, J_J, Nat.add_left_cancel_iff, Nat.reduceEqDiff, Nat.add_eq_left, Nat.left_eq_add, false_and, and_false, Nat.reduceSub, Nat.sub_self, Nat.le_refl, Nat.zero_le, ge_iff_le, Nat.reduceAdd, Nat.reduceLeDiff, Nat.zero_add, Nat.reduceLT, z_lt, z_le, z_eq, z_l0, z_g0, z_le0, z_ge0, z_e0, z_e1, z_vp, z_nc, z_rem, z_div, i_ltT, i_ltF, i_leT, i_leF, i_eqT, i_eqF, n_ltT, n_ltF, n_leT, n_leF, n_eqT, n_eqF, tn_9, tn_12, tn_14, tn_20, tn_28, tn_44, tn_52, tn_68, tn_84, tn_100, tn_116, tn_132, fu_e, up_eq, ob_0, ob_b, oi_add, oi_sub, oi_mul, oi_neg, Int.add_zero, Int.zero_add, or_true, true_or, or_false, false_or, and_self, z_i2l, z_l2i, lo_nat, lo_add, lo_sub, lo_mul, lo_0, e_rem, mh_X10_turns]
    refine c_abs ⟨by omega, by omega⟩ ?_
    have ea : (if t < 0 then -t else t) = (i : Int) := by split <;> omega
    simp (disch := omega) only [wp_c, wp_n, jj_n, v_ct, Int.reduceToNat, Int.toNat_natCast, stE, wlE, lgt, lpu, lpw, v_c2, va_s, true_and, and_true, Option.toList, List.nil_append, List.cons_append, List.take, List.drop, List.reverse, List.reverseAux, List.length_cons, List.length_nil, reduceCtorEq, false_implies, true_implies, forall_const, not_true_eq_false, not_false_eq_true, ite_true, ite_false, Bool.false_eq_true, I_I, J_J, Nat.add_left_cancel_iff, Nat.reduceEqDiff, Nat.add_eq_left, Nat.left_eq_add, false_and, and_false, Nat.reduceSub, Nat.sub_self, Nat.le_refl, Nat.zero_le, ge_iff_le, Nat.reduceAdd, Nat.reduceLeDiff, Nat.zero_add, Nat.reduceLT, z_lt, z_le, z_eq, z_l0, z_g0, z_le0, z_ge0, z_e0, z_e1, z_vp, z_nc, z_rem, z_div, i_ltT, i_ltF, i_leT, i_leF, i_eqT, i_eqF, n_ltT, n_ltF, n_leT, n_leF, n_eqT, n_eqF, tn_9, tn_12, tn_14, tn_20, tn_28, tn_44, tn_52, tn_68, tn_84, tn_100, tn_116, tn_132, fu_e, up_eq, ob_0, ob_b, oi_add, oi_sub, oi_mul, oi_neg, Int.add_zero, Int.zero_add, or_true, true_or, or_false, false_or, and_self, z_i2l, z_l2i, lo_nat, lo_add, lo_sub, lo_mul, lo_0, e_rem, ea]
    refine rt_X10_turns_33 ?_
    simp (disch := omega) only [wp_c, wp_n, jj_n, v_ct, Int.reduceToNat, Int.toNat_natCast, stE, wlE, lgt, lpu, lpw, v_c2, va_s, true_and, and_true, Option.toList, List.nil_append, List.cons_append, List.take, List.drop, List.reverse, List.reverseAux, List.length_cons, List.length_nil, reduceCtorEq, false_implies, true_implies, forall_const, not_true_eq_false, not_false_eq_true, ite_true, ite_false, Bool.false_eq_true, I_I, J_J, Nat.add_left_cancel_iff, Nat.reduceEqDiff, Nat.add_eq_left, Nat.left_eq_add, false_and, and_false, Nat.reduceSub, Nat.sub_self, Nat.le_refl, Nat.zero_le, ge_iff_le, Nat.reduceAdd, Nat.reduceLeDiff, Nat.zero_add, Nat.reduceLT, z_lt, z_le, z_eq, z_l0, z_g0, z_le0, z_ge0, z_e0, z_e1, z_vp, z_nc, z_rem, z_div, i_ltT, i_ltF, i_leT, i_leF, i_eqT, i_eqF, n_ltT, n_ltF, n_leT, n_leF, n_eqT, n_eqF, tn_9, tn_12, tn_14, tn_20, tn_28, tn_44, tn_52, tn_68, tn_84, tn_100, tn_116, tn_132, fu_e, up_eq, ob_0, ob_b, oi_add, oi_sub, oi_mul, oi_neg, Int.add_zero, Int.zero_add, or_true, true_or, or_false, false_or, and_self, z_i2l, z_l2i, lo_nat, lo_add, lo_sub, lo_mul, lo_0, e_rem, mr_X10_turns]
    have := hq w P B hO (FO.refl _ _) (by show TS A B (N + ((0 : Nat) : Int)); rw [show N + ((0 : Nat) : Int) = N by omega]; exact hT) rfl rfl rfl (fun h => h)
    simpa [a_many] using this
  | succ n ih =>
    intro i P A B N w hi hT h8 hN hO hq
    have hF := hO.F
    refine rt_X10_turns_2 ?_
    simp (disch := omega) only [wp_c, wp_n, jj_n, v_ct, Int.reduceToNat, Int.toNat_natCast, stE, wlE, lgt, lpu, lpw, v_c2, va_s, true_and, and_true, Option.toList, List.nil_append, List.cons_append, List.take, List.drop, List.reverse, List.reverseAux, List.length_cons, List.length_nil, reduceCtorEq, false_implies, true_implies, forall_const, not_true_eq_false, not_false_eq_true, ite_true, ite_false, Bool.false_eq_true, I_I, J_J, Nat.add_left_cancel_iff, Nat.reduceEqDiff, Nat.add_eq_left, Nat.left_eq_add, false_and, and_false, Nat.reduceSub, Nat.sub_self, Nat.le_refl, Nat.zero_le, ge_iff_le, Nat.reduceAdd, Nat.reduceLeDiff, Nat.zero_add, Nat.reduceLT, z_lt, z_le, z_eq, z_l0, z_g0, z_le0, z_ge0, z_e0, z_e1, z_vp, z_nc, z_rem, z_div, i_ltT, i_ltF, i_leT, i_leF, i_eqT, i_eqF, n_ltT, n_ltF, n_leT, n_leF, n_eqT, n_eqF, tn_9, tn_12, tn_14, tn_20, tn_28, tn_44, tn_52, tn_68, tn_84, tn_100, tn_116, tn_132, fu_e, up_eq, ob_0, ob_b, oi_add, oi_sub, oi_mul, oi_neg, Int.add_zero, Int.zero_add, or_true, true_or, or_false, false_or, and_self, z_i2l, z_l2i, lo_nat, lo_add, lo_sub, lo_mul, lo_0, e_rem, mh_X10_turns]
    refine c_abs ⟨by omega, by omega⟩ ?_
    have ea : (if t < 0 then -t else t) = ((i + n + 1 : Nat) : Int) := by split <;> omega
    have h20 : RT n_X10_turns 20 [.ref o, .int (Int32.ofInt t), .int (Int32.ofInt dv), .int (Int32.ofInt i)] [.int (Int32.ofInt way), .ref o] w (60 - 5 * i, 696 - 58 * i, false) Q := by
      refine rt_X10_turns_20 ?_
      simp (disch := omega) only [wp_c, wp_n, jj_n, v_ct, Int.reduceToNat, Int.toNat_natCast, stE, wlE, lgt, lpu, lpw, v_c2, va_s, true_and, and_true, Option.toList, List.nil_append, List.cons_append, List.take, List.drop, List.reverse, List.reverseAux, List.length_cons, List.length_nil, reduceCtorEq, false_implies, true_implies, forall_const, not_true_eq_false, not_false_eq_true, ite_true, ite_false, Bool.false_eq_true, I_I, J_J, Nat.add_left_cancel_iff, Nat.reduceEqDiff, Nat.add_eq_left, Nat.left_eq_add, false_and, and_false, Nat.reduceSub, Nat.sub_self, Nat.le_refl, Nat.zero_le, ge_iff_le, Nat.reduceAdd, Nat.reduceLeDiff, Nat.zero_add, Nat.reduceLT, z_lt, z_le, z_eq, z_l0, z_g0, z_le0, z_ge0, z_e0, z_e1, z_vp, z_nc, z_rem, z_div, i_ltT, i_ltF, i_leT, i_leF, i_eqT, i_eqF, n_ltT, n_ltF, n_leT, n_leF, n_eqT, n_eqF, tn_9, tn_12, tn_14, tn_20, tn_28, tn_44, tn_52, tn_68, tn_84, tn_100, tn_116, tn_132, fu_e, up_eq, ob_0, ob_b, oi_add, oi_sub, oi_mul, oi_neg, Int.add_zero, Int.zero_add, or_true, true_or, or_false, false_or, and_self, z_i2l, z_l2i, lo_nat, lo_add, lo_sub, lo_mul, lo_0, e_rem, hF.1, mh_X10_turns]
      try refine ⟨by omega, by omega, ?_⟩
      refine z_turn2 hO hT h8 hw (by omega) ?_
      intro w1 P1 B1 m1 m2 m3 m4 m5 m6 m7 m8 m9
      rw [a_many] at hq
      have g1 : 60 - 5 * i - 5 = 60 - 5 * (i + 1) := by omega
      have g2 : 696 - 58 * i - 58 = 696 - 58 * (i + 1) := by omega
      cases ho : (a_one A way).2.1 with
      | none =>
        rw [ho] at hq
        simp only at hq
        simp (disch := omega) only [wp_c, wp_n, jj_n, v_ct, Int.reduceToNat, Int.toNat_natCast, stE, wlE, lgt, lpu, lpw, v_c2, va_s, true_and, and_true, Option.toList, List.nil_append, List.cons_append, List.take, List.drop, List.reverse, List.reverseAux, List.length_cons, List.length_nil, reduceCtorEq, false_implies, true_implies, forall_const, not_true_eq_false, not_false_eq_true, ite_true, ite_false, Bool.false_eq_true, I_I, J_J, Nat.add_left_cancel_iff, Nat.reduceEqDiff, Nat.add_eq_left, Nat.left_eq_add, false_and, and_false, Nat.reduceSub, Nat.sub_self, Nat.le_refl, Nat.zero_le, ge_iff_le, Nat.reduceAdd, Nat.reduceLeDiff, Nat.zero_add, Nat.reduceLT, z_lt, z_le, z_eq, z_l0, z_g0, z_le0, z_ge0, z_e0, z_e1, z_vp, z_nc, z_rem, z_div, i_ltT, i_ltF, i_leT, i_leF, i_eqT, i_eqF, n_ltT, n_ltF, n_leT, n_leF, n_eqT, n_eqF, tn_9, tn_12, tn_14, tn_20, tn_28, tn_44, tn_52, tn_68, tn_84, tn_100, tn_116, tn_132, fu_e, up_eq, ob_0, ob_b, oi_add, oi_sub, oi_mul, oi_neg, Int.add_zero, Int.zero_add, or_true, true_or, or_false, false_or, and_self, z_i2l, z_l2i, lo_nat, lo_add, lo_sub, lo_mul, lo_0, e_rem, g1, g2]
        have := ih (i + 1) P1 (a_fin (a_one A way)) B1 (N + 1) w1 (by omega) m3 (m6.trans h8) (by omega) m1 ?_
        · simpa using this
        · intro w2 P2 B2 k1 k2 k3 k4 k5 k6 k7
          have e : (((i + 1 : Nat) : Int) + ((a_many n (a_fin (a_one A way)) way).2 : Nat)) = ((i : Int) + (((a_many n (a_fin (a_one A way)) way).2 + 1 : Nat) : Int)) := by omega
          rw [e]
          exact hq w2 P2 B2 k1 (m2.trans k2) (by rw [show N + ((n + 1 : Nat) : Int) = N + 1 + n by omega]; exact k3) (k4.trans m5) (k5.trans m6) (k6.trans m7) (fun h => k7 (m9 h))
      | some y =>
        rw [ho] at hq
        simp only at hq
        simp (disch := omega) only [wp_c, wp_n, jj_n, v_ct, Int.reduceToNat, Int.toNat_natCast, stE, wlE, lgt, lpu, lpw, v_c2, va_s, true_and, and_true, Option.toList, List.nil_append, List.cons_append, List.take, List.drop, List.reverse, List.reverseAux, List.length_cons, List.length_nil, reduceCtorEq, false_implies, true_implies, forall_const, not_true_eq_false, not_false_eq_true, ite_true, ite_false, Bool.false_eq_true, I_I, J_J, Nat.add_left_cancel_iff, Nat.reduceEqDiff, Nat.add_eq_left, Nat.left_eq_add, false_and, and_false, Nat.reduceSub, Nat.sub_self, Nat.le_refl, Nat.zero_le, ge_iff_le, Nat.reduceAdd, Nat.reduceLeDiff, Nat.zero_add, Nat.reduceLT, z_lt, z_le, z_eq, z_l0, z_g0, z_le0, z_ge0, z_e0, z_e1, z_vp, z_nc, z_rem, z_div, i_ltT, i_ltF, i_leT, i_leF, i_eqT, i_eqF, n_ltT, n_ltF, n_leT, n_leF, n_eqT, n_eqF, tn_9, tn_12, tn_14, tn_20, tn_28, tn_44, tn_52, tn_68, tn_84, tn_100, tn_116, tn_132, fu_e, up_eq, ob_0, ob_b, oi_add, oi_sub, oi_mul, oi_neg, Int.add_zero, Int.zero_add, or_true, true_or, or_false, false_or, and_self, z_i2l, z_l2i, lo_nat, lo_add, lo_sub, lo_mul, lo_0, e_rem]
        refine rt_X10_turns_33 ?_
        simp (disch := omega) only [wp_c, wp_n, jj_n, v_ct, Int.reduceToNat, Int.toNat_natCast, stE, wlE, lgt, lpu, lpw, v_c2, va_s, true_and, and_true, Option.toList, List.nil_append, List.cons_append, List.take, List.drop, List.reverse, List.reverseAux, List.length_cons, List.length_nil, reduceCtorEq, false_implies, true_implies, forall_const, not_true_eq_false, not_false_eq_true, ite_true, ite_false, Bool.false_eq_true, I_I, J_J, Nat.add_left_cancel_iff, Nat.reduceEqDiff, Nat.add_eq_left, Nat.left_eq_add, false_and, and_false, Nat.reduceSub, Nat.sub_self, Nat.le_refl, Nat.zero_le, ge_iff_le, Nat.reduceAdd, Nat.reduceLeDiff, Nat.zero_add, Nat.reduceLT, z_lt, z_le, z_eq, z_l0, z_g0, z_le0, z_ge0, z_e0, z_e1, z_vp, z_nc, z_rem, z_div, i_ltT, i_ltF, i_leT, i_leF, i_eqT, i_eqF, n_ltT, n_ltF, n_leT, n_leF, n_eqT, n_eqF, tn_9, tn_12, tn_14, tn_20, tn_28, tn_44, tn_52, tn_68, tn_84, tn_100, tn_116, tn_132, fu_e, up_eq, ob_0, ob_b, oi_add, oi_sub, oi_mul, oi_neg, Int.add_zero, Int.zero_add, or_true, true_or, or_false, false_or, and_self, z_i2l, z_l2i, lo_nat, lo_add, lo_sub, lo_mul, lo_0, e_rem, mr_X10_turns]
        have := hq w1 P1 B1 m1 m2 ⟨m3.1, m3.2.1, m3.2.2.1, m3.2.2.2.1, by have := m3.2.2.2.2; omega⟩ m5 m6 m7 m9
        simpa using this
    simp (disch := omega) only [wp_c, wp_n, jj_n, v_ct, Int.reduceToNat, Int.toNat_natCast, stE, wlE, lgt, lpu, lpw, v_c2, va_s, true_and, and_true, Option.toList, List.nil_append, List.cons_append, List.take, List.drop, List.reverse, List.reverseAux, List.length_cons, List.length_nil, reduceCtorEq, false_implies, true_implies, forall_const, not_true_eq_false, not_false_eq_true, ite_true, ite_false, Bool.false_eq_true, I_I, J_J, Nat.add_left_cancel_iff, Nat.reduceEqDiff, Nat.add_eq_left, Nat.left_eq_add, false_and, and_false, Nat.reduceSub, Nat.sub_self, Nat.le_refl, Nat.zero_le, ge_iff_le, Nat.reduceAdd, Nat.reduceLeDiff, Nat.zero_add, Nat.reduceLT, z_lt, z_le, z_eq, z_l0, z_g0, z_le0, z_ge0, z_e0, z_e1, z_vp, z_nc, z_rem, z_div, i_ltT, i_ltF, i_leT, i_leF, i_eqT, i_eqF, n_ltT, n_ltF, n_leT, n_leF, n_eqT, n_eqF, tn_9, tn_12, tn_14, tn_20, tn_28, tn_44, tn_52, tn_68, tn_84, tn_100, tn_116, tn_132, fu_e, up_eq, ob_0, ob_b, oi_add, oi_sub, oi_mul, oi_neg, Int.add_zero, Int.zero_add, or_true, true_or, or_false, false_or, and_self, z_i2l, z_l2i, lo_nat, lo_add, lo_sub, lo_mul, lo_0, e_rem, ea]
    by_cases hs : t < 0
    · simp (disch := omega) only [wp_c, wp_n, jj_n, v_ct, Int.reduceToNat, Int.toNat_natCast, stE, wlE, lgt, lpu, lpw, v_c2, va_s, true_and, and_true, Option.toList, List.nil_append, List.cons_append, List.take, List.drop, List.reverse, List.reverseAux, List.length_cons, List.length_nil, reduceCtorEq, false_implies, true_implies, forall_const, not_true_eq_false, not_false_eq_true, ite_true, ite_false, Bool.false_eq_true, I_I, J_J, Nat.add_left_cancel_iff, Nat.reduceEqDiff, Nat.add_eq_left, Nat.left_eq_add, false_and, and_false, Nat.reduceSub, Nat.sub_self, Nat.le_refl, Nat.zero_le, ge_iff_le, Nat.reduceAdd, Nat.reduceLeDiff, Nat.zero_add, Nat.reduceLT, z_lt, z_le, z_eq, z_l0, z_g0, z_le0, z_ge0, z_e0, z_e1, z_vp, z_nc, z_rem, z_div, i_ltT, i_ltF, i_leT, i_leF, i_eqT, i_eqF, n_ltT, n_ltF, n_leT, n_leF, n_eqT, n_eqF, tn_9, tn_12, tn_14, tn_20, tn_28, tn_44, tn_52, tn_68, tn_84, tn_100, tn_116, tn_132, fu_e, up_eq, ob_0, ob_b, oi_add, oi_sub, oi_mul, oi_neg, Int.add_zero, Int.zero_add, or_true, true_or, or_false, false_or, and_self, z_i2l, z_l2i, lo_nat, lo_add, lo_sub, lo_mul, lo_0, e_rem]
      rw [hway, if_pos hs] at h20
      exact h20
    · simp (disch := omega) only [wp_c, wp_n, jj_n, v_ct, Int.reduceToNat, Int.toNat_natCast, stE, wlE, lgt, lpu, lpw, v_c2, va_s, true_and, and_true, Option.toList, List.nil_append, List.cons_append, List.take, List.drop, List.reverse, List.reverseAux, List.length_cons, List.length_nil, reduceCtorEq, false_implies, true_implies, forall_const, not_true_eq_false, not_false_eq_true, ite_true, ite_false, Bool.false_eq_true, I_I, J_J, Nat.add_left_cancel_iff, Nat.reduceEqDiff, Nat.add_eq_left, Nat.left_eq_add, false_and, and_false, Nat.reduceSub, Nat.sub_self, Nat.le_refl, Nat.zero_le, ge_iff_le, Nat.reduceAdd, Nat.reduceLeDiff, Nat.zero_add, Nat.reduceLT, z_lt, z_le, z_eq, z_l0, z_g0, z_le0, z_ge0, z_e0, z_e1, z_vp, z_nc, z_rem, z_div, i_ltT, i_ltF, i_leT, i_leF, i_eqT, i_eqF, n_ltT, n_ltF, n_leT, n_leF, n_eqT, n_eqF, tn_9, tn_12, tn_14, tn_20, tn_28, tn_44, tn_52, tn_68, tn_84, tn_100, tn_116, tn_132, fu_e, up_eq, ob_0, ob_b, oi_add, oi_sub, oi_mul, oi_neg, Int.add_zero, Int.zero_add, or_true, true_or, or_false, false_or, and_self, z_i2l, z_l2i, lo_nat, lo_add, lo_sub, lo_mul, lo_0, e_rem]
      refine rt_X10_turns_19 ?_
      simp (disch := omega) only [wp_c, wp_n, jj_n, v_ct, Int.reduceToNat, Int.toNat_natCast, stE, wlE, lgt, lpu, lpw, v_c2, va_s, true_and, and_true, Option.toList, List.nil_append, List.cons_append, List.take, List.drop, List.reverse, List.reverseAux, List.length_cons, List.length_nil, reduceCtorEq, false_implies, true_implies, forall_const, not_true_eq_false, not_false_eq_true, ite_true, ite_false, Bool.false_eq_true, I_I, J_J, Nat.add_left_cancel_iff, Nat.reduceEqDiff, Nat.add_eq_left, Nat.left_eq_add, false_and, and_false, Nat.reduceSub, Nat.sub_self, Nat.le_refl, Nat.zero_le, ge_iff_le, Nat.reduceAdd, Nat.reduceLeDiff, Nat.zero_add, Nat.reduceLT, z_lt, z_le, z_eq, z_l0, z_g0, z_le0, z_ge0, z_e0, z_e1, z_vp, z_nc, z_rem, z_div, i_ltT, i_ltF, i_leT, i_leF, i_eqT, i_eqF, n_ltT, n_ltF, n_leT, n_leF, n_eqT, n_eqF, tn_9, tn_12, tn_14, tn_20, tn_28, tn_44, tn_52, tn_68, tn_84, tn_100, tn_116, tn_132, fu_e, up_eq, ob_0, ob_b, oi_add, oi_sub, oi_mul, oi_neg, Int.add_zero, Int.zero_add, or_true, true_or, or_false, false_or, and_self, z_i2l, z_l2i, lo_nat, lo_add, lo_sub, lo_mul, lo_0, e_rem]
      rw [hway, if_neg hs] at h20
      exact h20
theorem z_turns {b o : Nat} {P : Nat → Nat} {A B : Row} {t dv N : Int} {w : mW} {Q : mW → mO → Prop} (hO : OW w b o P B) (hT : TS A B N) (h8 : A 8 = dv) (ht : -12 ≤ t ∧ t ≤ 12) (hN : N ≤ 900000000)
  (hq : ∀ w' P' B', OW w' b o P' B' → FO b w w' → TS (a_many t.natAbs A (if t < 0 then -1 else 1)).1 B' (N + 12) → B' 1000 = B 1000 → (a_many t.natAbs A (if t < 0 then -1 else 1)).1 8 = A 8 → (a_many t.natAbs A (if t < 0 then -1 else 1)).1 4 = A 4 → (LX A B → LX (a_many t.natAbs A (if t < 0 then -1 else 1)).1 B') → Q w' (.inl (some (.int (Int32.ofInt ((a_many t.natAbs A (if t < 0 then -1 else 1)).2 : Nat)))))) :
  CT n_X10_turns [.ref o, .int (Int32.ofInt t), .int (Int32.ofInt dv)] w Q := by
  refine ct_X10_turns (rt_X10_turns_0 ?_)
  simp only [wp_c, wp_n, jj_n, v_ct, Int.reduceToNat, Int.toNat_natCast, stE, wlE, lgt, lpu, lpw, v_c2, va_s, true_and, and_true, Option.toList, List.nil_append, List.cons_append, List.take, List.drop, List.reverse, List.reverseAux, List.length_cons, List.length_nil, reduceCtorEq, false_implies, true_implies, forall_const, not_true_eq_false, not_false_eq_true, ite_true, ite_false, Bool.false_eq_true, I_I, J_J, Nat.add_left_cancel_iff, Nat.reduceEqDiff, Nat.add_eq_left, Nat.left_eq_add, false_and, and_false, Nat.reduceSub, Nat.sub_self, Nat.le_refl, Nat.zero_le, ge_iff_le, Nat.reduceAdd, Nat.reduceLeDiff, Nat.zero_add, Nat.reduceLT]
  have := z_turns_2 (b := b) (o := o) (dv := dv) (Q := Q) ht rfl rfl t.natAbs 0 P A B N w (by omega) hT h8 (by omega) hO ?_
  · exact this
  · intro w' P' B' k1 k2 k3 k4 k5 k6 k7
    have := hq w' P' B' k1 k2 ⟨k3.1, k3.2.1, k3.2.2.1, k3.2.2.2.1, by have := k3.2.2.2.2; omega⟩ k4 k5 k6 k7
    simpa using this
