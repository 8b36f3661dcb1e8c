/-! a wheel's step, in both rows -/
theorem mv_at (A : Row) (j : Nat) (m : Int) (k : Nat) : a_mv A j m k = if k = 100 + j then A (100 + j) + m else if k = 84 + j then A (84 + j) + m else if k = 28 + j then (A (28 + j) + A 7 * m + 10) % 10 else if k = 52 + j ∧ (A (28 + j) + A 7 * m < 0 ∨ 9 < A (28 + j) + A 7 * m) then 1 else A k := by
  by_cases hc : A (28 + j) + A 7 * m < 0 ∨ 9 < A (28 + j) + A 7 * m
  · simp only [a_mv, hc, ite_true, up_eq, and_true]
    repeat' split
    all_goals first | rfl | omega
  · simp only [a_mv, hc, ite_false, up_eq, and_false]
    repeat' split
    all_goals first | rfl | omega
theorem omv_at (B : Row) (j k : Nat) : o_mv B j k = if k = 100 + j then B (100 + j) + 1 else if k = 84 + j then 1 else if k = 28 + j then (B (28 + j) + B 7 + 10) % 10 else if k = 52 + j ∧ (B (28 + j) + B 7 = 10 ∨ B (28 + j) + B 7 < 0) then 1 else B k := by
  by_cases hc : B (28 + j) + B 7 = 10 ∨ B (28 + j) + B 7 < 0
  · simp only [o_mv, hc, ite_true, up_eq, and_true]
    repeat' split
    all_goals first | rfl | omega
  · simp only [o_mv, hc, ite_false, up_eq, and_false]
    repeat' split
    all_goals first | rfl | omega
def RK (j : Nat) : Prop := j < 5 ∨ (12 ≤ j ∧ j < 18) ∨ (20 ≤ j ∧ j < 44) ∨ (52 ≤ j ∧ j < 84) ∨ (100 ≤ j ∧ j < 116)
/-- the rows of both machines are alike -/
def mvd (x : Int) : Int := if 0 < x then 1 else 0
theorem mvd_p {x : Int} (h : 0 < x) : mvd x = 1 := if_pos h
theorem mvd_0 : mvd 0 = 0 := rfl
def RAB (A B : Row) : Prop := (∀ j, RK j → B j = A j) ∧ ∀ i, i < 16 → B (84 + i) = mvd (A (84 + i))
def M0 (A : Row) : Prop := ∀ i, i < 16 → 0 ≤ A (84 + i)
/-- what a turn leaves alone in the second row -/
def KW (B B' : Row) : Prop := ∀ j, (j < 5 ∨ j = 7 ∨ j = 8 ∨ (18 ≤ j ∧ j < 28) ∨ (68 ≤ j ∧ j < 84) ∨ (116 ≤ j ∧ j < 1001) ∨ 1011 ≤ j) → B' j = B j
theorem KW.refl (B : Row) : KW B B := fun _ _ => rfl
theorem KW.trans {B C D : Row} (h : KW B C) (h' : KW C D) : KW B D := fun j hj => (h' j hj).trans (h j hj)
theorem RAB.k {A B : Row} (h : RAB A B) (j : Nat) (hj : RK j) : B j = A j := h.1 j hj
theorem RAB.sz {A B : Row} (h : RAB A B) : B 0 = A 0 ∧ B 1 = A 1 ∧ B 2 = A 2 ∧ B 3 = A 3 ∧ B 4 = A 4 := ⟨h.1 _ (Or.inl (by omega)), h.1 _ (Or.inl (by omega)), h.1 _ (Or.inl (by omega)), h.1 _ (Or.inl (by omega)), h.1 _ (Or.inl (by omega))⟩
theorem RAB.cts {A B : Row} (h : RAB A B) {j : Nat} (hj : j < 6) : B (12 + j) = A (12 + j) := h.1 _ (by unfold RK; omega)
theorem RAB.pin {A B : Row} (h : RAB A B) {j : Nat} (hj : j < 8) : B (20 + j) = A (20 + j) := h.1 _ (by unfold RK; omega)
theorem RAB.dig {A B : Row} (h : RAB A B) {j : Nat} (hj : j < 16) : B (28 + j) = A (28 + j) := h.1 _ (by unfold RK; omega)
theorem RAB.lev {A B : Row} (h : RAB A B) {j : Nat} (hj : j < 16) : B (52 + j) = A (52 + j) := h.1 _ (by unfold RK; omega)
theorem RAB.flt {A B : Row} (h : RAB A B) {j : Nat} (hj : j < 16) : B (68 + j) = A (68 + j) := h.1 _ (by unfold RK; omega)
theorem RAB.stp {A B : Row} (h : RAB A B) {j : Nat} (hj : j < 16) : B (100 + j) = A (100 + j) := h.1 _ (by unfold RK; omega)
theorem RAB.os {A B : Row} (h : RAB A B) (hI : TI A) : OS B := by
  obtain ⟨e0, e1, e2, e3, e4⟩ := h.sz
  refine ⟨by rw [e0, e1, e2, e3, e4]; exact hI.1, fun j hj => ?_, fun j hj => ?_, fun j hj => ?_⟩
  · rw [h.pin hj]; exact hI.2.2.1 j hj
  · rw [h.dig hj]; exact hI.2.2.2.1 j hj
  · rw [h.flt hj]; exact hI.2.2.2.2.2.2 j hj
theorem mv_0 {A : Row} {j : Nat} (hd : 0 ≤ A (28 + j) ∧ A (28 + j) ≤ 9) : a_mv A j 0 = A := by
  funext k
  rw [mv_at, Int.mul_zero]
  repeat' split
  all_goals first | rfl | omega | (rename_i h; subst h; omega) | (rename_i h _; subst h; omega)
theorem rl_mv {A B : Row} {j : Nat} {m : Int} (h : RAB (a_mv A j m) B) (h7B : B 7 = A 7) (h7 : A 7 = 1 ∨ A 7 = -1) (hj : j < 16) (hm : 0 ≤ m ∧ m ≤ 8) (hd : 0 ≤ A (28 + j) ∧ A (28 + j) ≤ 9) (h84 : 0 ≤ A (84 + j)) : RAB (a_mv A j (m + 1)) (o_mv B j) := by
  have b28 := h.dig hj
  have b100 := h.stp hj
  have b52 := h.lev hj
  rw [mv_at, if_neg (by omega), if_neg (by omega), if_pos rfl] at b28
  rw [mv_at, if_pos rfl] at b100
  rw [mv_at, if_neg (by omega), if_neg (by omega), if_neg (by omega)] at b52
  refine ⟨fun k hk => ?_, fun i hi => ?_⟩
  · have hb := h.1 k hk
    rw [mv_at] at hb
    rw [omv_at, mv_at, h7B]
    have nk : ¬ k = 84 + j := by unfold RK at hk; omega
    rw [if_neg nk] at hb
    rw [if_neg nk, if_neg nk]
    by_cases k1 : k = 100 + j
    · rw [if_pos k1, if_pos k1, b100]; omega
    · rw [if_neg k1] at hb
      rw [if_neg k1, if_neg k1]
      by_cases k2 : k = 28 + j
      · rw [if_pos k2, if_pos k2, b28]
        rcases h7 with e | e <;> rw [e] <;> omega
      · rw [if_neg k2] at hb
        rw [if_neg k2, if_neg k2]
        by_cases k3 : k = 52 + j
        · simp only [k3, true_and] at hb ⊢
          rw [b28, hb]
          rcases h7 with e | e <;> rw [e] <;> repeat' split
          all_goals first | rfl | omega
        · simp only [k3, false_and, ite_false] at hb ⊢
          exact hb
  · have hb := h.2 i hi
    by_cases k2 : i = j
    · subst k2
      rw [omv_at, if_neg (by omega), if_pos rfl, mv_at, if_neg (by omega), if_pos rfl, mvd_p (by omega)]
    · have e : ∀ z, a_mv A j z (84 + i) = A (84 + i) := fun z => by rw [mv_at, if_neg (by omega), if_neg (by omega), if_neg (by omega), if_neg (by omega)]
      rw [e] at hb
      rw [e, omv_at, if_neg (by omega), if_neg (by omega), if_neg (by omega), if_neg (by omega)]
      exact hb
theorem omv_KW {B : Row} {j : Nat} (hj : j < 16) : KW B (o_mv B j) := by
  intro k hk
  rw [omv_at, if_neg (by omega), if_neg (by omega), if_neg (by omega), if_neg (by omega)]
theorem omv_o {B : Row} {j k : Nat} (hj : j < 16) (hk : k < 12 ∨ (12 ≤ k ∧ k < 28) ∨ 116 ≤ k) : o_mv B j k = B k := by
  rw [omv_at, if_neg (by omega), if_neg (by omega), if_neg (by omega), if_neg (by omega)]
theorem M0.mv {A : Row} {j : Nat} {m : Int} (h : M0 A) (hj : j < 16) (hm : 0 ≤ m) : M0 (a_mv A j m) := by
  intro i hi
  have := h i hi
  have := h j hj
  rw [mv_at, if_neg (by omega)]
  repeat' split
  all_goals first | omega | (rename_i q; have := q.1; omega)
/-- the steps of one pin -/
theorem z_mvs {b o p : Nat} {P : Nat → Nat} {A : Row} {x2 : Int32} {v5 : Value} {Q : mW → mO → Prop} (hI : TI A) (hM : M0 A) (hp : (p : Int) < A 0) {B0 : Row} {w0 : mW}
  (hq : ∀ w' B' v4, RAB (a_mv A ((A 4).toNat + p) (A (20 + p))) B' → KW B0 B' → (∀ k, (k < 12 ∨ 1000 ≤ k) → B' k = B0 k) → OW w' b o P B' → FO b w0 w' → RT n_X10_goOn 81 [.ref o, .int (Int32.ofInt 1), .int x2, .int (Int32.ofInt p), v4, v5] [] w' (1, 4, false) Q) :
  ∀ (n i : Nat) (B : Row) (w : mW), (i : Int) + n = A (20 + p) → RAB (a_mv A ((A 4).toNat + p) i) B → B 7 = A 7 → KW B0 B → (∀ k, (k < 12 ∨ 1000 ≤ k) → B k = B0 k) → OW w b o P B → FO b w0 w → RT n_X10_goOn 54 [.ref o, .int (Int32.ofInt 1), .int x2, .int (Int32.ofInt p), .int (Int32.ofInt i), v5] [] w (1, 4, false) Q := by
  have h0 := hI.1
  have hpin := hI.2.2.1 p (by omega)
  intro n
  induction n with
  | zero =>
    intro i B w hi hR h7 hK hK2 hO hF
    have hV := hO.V
    have hFF := hO.F
    have e20 : B (20 + p) = A (20 + p) := by rw [hR.pin (by omega)]; exact mv_k _ _ _ _ (by omega) (by unfold kp; omega)
    refine rt_X10_goOn_54 ?_
    simp (disch := omega) only [wp_c, wp_n, jj_n, v_ct, Int.reduceToNat, Int.toNat_natCast, stE, wlE, lgt, lpu, lpw, v_c2, va_s, true_and, and_true, Option.toList, List.nil_append, List.cons_append, List.take, List.drop, List.reverse, List.reverseAux, List.length_cons, List.length_nil, reduceCtorEq, false_implies, true_implies, forall_const, not_true_eq_false, not_false_eq_true, ite_true, ite_false, Bool.false_eq_true, I_I, J_J, Nat.add_left_cancel_iff, Nat.reduceEqDiff, Nat.add_eq_left, Nat.left_eq_add, false_and, and_false, Nat.reduceSub, Nat.sub_self, Nat.le_refl, Nat.zero_le, ge_iff_le, Nat.reduceAdd, Nat.reduceLeDiff, Nat.zero_add, Nat.reduceLT, z_lt, z_le, z_eq, z_l0, z_g0, z_le0, z_ge0, z_e0, z_e1, z_vp, z_nc, z_rem, z_div, i_ltT, i_ltF, i_leT, i_leF, i_eqT, i_eqF, n_ltT, n_ltF, n_leT, n_leF, n_eqT, n_eqF, tn_9, tn_12, tn_14, tn_20, tn_28, tn_44, tn_52, tn_68, tn_84, tn_100, tn_116, tn_132, fu_e, up_eq, ob_0, ob_b, oi_add, oi_sub, oi_mul, oi_neg, Int.add_zero, Int.zero_add, or_true, true_or, or_false, false_or, and_self, z_i2l, z_l2i, lo_nat, lo_add, lo_sub, lo_mul, lo_0, e_rem, hV, hFF, e20]
    refine hq w B _ ?_ hK hK2 hO hF
    rw [← hi]; simpa using hR
  | succ n ih =>
    intro i B w hi hR h7 hK hK2 hO hF
    have hV := hO.V
    have hFF := hO.F
    have e20 : B (20 + p) = A (20 + p) := by rw [hR.pin (by omega)]; exact mv_k _ _ _ _ (by omega) (by unfold kp; omega)
    have e4 : B 4 = A 4 := by rw [hR.sz.2.2.2.2]; exact mv_k _ _ _ _ (by omega) (by unfold kp; omega)
    have hw : B 4 + (p : Int) = (((A 4).toNat + p : Nat) : Int) := by omega
    have hd := hI.2.2.2.1 ((A 4).toNat + p) (by omega)
    have hbd : 0 ≤ B (28 + ((A 4).toNat + p)) ∧ B (28 + ((A 4).toNat + p)) ≤ 9 := by
      rw [hR.dig (by omega), mv_at, if_neg (by omega), if_neg (by omega), if_pos rfl]; omega
    refine rt_X10_goOn_54 ?_
    simp (disch := omega) only [wp_c, wp_n, jj_n, v_ct, Int.reduceToNat, Int.toNat_natCast, stE, wlE, lgt, lpu, lpw, v_c2, va_s, true_and, and_true, Option.toList, List.nil_append, List.cons_append, List.take, List.drop, List.reverse, List.reverseAux, List.length_cons, List.length_nil, reduceCtorEq, false_implies, true_implies, forall_const, not_true_eq_false, not_false_eq_true, ite_true, ite_false, Bool.false_eq_true, I_I, J_J, Nat.add_left_cancel_iff, Nat.reduceEqDiff, Nat.add_eq_left, Nat.left_eq_add, false_and, and_false, Nat.reduceSub, Nat.sub_self, Nat.le_refl, Nat.zero_le, ge_iff_le, Nat.reduceAdd, Nat.reduceLeDiff, Nat.zero_add, Nat.reduceLT, z_lt, z_le, z_eq, z_l0, z_g0, z_le0, z_ge0, z_e0, z_e1, z_vp, z_nc, z_rem, z_div, i_ltT, i_ltF, i_leT, i_leF, i_eqT, i_eqF, n_ltT, n_ltF, n_leT, n_leF, n_eqT, n_eqF, tn_9, tn_12, tn_14, tn_20, tn_28, tn_44, tn_52, tn_68, tn_84, tn_100, tn_116, tn_132, fu_e, up_eq, ob_0, ob_b, oi_add, oi_sub, oi_mul, oi_neg, Int.add_zero, Int.zero_add, or_true, true_or, or_false, false_or, and_self, z_i2l, z_l2i, lo_nat, lo_add, lo_sub, lo_mul, lo_0, e_rem, hV, hFF, e20, hw, mh_X10_goOn]
    refine z_move hO (by omega) (by rw [h7]; exact hI.2.1) hbd fun w1 k1 k2 => ?_
    simp (disch := omega) only [wp_c, wp_n, jj_n, v_ct, Int.reduceToNat, Int.toNat_natCast, stE, wlE, lgt, lpu, lpw, v_c2, va_s, true_and, and_true, Option.toList, List.nil_append, List.cons_append, List.take, List.drop, List.reverse, List.reverseAux, List.length_cons, List.length_nil, reduceCtorEq, false_implies, true_implies, forall_const, not_true_eq_false, not_false_eq_true, ite_true, ite_false, Bool.false_eq_true, I_I, J_J, Nat.add_left_cancel_iff, Nat.reduceEqDiff, Nat.add_eq_left, Nat.left_eq_add, false_and, and_false, Nat.reduceSub, Nat.sub_self, Nat.le_refl, Nat.zero_le, ge_iff_le, Nat.reduceAdd, Nat.reduceLeDiff, Nat.zero_add, Nat.reduceLT, z_lt, z_le, z_eq, z_l0, z_g0, z_le0, z_ge0, z_e0, z_e1, z_vp, z_nc, z_rem, z_div, i_ltT, i_ltF, i_leT, i_leF, i_eqT, i_eqF, n_ltT, n_ltF, n_leT, n_leF, n_eqT, n_eqF, tn_9, tn_12, tn_14, tn_20, tn_28, tn_44, tn_52, tn_68, tn_84, tn_100, tn_116, tn_132, fu_e, up_eq, ob_0, ob_b, oi_add, oi_sub, oi_mul, oi_neg, Int.add_zero, Int.zero_add, or_true, true_or, or_false, false_or, and_self, z_i2l, z_l2i, lo_nat, lo_add, lo_sub, lo_mul, lo_0, e_rem]
    have hR' : RAB (a_mv A ((A 4).toNat + p) ((i + 1 : Nat) : Int)) (o_mv B ((A 4).toNat + p)) := by
      have := rl_mv hR h7 hI.2.1 (by omega) (by omega) hd (hM _ (by omega))
      rw [show ((i + 1 : Nat) : Int) = (i : Int) + 1 by omega]
      exact this
    have := ih (i + 1) (o_mv B ((A 4).toNat + p)) w1 (by omega) hR' (by rw [omv_o (by omega) (by omega)]; exact h7) (hK.trans (omv_KW (by omega))) (fun k hk => by rw [omv_o (by omega) (by omega)]; exact hK2 k hk) k1 (hF.trans k2)
    exact this
/-- the pins -/
theorem z_gp {b o : Nat} {P : Nat → Nat} {x2 : Int32} {Q : mW → mO → Prop} : ∀ (n : Nat) (A B : Row) (p : Nat) (w : mW) (v4 v5 : Value), (p : Int) + n = A 0 → TI A → M0 A → RAB A B → B 7 = A 7 → OW w b o P B →
  (∀ w' B', RAB (a_pins n A p).1 B' → KW B B' → M0 (a_pins n A p).1 → B' 1009 = B 1009 → B' 1010 = B 1010 → OW w' b o P B' → FO b w w' → (match (a_pins n A p).2 with
    | none => B' 5 = B 5 → B' 6 = B 6 → ∀ v3 v4 v5, RT n_X10_goOn 87 [.ref o, .int (Int32.ofInt 1), .int x2, v3, v4, v5] [] w' (1, 4, false) Q
    | some k => B' 5 = 1 → B' 6 = k → Q w' (.inl (some (.int (Int32.ofInt 0)))))) →
  RT n_X10_goOn 12 [.ref o, .int (Int32.ofInt 1), .int x2, .int (Int32.ofInt p), v4, v5] [] w (1, 4, false) Q := by
  intro n
  induction n with
  | zero =>
    intro A B p w v4 v5 hn hI hM hR h7 hO hq
    have h0 := hI.1
    have hs := hR.sz
    have hV := hO.V
    have hFF := hO.F
    refine rt_X10_goOn_12 ?_
    simp (disch := omega) only [wp_c, wp_n, jj_n, v_ct, Int.reduceToNat, Int.toNat_natCast, stE, wlE, lgt, lpu, lpw, v_c2, va_s, true_and, and_true, Option.toList, List.nil_append, List.cons_append, List.take, List.drop, List.reverse, List.reverseAux, List.length_cons, List.length_nil, reduceCtorEq, false_implies, true_implies, forall_const, not_true_eq_false, not_false_eq_true, ite_true, ite_false, Bool.false_eq_true, I_I, J_J, Nat.add_left_cancel_iff, Nat.reduceEqDiff, Nat.add_eq_left, Nat.left_eq_add, false_and, and_false, Nat.reduceSub, Nat.sub_self, Nat.le_refl, Nat.zero_le, ge_iff_le, Nat.reduceAdd, Nat.reduceLeDiff, Nat.zero_add, Nat.reduceLT, z_lt, z_le, z_eq, z_l0, z_g0, z_le0, z_ge0, z_e0, z_e1, z_vp, z_nc, z_rem, z_div, i_ltT, i_ltF, i_leT, i_leF, i_eqT, i_eqF, n_ltT, n_ltF, n_leT, n_leF, n_eqT, n_eqF, tn_9, tn_12, tn_14, tn_20, tn_28, tn_44, tn_52, tn_68, tn_84, tn_100, tn_116, tn_132, fu_e, up_eq, ob_0, ob_b, oi_add, oi_sub, oi_mul, oi_neg, Int.add_zero, Int.zero_add, or_true, true_or, or_false, false_or, and_self, z_i2l, z_l2i, lo_nat, lo_add, lo_sub, lo_mul, lo_0, e_rem, hV, hFF]
    have := hq w B hR (KW.refl B) hM rfl rfl hO (FO.refl _ _)
    exact this rfl rfl _ _ _
  | succ n ih =>
    intro A B p w v4 v5 hn hI hM hR h7 hO hq
    have h0 := hI.1
    have hs := hR.sz
    have hV := hO.V
    have hFF := hO.F
    have e20 := hR.pin (j := p) (by omega)
    have hpin := hI.2.2.1 p (by omega)
    have hw : B 4 + (p : Int) = (((A 4).toNat + p : Nat) : Int) := by omega
    have e68 := hR.flt (j := (A 4).toNat + p) (by omega)
    have h68 := hI.2.2.2.2.2.2 ((A 4).toNat + p) (by omega)
    have hd := hI.2.2.2.1 ((A 4).toNat + p) (by omega)
    refine rt_X10_goOn_12 ?_
    simp (disch := omega) only [wp_c, wp_n, jj_n, v_ct, Int.reduceToNat, Int.toNat_natCast, stE, wlE, lgt, lpu, lpw, v_c2, va_s, true_and, and_true, Option.toList, List.nil_append, List.cons_append, List.take, List.drop, List.reverse, List.reverseAux, List.length_cons, List.length_nil, reduceCtorEq, false_implies, true_implies, forall_const, not_true_eq_false, not_false_eq_true, ite_true, ite_false, Bool.false_eq_true, I_I, J_J, Nat.add_left_cancel_iff, Nat.reduceEqDiff, Nat.add_eq_left, Nat.left_eq_add, false_and, and_false, Nat.reduceSub, Nat.sub_self, Nat.le_refl, Nat.zero_le, ge_iff_le, Nat.reduceAdd, Nat.reduceLeDiff, Nat.zero_add, Nat.reduceLT, z_lt, z_le, z_eq, z_l0, z_g0, z_le0, z_ge0, z_e0, z_e1, z_vp, z_nc, z_rem, z_div, i_ltT, i_ltF, i_leT, i_leF, i_eqT, i_eqF, n_ltT, n_ltF, n_leT, n_leF, n_eqT, n_eqF, tn_9, tn_12, tn_14, tn_20, tn_28, tn_44, tn_52, tn_68, tn_84, tn_100, tn_116, tn_132, fu_e, up_eq, ob_0, ob_b, oi_add, oi_sub, oi_mul, oi_neg, Int.add_zero, Int.zero_add, or_true, true_or, or_false, false_or, and_self, z_i2l, z_l2i, lo_nat, lo_add, lo_sub, lo_mul, lo_0, e_rem, hV, hFF, hw, e20, e68, mh_X10_goOn]
    rw [a_pins] at hq
    have hloop : ¬ (¬ A (20 + p) = 0 ∧ 2 ≤ A (68 + ((A 4).toNat + p))) → RT n_X10_goOn 51 [.ref o, .int (Int32.ofInt 1), .int x2, .int (Int32.ofInt p), v4, v5] [] w (1, 4, false) Q := by
      intro hno
      refine rt_X10_goOn_51 ?_
      simp (disch := omega) only [wp_c, wp_n, jj_n, v_ct, Int.reduceToNat, Int.toNat_natCast, stE, wlE, lgt, lpu, lpw, v_c2, va_s, true_and, and_true, Option.toList, List.nil_append, List.cons_append, List.take, List.drop, List.reverse, List.reverseAux, List.length_cons, List.length_nil, reduceCtorEq, false_implies, true_implies, forall_const, not_true_eq_false, not_false_eq_true, ite_true, ite_false, Bool.false_eq_true, I_I, J_J, Nat.add_left_cancel_iff, Nat.reduceEqDiff, Nat.add_eq_left, Nat.left_eq_add, false_and, and_false, Nat.reduceSub, Nat.sub_self, Nat.le_refl, Nat.zero_le, ge_iff_le, Nat.reduceAdd, Nat.reduceLeDiff, Nat.zero_add, Nat.reduceLT, z_lt, z_le, z_eq, z_l0, z_g0, z_le0, z_ge0, z_e0, z_e1, z_vp, z_nc, z_rem, z_div, i_ltT, i_ltF, i_leT, i_leF, i_eqT, i_eqF, n_ltT, n_ltF, n_leT, n_leF, n_eqT, n_eqF, tn_9, tn_12, tn_14, tn_20, tn_28, tn_44, tn_52, tn_68, tn_84, tn_100, tn_116, tn_132, fu_e, up_eq, ob_0, ob_b, oi_add, oi_sub, oi_mul, oi_neg, Int.add_zero, Int.zero_add, or_true, true_or, or_false, false_or, and_self, z_i2l, z_l2i, lo_nat, lo_add, lo_sub, lo_mul, lo_0, e_rem]
      refine z_mvs (B0 := B) (w0 := w) hI hM (by omega) ?_ (A (20 + p)).toNat 0 B w (by omega) (by rw [show ((0 : Nat) : Int) = 0 from rfl, mv_0 hd]; exact hR) h7 (KW.refl B) (fun _ _ => rfl) hO (FO.refl _ _)
      intro w1 B1 v4' r1 r2 r3 r4 r5
      refine rt_X10_goOn_81 ?_
      simp (disch := omega) only [wp_c, wp_n, jj_n, v_ct, Int.reduceToNat, Int.toNat_natCast, stE, wlE, lgt, lpu, lpw, v_c2, va_s, true_and, and_true, Option.toList, List.nil_append, List.cons_append, List.take, List.drop, List.reverse, List.reverseAux, List.length_cons, List.length_nil, reduceCtorEq, false_implies, true_implies, forall_const, not_true_eq_false, not_false_eq_true, ite_true, ite_false, Bool.false_eq_true, I_I, J_J, Nat.add_left_cancel_iff, Nat.reduceEqDiff, Nat.add_eq_left, Nat.left_eq_add, false_and, and_false, Nat.reduceSub, Nat.sub_self, Nat.le_refl, Nat.zero_le, ge_iff_le, Nat.reduceAdd, Nat.reduceLeDiff, Nat.zero_add, Nat.reduceLT, z_lt, z_le, z_eq, z_l0, z_g0, z_le0, z_ge0, z_e0, z_e1, z_vp, z_nc, z_rem, z_div, i_ltT, i_ltF, i_leT, i_leF, i_eqT, i_eqF, n_ltT, n_ltF, n_leT, n_leF, n_eqT, n_eqF, tn_9, tn_12, tn_14, tn_20, tn_28, tn_44, tn_52, tn_68, tn_84, tn_100, tn_116, tn_132, fu_e, up_eq, ob_0, ob_b, oi_add, oi_sub, oi_mul, oi_neg, Int.add_zero, Int.zero_add, or_true, true_or, or_false, false_or, and_self, z_i2l, z_l2i, lo_nat, lo_add, lo_sub, lo_mul, lo_0, e_rem]
      have e0 : a_mv A ((A 4).toNat + p) (A (20 + p)) 0 = A 0 := mv_k _ _ _ _ (by omega) (by unfold kp; omega)
      have e7 : a_mv A ((A 4).toNat + p) (A (20 + p)) 7 = A 7 := mv_k _ _ _ _ (by omega) (by unfold kp; omega)
      have := ih (a_mv A ((A 4).toNat + p) (A (20 + p))) B1 (p + 1) w1 v4' v5 (by omega) (hI.mv (by omega) hpin) (hM.mv (by omega) hpin.1) r1 (by rw [e7, r3 7 (by omega)]; exact h7) r4
      have := this ?_
      · exact this
      · intro w2 B2 q1 q2 q3 q4 q5 q6 q7
        have q8 := hq w2 B2
        by_cases hz : A (20 + p) = 0
        · rw [if_pos hz] at q8
          rw [hz, mv_0 hd] at q1 q3 ⊢
          have := q8 q1 (r2.trans q2) q3 (q4.trans (r3 _ (by omega))) (q5.trans (r3 _ (by omega))) q6 (r5.trans q7)
          cases ho : (a_pins n A (p + 1)).2 with
          | none =>
            rw [ho] at this
            intro z5 z6
            exact this (z5.trans (r3 _ (by omega))) (z6.trans (r3 _ (by omega)))
          | some k => rw [ho] at this; exact this
        · rw [if_neg hz, if_neg (fun q => hno ⟨hz, q⟩)] at q8
          have := q8 q1 (r2.trans q2) q3 (q4.trans (r3 _ (by omega))) (q5.trans (r3 _ (by omega))) q6 (r5.trans q7)
          cases ho : (a_pins n (a_mv A ((A 4).toNat + p) (A (20 + p))) (p + 1)).2 with
          | none =>
            rw [ho] at this
            intro z5 z6
            exact this (z5.trans (r3 _ (by omega))) (z6.trans (r3 _ (by omega)))
          | some k => rw [ho] at this; exact this
    by_cases hz : A (20 + p) = 0
    · simp (disch := omega) only [wp_c, wp_n, jj_n, v_ct, Int.reduceToNat, Int.toNat_natCast, stE, wlE, lgt, lpu, lpw, v_c2, va_s, true_and, and_true, Option.toList, List.nil_append, List.cons_append, List.take, List.drop, List.reverse, List.reverseAux, List.length_cons, List.length_nil, reduceCtorEq, false_implies, true_implies, forall_const, not_true_eq_false, not_false_eq_true, ite_true, ite_false, Bool.false_eq_true, I_I, J_J, Nat.add_left_cancel_iff, Nat.reduceEqDiff, Nat.add_eq_left, Nat.left_eq_add, false_and, and_false, Nat.reduceSub, Nat.sub_self, Nat.le_refl, Nat.zero_le, ge_iff_le, Nat.reduceAdd, Nat.reduceLeDiff, Nat.zero_add, Nat.reduceLT, z_lt, z_le, z_eq, z_l0, z_g0, z_le0, z_ge0, z_e0, z_e1, z_vp, z_nc, z_rem, z_div, i_ltT, i_ltF, i_leT, i_leF, i_eqT, i_eqF, n_ltT, n_ltF, n_leT, n_leF, n_eqT, n_eqF, tn_9, tn_12, tn_14, tn_20, tn_28, tn_44, tn_52, tn_68, tn_84, tn_100, tn_116, tn_132, fu_e, up_eq, ob_0, ob_b, oi_add, oi_sub, oi_mul, oi_neg, Int.add_zero, Int.zero_add, or_true, true_or, or_false, false_or, and_self, z_i2l, z_l2i, lo_nat, lo_add, lo_sub, lo_mul, lo_0, e_rem]
      exact hloop (fun q => q.1 hz)
    · simp (disch := omega) only [wp_c, wp_n, jj_n, v_ct, Int.reduceToNat, Int.toNat_natCast, stE, wlE, lgt, lpu, lpw, v_c2, va_s, true_and, and_true, Option.toList, List.nil_append, List.cons_append, List.take, List.drop, List.reverse, List.reverseAux, List.length_cons, List.length_nil, reduceCtorEq, false_implies, true_implies, forall_const, not_true_eq_false, not_false_eq_true, ite_true, ite_false, Bool.false_eq_true, I_I, J_J, Nat.add_left_cancel_iff, Nat.reduceEqDiff, Nat.add_eq_left, Nat.left_eq_add, false_and, and_false, Nat.reduceSub, Nat.sub_self, Nat.le_refl, Nat.zero_le, ge_iff_le, Nat.reduceAdd, Nat.reduceLeDiff, Nat.zero_add, Nat.reduceLT, z_lt, z_le, z_eq, z_l0, z_g0, z_le0, z_ge0, z_e0, z_e1, z_vp, z_nc, z_rem, z_div, i_ltT, i_ltF, i_leT, i_leF, i_eqT, i_eqF, n_ltT, n_ltF, n_leT, n_leF, n_eqT, n_eqF, tn_9, tn_12, tn_14, tn_20, tn_28, tn_44, tn_52, tn_68, tn_84, tn_100, tn_116, tn_132, fu_e, up_eq, ob_0, ob_b, oi_add, oi_sub, oi_mul, oi_neg, Int.add_zero, Int.zero_add, or_true, true_or, or_false, false_or, and_self, z_i2l, z_l2i, lo_nat, lo_add, lo_sub, lo_mul, lo_0, e_rem]
      by_cases hst : 2 ≤ A (68 + ((A 4).toNat + p))
      · simp (disch := omega) only [wp_c, wp_n, jj_n, v_ct, Int.reduceToNat, Int.toNat_natCast, stE, wlE, lgt, lpu, lpw, v_c2, va_s, true_and, and_true, Option.toList, List.nil_append, List.cons_append, List.take, List.drop, List.reverse, List.reverseAux, List.length_cons, List.length_nil, reduceCtorEq, false_implies, true_implies, forall_const, not_true_eq_false, not_false_eq_true, ite_true, ite_false, Bool.false_eq_true, I_I, J_J, Nat.add_left_cancel_iff, Nat.reduceEqDiff, Nat.add_eq_left, Nat.left_eq_add, false_and, and_false, Nat.reduceSub, Nat.sub_self, Nat.le_refl, Nat.zero_le, ge_iff_le, Nat.reduceAdd, Nat.reduceLeDiff, Nat.zero_add, Nat.reduceLT, z_lt, z_le, z_eq, z_l0, z_g0, z_le0, z_ge0, z_e0, z_e1, z_vp, z_nc, z_rem, z_div, i_ltT, i_ltF, i_leT, i_leF, i_eqT, i_eqF, n_ltT, n_ltF, n_leT, n_leF, n_eqT, n_eqF, tn_9, tn_12, tn_14, tn_20, tn_28, tn_44, tn_52, tn_68, tn_84, tn_100, tn_116, tn_132, fu_e, up_eq, ob_0, ob_b, oi_add, oi_sub, oi_mul, oi_neg, Int.add_zero, Int.zero_add, or_true, true_or, or_false, false_or, and_self, z_i2l, z_l2i, lo_nat, lo_add, lo_sub, lo_mul, lo_0, e_rem]
        refine z_jam hO fun w1 k1 k2 => ?_
        simp (disch := omega) only [wp_c, wp_n, jj_n, v_ct, Int.reduceToNat, Int.toNat_natCast, stE, wlE, lgt, lpu, lpw, v_c2, va_s, true_and, and_true, Option.toList, List.nil_append, List.cons_append, List.take, List.drop, List.reverse, List.reverseAux, List.length_cons, List.length_nil, reduceCtorEq, false_implies, true_implies, forall_const, not_true_eq_false, not_false_eq_true, ite_true, ite_false, Bool.false_eq_true, I_I, J_J, Nat.add_left_cancel_iff, Nat.reduceEqDiff, Nat.add_eq_left, Nat.left_eq_add, false_and, and_false, Nat.reduceSub, Nat.sub_self, Nat.le_refl, Nat.zero_le, ge_iff_le, Nat.reduceAdd, Nat.reduceLeDiff, Nat.zero_add, Nat.reduceLT, z_lt, z_le, z_eq, z_l0, z_g0, z_le0, z_ge0, z_e0, z_e1, z_vp, z_nc, z_rem, z_div, i_ltT, i_ltF, i_leT, i_leF, i_eqT, i_eqF, n_ltT, n_ltF, n_leT, n_leF, n_eqT, n_eqF, tn_9, tn_12, tn_14, tn_20, tn_28, tn_44, tn_52, tn_68, tn_84, tn_100, tn_116, tn_132, fu_e, up_eq, ob_0, ob_b, oi_add, oi_sub, oi_mul, oi_neg, Int.add_zero, Int.zero_add, or_true, true_or, or_false, false_or, and_self, z_i2l, z_l2i, lo_nat, lo_add, lo_sub, lo_mul, lo_0, e_rem, mr_X10_goOn]
        rw [if_neg hz, if_pos hst] at hq
        have := hq w1 _ ?_ ?_ ?_ ?_ ?_ k1 k2
        · simp only at this
          have := this ?_ ?_
          · simpa using this
          · rw [up_eq, if_neg (by omega), up_eq, if_neg (by omega), up_eq, if_pos rfl]
          · rw [up_eq, if_neg (by omega), up_eq, if_pos rfl]
        · refine ⟨fun j hj => ?_, fun i hi => ?_⟩
          · show _ = up A 17 (A 17 + 1) j
            simp only [up_eq]
            have := hR.1 j hj
            have e17 : B 17 = A 17 := hR.cts (j := 5) (by omega)
            unfold RK at hj
            repeat' split
            all_goals first | omega | exact this
          · show _ = mvd (up A 17 (A 17 + 1) (84 + i))
            simp only [up_eq]
            rw [if_neg (by omega), if_neg (by omega), if_neg (by omega), if_neg (by omega)]; exact hR.2 i hi
        · intro j hj
          simp only [up_eq]
          rw [if_neg (by omega), if_neg (by omega), if_neg (by omega)]
        · intro i hi
          show 0 ≤ up A 17 (A 17 + 1) (84 + i)
          rw [up_eq, if_neg (by omega)]; exact hM i hi
        · simp only [up_eq]
          rw [if_neg (by omega), if_neg (by omega), if_neg (by omega)]
        · simp only [up_eq]
          rw [if_neg (by omega), if_neg (by omega), if_neg (by omega)]
      · simp (disch := omega) only [wp_c, wp_n, jj_n, v_ct, Int.reduceToNat, Int.toNat_natCast, stE, wlE, lgt, lpu, lpw, v_c2, va_s, true_and, and_true, Option.toList, List.nil_append, List.cons_append, List.take, List.drop, List.reverse, List.reverseAux, List.length_cons, List.length_nil, reduceCtorEq, false_implies, true_implies, forall_const, not_true_eq_false, not_false_eq_true, ite_true, ite_false, Bool.false_eq_true, I_I, J_J, Nat.add_left_cancel_iff, Nat.reduceEqDiff, Nat.add_eq_left, Nat.left_eq_add, false_and, and_false, Nat.reduceSub, Nat.sub_self, Nat.le_refl, Nat.zero_le, ge_iff_le, Nat.reduceAdd, Nat.reduceLeDiff, Nat.zero_add, Nat.reduceLT, z_lt, z_le, z_eq, z_l0, z_g0, z_le0, z_ge0, z_e0, z_e1, z_vp, z_nc, z_rem, z_div, i_ltT, i_ltF, i_leT, i_leF, i_eqT, i_eqF, n_ltT, n_ltF, n_leT, n_leF, n_eqT, n_eqF, tn_9, tn_12, tn_14, tn_20, tn_28, tn_44, tn_52, tn_68, tn_84, tn_100, tn_116, tn_132, fu_e, up_eq, ob_0, ob_b, oi_add, oi_sub, oi_mul, oi_neg, Int.add_zero, Int.zero_add, or_true, true_or, or_false, false_or, and_self, z_i2l, z_l2i, lo_nat, lo_add, lo_sub, lo_mul, lo_0, e_rem]
        exact hloop (fun q => hst q.2)
