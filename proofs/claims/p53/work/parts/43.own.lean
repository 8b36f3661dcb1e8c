theorem rl_tal {A B : Row} {k wh : Nat} (h : RAB A B) (hk : k < 3) (hw : wh < 16) : RAB (up (a_tal A k) (52 + wh) 0) (up (up (up B 1010 0) (52 + wh) 0) (12 + (2 + k)) (B (12 + (2 + k)) + 1)) := by
  refine ⟨fun j hj => ?_, fun i hi => ?_⟩
  · have hb := h.1 j hj
    have hc := h.cts (j := 2 + k) (by omega)
    simp only [a_tal, up_eq]
    by_cases k1 : j = 52 + wh
    · rw [if_neg (by omega), if_pos k1, if_pos k1]
    · rw [if_neg k1, if_neg k1]
      have n9 : ¬ j = 9 + k := by unfold RK at hj; omega
      have n1010 : ¬ j = 1010 := by unfold RK at hj; omega
      rw [if_neg n9, if_neg n1010]
      by_cases k2 : j = 12 + (2 + k)
      · rw [if_pos k2, if_pos (by omega), if_neg (by omega), hc, show 14 + k = 12 + (2 + k) by omega]
      · rw [if_neg k2, if_neg (by omega)]; exact hb
  · have hb := h.2 i hi
    have e : up (a_tal A k) (52 + wh) 0 (84 + i) = A (84 + i) := by rw [up_eq, if_neg (by omega), tal_s _ _ _ hk (by omega)]
    rw [e, up_eq, if_neg (by omega), up_eq, if_neg (by omega), up_eq, if_neg (by omega)]
    exact hb
theorem tal_mv (A : Row) (wh : Nat) (hw : wh < 16) : a_mv (up (a_tal A 1) (52 + wh) 0) (wh + 1) 1 = up (a_tal (a_mv A (wh + 1) 1) 1) (52 + wh) 0 := by
  have f : ∀ i, ¬ i = 52 + wh → ¬ i = 10 → ¬ i = 15 → up (a_tal A 1) (52 + wh) 0 i = A i := by
    intro i h1 h2 h3
    simp only [a_tal, up_eq]
    rw [if_neg h1, if_neg (by omega), if_neg (by omega)]
  have g : ∀ i, (i = 10 ∨ i = 15) → a_mv A (wh + 1) 1 i = A i := by
    intro i hi
    rw [mv_at, if_neg (by omega), if_neg (by omega), if_neg (by omega), if_neg (by omega)]
  funext k
  rw [mv_at, f _ (by omega) (by omega) (by omega), f _ (by omega) (by omega) (by omega), f _ (by omega) (by omega) (by omega), f _ (by omega) (by omega) (by omega)]
  by_cases k1 : k = 52 + wh
  · subst k1
    rw [if_neg (by omega), if_neg (by omega), if_neg (by omega), if_neg (by omega), up_eq, if_pos rfl, up_eq, if_pos rfl]
  · rw [up_eq (a_tal (a_mv A (wh + 1) 1) 1), if_neg k1]
    have e : up (a_tal A 1) (52 + wh) 0 k = a_tal A 1 k := by rw [up_eq, if_neg k1]
    rw [e]
    simp only [a_tal, up_eq]
    have g1 := g 10 (Or.inl rfl)
    have g2 := g 15 (Or.inr rfl)
    by_cases k2 : k = 15
    · subst k2
      rw [if_neg (by omega), if_neg (by omega), if_neg (by omega), if_neg (by omega), if_pos rfl, if_pos rfl, if_neg (by omega), if_neg (by omega), g2]
    · rw [if_neg k2, if_neg k2]
      by_cases k3 : k = 10
      · subst k3
        rw [if_neg (by omega), if_neg (by omega), if_neg (by omega), if_neg (by omega), if_pos rfl, if_pos rfl, g1]
      · rw [if_neg k3, if_neg k3, mv_at]
theorem and_1 (f : Int) (h : 0 ≤ f ∧ f ≤ 3) : Int32.ofInt f &&& Int32.ofInt 1 = Int32.ofInt (f % 2) := by
  rcases (show f = 0 ∨ f = 1 ∨ f = 2 ∨ f = 3 by omega) with rfl | rfl | rfl | rfl <;> decide
theorem c_max32 {x y : Int32} {w : mW} {Q : mW → mO → Prop} (hq : Q w (.inl (some (.int (if y ≤ x then x else y))))) : CT n_J9_max_7cf53 [.int x, .int y] w Q := by
  have hx : inR x.toInt := ⟨x.le_toInt, by have := x.toInt_lt; omega⟩
  have hy : inR y.toInt := ⟨y.le_toInt, by have := y.toInt_lt; omega⟩
  have := c_max (w := w) (Q := Q) hx hy (by
    have e : Int32.ofInt (if y.toInt ≤ x.toInt then x.toInt else y.toInt) = if y ≤ x then x else y := by
      by_cases q : y ≤ x
      · rw [if_pos q, if_pos (Int32.le_iff_toInt_le.mp q), Int32.ofInt_toInt]
      · rw [if_neg q, if_neg (fun r => q (Int32.le_iff_toInt_le.mpr r)), Int32.ofInt_toInt]
    rw [e]; exact hq)
  rwa [Int32.ofInt_toInt, Int32.ofInt_toInt] at this
/-- the levers -/
theorem z_gl {b o : Nat} {P : Nat → Nat} {x1 x2 : Int32} {Q : mW → mO → Prop} : ∀ (n : Nat) (A B : Row) (wh : Nat) (c l : Int32) (w : mW) (v4 v5 : Value), (wh : Int) + n = A 1 → TI A → M0 A → RAB A B → B 7 = A 7 → Int32.ofInt (B 1010) = c → Int32.ofInt (B 1009) = l → OW w b o P B →
  (∀ w' B', RAB (a_lev n A wh c l).1 B' → KW B B' → M0 (a_lev n A wh c l).1 → Int32.ofInt (B' 1009) = (a_lev n A wh c l).2.2 → OW w' b o P B' → FO b w w' → (match (a_lev n A wh c l).2.1 with
    | none => B' 5 = B 5 → B' 6 = B 6 → ∀ v3 v4 v5, RT n_X10_goOn 307 [.ref o, .int x1, .int x2, v3, v4, v5] [] w' (1, 4, false) Q
    | some k => B' 5 = 2 → B' 6 = k → Q w' (.inl (some (.int (Int32.ofInt 0)))))) →
  RT n_X10_goOn 101 [.ref o, .int x1, .int x2, .int (Int32.ofInt wh), v4, v5] [] w (1, 4, false) Q := by
  intro n
  induction n with
  | zero =>
    intro A B wh c l w v4 v5 hn hI hM hR h7 hc hl hO hq
    have h0 := hI.1
    have hs := hR.sz
    have hV := hO.V
    have hFF := hO.F
    refine rt_X10_goOn_101 ?_
    simp (disch := omega) only [wp_c, wp_n, jj_n, v_ct, Int.reduceToNat, Int.toNat_natCast, stE, wlE, lgt, lpu, lpw, v_c2, va_s, true_and, and_true, Option.toList, List.nil_append, List.cons_append, List.take, List.drop, List.reverse, List.reverseAux, List.length_cons, List.length_nil, reduceCtorEq, false_implies, true_implies, forall_const, not_true_eq_false, not_false_eq_true, ite_true, ite_false, Bool.false_eq_true, I_I, J_J, Nat.add_left_cancel_iff, Nat.reduceEqDiff, Nat.add_eq_left, Nat.left_eq_add, false_and, and_false, Nat.reduceSub, Nat.sub_self, Nat.le_refl, Nat.zero_le, ge_iff_le, Nat.reduceAdd, Nat.reduceLeDiff, Nat.zero_add, Nat.reduceLT, z_lt, z_le, z_eq, z_l0, z_g0, z_le0, z_ge0, z_e0, z_e1, z_vp, z_nc, z_rem, z_div, i_ltT, i_ltF, i_leT, i_leF, i_eqT, i_eqF, n_ltT, n_ltF, n_leT, n_leF, n_eqT, n_eqF, tn_9, tn_12, tn_14, tn_20, tn_28, tn_44, tn_52, tn_68, tn_84, tn_100, tn_116, tn_132, fu_e, up_eq, ob_0, ob_b, oi_add, oi_sub, oi_mul, oi_neg, Int.add_zero, Int.zero_add, or_true, true_or, or_false, false_or, and_self, z_i2l, z_l2i, lo_nat, lo_add, lo_sub, lo_mul, lo_0, e_rem, hV, hFF]
    have := hq w B hR (KW.refl B) hM hl hO (FO.refl _ _)
    exact this rfl rfl _ _ _
  | succ n ih =>
    intro A B wh c l w v4 v5 hn hI hM hR h7 hc hl hO hq
    have h0 := hI.1
    have hs := hR.sz
    have hV := hO.V
    have hFF := hO.F
    have hE := hO.E
    have hge := hO.ge
    have gP := hge.2
    have e52 := hR.lev (j := wh) (by omega)
    have e68 := hR.flt (j := wh) (by omega)
    have h52 := hI.2.2.2.2.2.1 wh (by omega)
    have h68 := hI.2.2.2.2.2.2 wh (by omega)
    -- on to the next wheel
    have hN : ∀ (A' : Row) (c' l' : Int32) (w' : mW) (B' : Row) (v4 v5 : Value), a_lev (n + 1) A wh c l = a_lev n A' (wh + 1) c' l' → TI A' → A' 1 = A 1 → A' 7 = A 7 → M0 A' → RAB A' B' → KW B B' → B' 5 = B 5 → B' 6 = B 6 → Int32.ofInt (B' 1010) = c' → Int32.ofInt (B' 1009) = l' → OW w' b o P B' → FO b w w' →
        RT n_X10_goOn 301 [.ref o, .int x1, .int x2, .int (Int32.ofInt wh), v4, v5] [] w' (1, 4, false) Q := by
      intro A' c' l' w' B' v4 v5 he k1 k2 k3 k4 k5 k6 k7 k8 k9 k10 k13 k14
      rw [he] at hq
      refine rt_X10_goOn_301 ?_
      simp (disch := omega) only [wp_c, wp_n, jj_n, v_ct, Int.reduceToNat, Int.toNat_natCast, stE, wlE, lgt, lpu, lpw, v_c2, va_s, true_and, and_true, Option.toList, List.nil_append, List.cons_append, List.take, List.drop, List.reverse, List.reverseAux, List.length_cons, List.length_nil, reduceCtorEq, false_implies, true_implies, forall_const, not_true_eq_false, not_false_eq_true, ite_true, ite_false, Bool.false_eq_true, I_I, J_J, Nat.add_left_cancel_iff, Nat.reduceEqDiff, Nat.add_eq_left, Nat.left_eq_add, false_and, and_false, Nat.reduceSub, Nat.sub_self, Nat.le_refl, Nat.zero_le, ge_iff_le, Nat.reduceAdd, Nat.reduceLeDiff, Nat.zero_add, Nat.reduceLT, z_lt, z_le, z_eq, z_l0, z_g0, z_le0, z_ge0, z_e0, z_e1, z_vp, z_nc, z_rem, z_div, i_ltT, i_ltF, i_leT, i_leF, i_eqT, i_eqF, n_ltT, n_ltF, n_leT, n_leF, n_eqT, n_eqF, tn_9, tn_12, tn_14, tn_20, tn_28, tn_44, tn_52, tn_68, tn_84, tn_100, tn_116, tn_132, fu_e, up_eq, ob_0, ob_b, oi_add, oi_sub, oi_mul, oi_neg, Int.add_zero, Int.zero_add, or_true, true_or, or_false, false_or, and_self, z_i2l, z_l2i, lo_nat, lo_add, lo_sub, lo_mul, lo_0, e_rem]
      refine ih A' B' (wh + 1) c' l' w' v4 v5 (by omega) k1 k4 k5 (by rw [k3, k6 7 (by omega)]; exact h7) k9 k10 k13 ?_
      intro w2 B2 q1 q2 q3 q4 q5 q6
      have := hq w2 B2 q1 (k6.trans q2) q3 q4 q5 (k14.trans q6)
      cases ho : (a_lev n A' (wh + 1) c' l').2.1 with
      | none =>
        rw [ho] at this
        intro z5 z6
        exact this (z5.trans k7) (z6.trans k8)
      | some k => rw [ho] at this; exact this
    refine rt_X10_goOn_101 ?_
    simp (disch := omega) only [wp_c, wp_n, jj_n, v_ct, Int.reduceToNat, Int.toNat_natCast, stE, wlE, lgt, lpu, lpw, v_c2, va_s, true_and, and_true, Option.toList, List.nil_append, List.cons_append, List.take, List.drop, List.reverse, List.reverseAux, List.length_cons, List.length_nil, reduceCtorEq, false_implies, true_implies, forall_const, not_true_eq_false, not_false_eq_true, ite_true, ite_false, Bool.false_eq_true, I_I, J_J, Nat.add_left_cancel_iff, Nat.reduceEqDiff, Nat.add_eq_left, Nat.left_eq_add, false_and, and_false, Nat.reduceSub, Nat.sub_self, Nat.le_refl, Nat.zero_le, ge_iff_le, Nat.reduceAdd, Nat.reduceLeDiff, Nat.zero_add, Nat.reduceLT, z_lt, z_le, z_eq, z_l0, z_g0, z_le0, z_ge0, z_e0, z_e1, z_vp, z_nc, z_rem, z_div, i_ltT, i_ltF, i_leT, i_leF, i_eqT, i_eqF, n_ltT, n_ltF, n_leT, n_leF, n_eqT, n_eqF, tn_9, tn_12, tn_14, tn_20, tn_28, tn_44, tn_52, tn_68, tn_84, tn_100, tn_116, tn_132, fu_e, up_eq, ob_0, ob_b, oi_add, oi_sub, oi_mul, oi_neg, Int.add_zero, Int.zero_add, or_true, true_or, or_false, false_or, and_self, z_i2l, z_l2i, lo_nat, lo_add, lo_sub, lo_mul, lo_0, e_rem, hV, hFF, hE, e52]
    have hO1 := hO.srun (v := 0)
    have hF1 : FO b w (s_I w o 10 (Int32.ofInt 0)) := (FO.refl _ _).I hge.1
    by_cases hz : A (52 + wh) = 0
    · simp (disch := omega) only [wp_c, wp_n, jj_n, v_ct, Int.reduceToNat, Int.toNat_natCast, stE, wlE, lgt, lpu, lpw, v_c2, va_s, true_and, and_true, Option.toList, List.nil_append, List.cons_append, List.take, List.drop, List.reverse, List.reverseAux, List.length_cons, List.length_nil, reduceCtorEq, false_implies, true_implies, forall_const, not_true_eq_false, not_false_eq_true, ite_true, ite_false, Bool.false_eq_true, I_I, J_J, Nat.add_left_cancel_iff, Nat.reduceEqDiff, Nat.add_eq_left, Nat.left_eq_add, false_and, and_false, Nat.reduceSub, Nat.sub_self, Nat.le_refl, Nat.zero_le, ge_iff_le, Nat.reduceAdd, Nat.reduceLeDiff, Nat.zero_add, Nat.reduceLT, z_lt, z_le, z_eq, z_l0, z_g0, z_le0, z_ge0, z_e0, z_e1, z_vp, z_nc, z_rem, z_div, i_ltT, i_ltF, i_leT, i_leF, i_eqT, i_eqF, n_ltT, n_ltF, n_leT, n_leF, n_eqT, n_eqF, tn_9, tn_12, tn_14, tn_20, tn_28, tn_44, tn_52, tn_68, tn_84, tn_100, tn_116, tn_132, fu_e, up_eq, ob_0, ob_b, oi_add, oi_sub, oi_mul, oi_neg, Int.add_zero, Int.zero_add, or_true, true_or, or_false, false_or, and_self, z_i2l, z_l2i, lo_nat, lo_add, lo_sub, lo_mul, lo_0, e_rem]
      refine hN A (Int32.ofInt 0) l _ (up B 1010 0) _ _ ?_ hI rfl rfl hM ?_ ?_ ?_ ?_ ?_ ?_ hO1 hF1
      · rw [a_lev, if_pos hz]
      · exact ⟨fun j hj => by rw [up_eq, if_neg (by unfold RK at hj; omega)]; exact hR.1 j hj, fun i hi => by rw [up_eq, if_neg (by omega)]; exact hR.2 i hi⟩
      · intro j hj; rw [up_eq, if_neg (by omega)]
      · rw [up_eq, if_neg (by omega)]
      · rw [up_eq, if_neg (by omega)]
      · rw [up_eq, if_pos rfl]
      · rw [up_eq, if_neg (by omega)]; exact hl
    · simp (disch := omega) only [wp_c, wp_n, jj_n, v_ct, Int.reduceToNat, Int.toNat_natCast, stE, wlE, lgt, lpu, lpw, v_c2, va_s, true_and, and_true, Option.toList, List.nil_append, List.cons_append, List.take, List.drop, List.reverse, List.reverseAux, List.length_cons, List.length_nil, reduceCtorEq, false_implies, true_implies, forall_const, not_true_eq_false, not_false_eq_true, ite_true, ite_false, Bool.false_eq_true, I_I, J_J, Nat.add_left_cancel_iff, Nat.reduceEqDiff, Nat.add_eq_left, Nat.left_eq_add, false_and, and_false, Nat.reduceSub, Nat.sub_self, Nat.le_refl, Nat.zero_le, ge_iff_le, Nat.reduceAdd, Nat.reduceLeDiff, Nat.zero_add, Nat.reduceLT, z_lt, z_le, z_eq, z_l0, z_g0, z_le0, z_ge0, z_e0, z_e1, z_vp, z_nc, z_rem, z_div, i_ltT, i_ltF, i_leT, i_leF, i_eqT, i_eqF, n_ltT, n_ltF, n_leT, n_leF, n_eqT, n_eqF, tn_9, tn_12, tn_14, tn_20, tn_28, tn_44, tn_52, tn_68, tn_84, tn_100, tn_116, tn_132, fu_e, up_eq, ob_0, ob_b, oi_add, oi_sub, oi_mul, oi_neg, Int.add_zero, Int.zero_add, or_true, true_or, or_false, false_or, and_self, z_i2l, z_l2i, lo_nat, lo_add, lo_sub, lo_mul, lo_0, e_rem]
      have h171 : ∀ lost : Int, lost = (if A (68 + wh) % 2 = 1 ∨ A 4 + A 0 - 1 + A 3 < wh + 1 then 1 else 0) → RT n_X10_goOn 171 [.ref o, .int x1, .int x2, .int (Int32.ofInt wh), .int (Int32.ofInt (B 1010)), v5] [.int (Int32.ofInt lost)] (s_I w o 10 (Int32.ofInt 0)) (1, 4, false) Q := by
        intro lost hlost
        have hV1 := hO1.V
        have hFF1 := hO1.F
        have f1 : ∀ i, ¬ i = 1010 → up B 1010 0 i = B i := fun i hi => by rw [up_eq, if_neg hi]
        have f10 := f1 0 (by omega)
        have f11 := f1 1 (by omega)
        have f12 := f1 (68 + (wh + 1)) (by omega)
        -- the tally
        have h213 : ∀ k : Nat, k < 3 → (k = 0 ↔ (wh : Int) = A 1 - 1) → (k = 2 ↔ ¬ (wh : Int) = A 1 - 1 ∧ lost = 1) →
            (∀ w2, OW w2 b o P (up (up (up B 1010 0) (52 + wh) 0) (12 + (2 + k)) (B (12 + (2 + k)) + 1)) → FO b w w2 → (k < 1 ∨ 1 < k → RT n_X10_goOn 301 [.ref o, .int x1, .int x2, .int (Int32.ofInt wh), .int (Int32.ofInt (B 1010)), .int (Int32.ofInt lost)] [] w2 (1, 4, false) Q) ∧ (k = 1 → RT n_X10_goOn 271 [.ref o, .int x1, .int x2, .int (Int32.ofInt wh), .int (Int32.ofInt (B 1010)), .int (Int32.ofInt lost)] [] w2 (1, 4, false) Q)) →
            RT n_X10_goOn 213 [.ref o, .int x1, .int x2, .int (Int32.ofInt wh), .int (Int32.ofInt (B 1010)), .int (Int32.ofInt lost)] [] (s_I w o 10 (Int32.ofInt 0)) (1, 4, false) Q := by
          intro k hk hk0 hk2 hq2
          have hO2 := hO1.slev (j := wh) (v := 0) (by omega)
          have hF2 : FO b w (s_I (s_I w o 10 (Int32.ofInt 0)) (P 18) wh (Int32.ofInt 0)) := hF1.I (gP 18 (by omega) (by omega))
          have hV2 := hO2.V
          have hFF2 := hO2.F
          have f2 : ∀ i, ¬ i = 1010 → ¬ i = 52 + wh → up (up B 1010 0) (52 + wh) 0 i = B i := fun i h1 h2 => by rw [up_eq, if_neg h2, up_eq, if_neg h1]
          have f21 := f2 1 (by omega) (by omega)
          have f2k := f2 (12 + (2 + k)) (by omega) (by omega)
          have hO3 := hO2.scts (j := 2 + k) (v := B (12 + (2 + k)) + 1) (by omega)
          have hq3 := hq2 _ hO3 (hF2.I (gP 21 (by omega) (by omega)))
          have hl01 : lost = 0 ∨ lost = 1 := by rw [hlost]; split <;> simp
          have h248 : RT n_X10_goOn 248 [.ref o, .int x1, .int x2, .int (Int32.ofInt wh), .int (Int32.ofInt (B 1010)), .int (Int32.ofInt lost)] [.int (Int32.ofInt ((2 + k : Nat) : Int)), .ref (P 21)] (s_I (s_I w o 10 (Int32.ofInt 0)) (P 18) wh (Int32.ofInt 0)) (1, 4, false) Q := by
            refine rt_X10_goOn_248 ?_
            simp (disch := omega) only [wp_c, wp_n, jj_n, v_ct, Int.reduceToNat, Int.toNat_natCast, stE, wlE, lgt, lpu, lpw, v_c2, va_s, true_and, and_true, Option.toList, List.nil_append, List.cons_append, List.take, List.drop, List.reverse, List.reverseAux, List.length_cons, List.length_nil, reduceCtorEq, false_implies, true_implies, forall_const, not_true_eq_false, not_false_eq_true, ite_true, ite_false, Bool.false_eq_true, I_I, J_J, Nat.add_left_cancel_iff, Nat.reduceEqDiff, Nat.add_eq_left, Nat.left_eq_add, false_and, and_false, Nat.reduceSub, Nat.sub_self, Nat.le_refl, Nat.zero_le, ge_iff_le, Nat.reduceAdd, Nat.reduceLeDiff, Nat.zero_add, Nat.reduceLT, z_lt, z_le, z_eq, z_l0, z_g0, z_le0, z_ge0, z_e0, z_e1, z_vp, z_nc, z_rem, z_div, i_ltT, i_ltF, i_leT, i_leF, i_eqT, i_eqF, n_ltT, n_ltF, n_leT, n_leF, n_eqT, n_eqF, tn_9, tn_12, tn_14, tn_20, tn_28, tn_44, tn_52, tn_68, tn_84, tn_100, tn_116, tn_132, fu_e, up_eq, ob_0, ob_b, oi_add, oi_sub, oi_mul, oi_neg, Int.add_zero, Int.zero_add, or_true, true_or, or_false, false_or, and_self, z_i2l, z_l2i, lo_nat, lo_add, lo_sub, lo_mul, lo_0, e_rem, hFF, hV, hE, hs.2.1]
            by_cases t0 : (wh : Int) = A 1 - 1
            · have : k = 0 := hk0.mpr t0
              subst this
              simp (disch := omega) only [wp_c, wp_n, jj_n, v_ct, Int.reduceToNat, Int.toNat_natCast, stE, wlE, lgt, lpu, lpw, v_c2, va_s, true_and, and_true, Option.toList, List.nil_append, List.cons_append, List.take, List.drop, List.reverse, List.reverseAux, List.length_cons, List.length_nil, reduceCtorEq, false_implies, true_implies, forall_const, not_true_eq_false, not_false_eq_true, ite_true, ite_false, Bool.false_eq_true, I_I, J_J, Nat.add_left_cancel_iff, Nat.reduceEqDiff, Nat.add_eq_left, Nat.left_eq_add, false_and, and_false, Nat.reduceSub, Nat.sub_self, Nat.le_refl, Nat.zero_le, ge_iff_le, Nat.reduceAdd, Nat.reduceLeDiff, Nat.zero_add, Nat.reduceLT, z_lt, z_le, z_eq, z_l0, z_g0, z_le0, z_ge0, z_e0, z_e1, z_vp, z_nc, z_rem, z_div, i_ltT, i_ltF, i_leT, i_leF, i_eqT, i_eqF, n_ltT, n_ltF, n_leT, n_leF, n_eqT, n_eqF, tn_9, tn_12, tn_14, tn_20, tn_28, tn_44, tn_52, tn_68, tn_84, tn_100, tn_116, tn_132, fu_e, up_eq, ob_0, ob_b, oi_add, oi_sub, oi_mul, oi_neg, Int.add_zero, Int.zero_add, or_true, true_or, or_false, false_or, and_self, z_i2l, z_l2i, lo_nat, lo_add, lo_sub, lo_mul, lo_0, e_rem]
              exact hq3.1 (by omega)
            · simp (disch := omega) only [wp_c, wp_n, jj_n, v_ct, Int.reduceToNat, Int.toNat_natCast, stE, wlE, lgt, lpu, lpw, v_c2, va_s, true_and, and_true, Option.toList, List.nil_append, List.cons_append, List.take, List.drop, List.reverse, List.reverseAux, List.length_cons, List.length_nil, reduceCtorEq, false_implies, true_implies, forall_const, not_true_eq_false, not_false_eq_true, ite_true, ite_false, Bool.false_eq_true, I_I, J_J, Nat.add_left_cancel_iff, Nat.reduceEqDiff, Nat.add_eq_left, Nat.left_eq_add, false_and, and_false, Nat.reduceSub, Nat.sub_self, Nat.le_refl, Nat.zero_le, ge_iff_le, Nat.reduceAdd, Nat.reduceLeDiff, Nat.zero_add, Nat.reduceLT, z_lt, z_le, z_eq, z_l0, z_g0, z_le0, z_ge0, z_e0, z_e1, z_vp, z_nc, z_rem, z_div, i_ltT, i_ltF, i_leT, i_leF, i_eqT, i_eqF, n_ltT, n_ltF, n_leT, n_leF, n_eqT, n_eqF, tn_9, tn_12, tn_14, tn_20, tn_28, tn_44, tn_52, tn_68, tn_84, tn_100, tn_116, tn_132, fu_e, up_eq, ob_0, ob_b, oi_add, oi_sub, oi_mul, oi_neg, Int.add_zero, Int.zero_add, or_true, true_or, or_false, false_or, and_self, z_i2l, z_l2i, lo_nat, lo_add, lo_sub, lo_mul, lo_0, e_rem]
              rcases hl01 with hl0 | hl1
              · have k1 : k = 1 := by
                  have : ¬ k = 0 := fun q => t0 (hk0.mp q)
                  have : ¬ k = 2 := fun q => by have := (hk2.mp q).2; omega
                  omega
                subst k1
                subst hl0
                simp (disch := omega) only [wp_c, wp_n, jj_n, v_ct, Int.reduceToNat, Int.toNat_natCast, stE, wlE, lgt, lpu, lpw, v_c2, va_s, true_and, and_true, Option.toList, List.nil_append, List.cons_append, List.take, List.drop, List.reverse, List.reverseAux, List.length_cons, List.length_nil, reduceCtorEq, false_implies, true_implies, forall_const, not_true_eq_false, not_false_eq_true, ite_true, ite_false, Bool.false_eq_true, I_I, J_J, Nat.add_left_cancel_iff, Nat.reduceEqDiff, Nat.add_eq_left, Nat.left_eq_add, false_and, and_false, Nat.reduceSub, Nat.sub_self, Nat.le_refl, Nat.zero_le, ge_iff_le, Nat.reduceAdd, Nat.reduceLeDiff, Nat.zero_add, Nat.reduceLT, z_lt, z_le, z_eq, z_l0, z_g0, z_le0, z_ge0, z_e0, z_e1, z_vp, z_nc, z_rem, z_div, i_ltT, i_ltF, i_leT, i_leF, i_eqT, i_eqF, n_ltT, n_ltF, n_leT, n_leF, n_eqT, n_eqF, tn_9, tn_12, tn_14, tn_20, tn_28, tn_44, tn_52, tn_68, tn_84, tn_100, tn_116, tn_132, fu_e, up_eq, ob_0, ob_b, oi_add, oi_sub, oi_mul, oi_neg, Int.add_zero, Int.zero_add, or_true, true_or, or_false, false_or, and_self, z_i2l, z_l2i, lo_nat, lo_add, lo_sub, lo_mul, lo_0, e_rem]
                exact hq3.2 rfl
              · have k2 : k = 2 := hk2.mpr ⟨t0, hl1⟩
                subst k2
                subst hl1
                simp (disch := omega) only [wp_c, wp_n, jj_n, v_ct, Int.reduceToNat, Int.toNat_natCast, stE, wlE, lgt, lpu, lpw, v_c2, va_s, true_and, and_true, Option.toList, List.nil_append, List.cons_append, List.take, List.drop, List.reverse, List.reverseAux, List.length_cons, List.length_nil, reduceCtorEq, false_implies, true_implies, forall_const, not_true_eq_false, not_false_eq_true, ite_true, ite_false, Bool.false_eq_true, I_I, J_J, Nat.add_left_cancel_iff, Nat.reduceEqDiff, Nat.add_eq_left, Nat.left_eq_add, false_and, and_false, Nat.reduceSub, Nat.sub_self, Nat.le_refl, Nat.zero_le, ge_iff_le, Nat.reduceAdd, Nat.reduceLeDiff, Nat.zero_add, Nat.reduceLT, z_lt, z_le, z_eq, z_l0, z_g0, z_le0, z_ge0, z_e0, z_e1, z_vp, z_nc, z_rem, z_div, i_ltT, i_ltF, i_leT, i_leF, i_eqT, i_eqF, n_ltT, n_ltF, n_leT, n_leF, n_eqT, n_eqF, tn_9, tn_12, tn_14, tn_20, tn_28, tn_44, tn_52, tn_68, tn_84, tn_100, tn_116, tn_132, fu_e, up_eq, ob_0, ob_b, oi_add, oi_sub, oi_mul, oi_neg, Int.add_zero, Int.zero_add, or_true, true_or, or_false, false_or, and_self, z_i2l, z_l2i, lo_nat, lo_add, lo_sub, lo_mul, lo_0, e_rem]
                exact hq3.1 (by omega)
          refine rt_X10_goOn_213 ?_
          simp (disch := omega) only [wp_c, wp_n, jj_n, v_ct, Int.reduceToNat, Int.toNat_natCast, stE, wlE, lgt, lpu, lpw, v_c2, va_s, true_and, and_true, Option.toList, List.nil_append, List.cons_append, List.take, List.drop, List.reverse, List.reverseAux, List.length_cons, List.length_nil, reduceCtorEq, false_implies, true_implies, forall_const, not_true_eq_false, not_false_eq_true, ite_true, ite_false, Bool.false_eq_true, I_I, J_J, Nat.add_left_cancel_iff, Nat.reduceEqDiff, Nat.add_eq_left, Nat.left_eq_add, false_and, and_false, Nat.reduceSub, Nat.sub_self, Nat.le_refl, Nat.zero_le, ge_iff_le, Nat.reduceAdd, Nat.reduceLeDiff, Nat.zero_add, Nat.reduceLT, z_lt, z_le, z_eq, z_l0, z_g0, z_le0, z_ge0, z_e0, z_e1, z_vp, z_nc, z_rem, z_div, i_ltT, i_ltF, i_leT, i_leF, i_eqT, i_eqF, n_ltT, n_ltF, n_leT, n_leF, n_eqT, n_eqF, tn_9, tn_12, tn_14, tn_20, tn_28, tn_44, tn_52, tn_68, tn_84, tn_100, tn_116, tn_132, fu_e, up_eq, ob_0, ob_b, oi_add, oi_sub, oi_mul, oi_neg, Int.add_zero, Int.zero_add, or_true, true_or, or_false, false_or, and_self, z_i2l, z_l2i, lo_nat, lo_add, lo_sub, lo_mul, lo_0, e_rem, hFF, hV, hE, hs.2.1]
          by_cases t0 : (wh : Int) = A 1 - 1
          · have : k = 0 := hk0.mpr t0
            subst this
            simp (disch := omega) only [wp_c, wp_n, jj_n, v_ct, Int.reduceToNat, Int.toNat_natCast, stE, wlE, lgt, lpu, lpw, v_c2, va_s, true_and, and_true, Option.toList, List.nil_append, List.cons_append, List.take, List.drop, List.reverse, List.reverseAux, List.length_cons, List.length_nil, reduceCtorEq, false_implies, true_implies, forall_const, not_true_eq_false, not_false_eq_true, ite_true, ite_false, Bool.false_eq_true, I_I, J_J, Nat.add_left_cancel_iff, Nat.reduceEqDiff, Nat.add_eq_left, Nat.left_eq_add, false_and, and_false, Nat.reduceSub, Nat.sub_self, Nat.le_refl, Nat.zero_le, ge_iff_le, Nat.reduceAdd, Nat.reduceLeDiff, Nat.zero_add, Nat.reduceLT, z_lt, z_le, z_eq, z_l0, z_g0, z_le0, z_ge0, z_e0, z_e1, z_vp, z_nc, z_rem, z_div, i_ltT, i_ltF, i_leT, i_leF, i_eqT, i_eqF, n_ltT, n_ltF, n_leT, n_leF, n_eqT, n_eqF, tn_9, tn_12, tn_14, tn_20, tn_28, tn_44, tn_52, tn_68, tn_84, tn_100, tn_116, tn_132, fu_e, up_eq, ob_0, ob_b, oi_add, oi_sub, oi_mul, oi_neg, Int.add_zero, Int.zero_add, or_true, true_or, or_false, false_or, and_self, z_i2l, z_l2i, lo_nat, lo_add, lo_sub, lo_mul, lo_0, e_rem]
            exact h248
          · simp (disch := omega) only [wp_c, wp_n, jj_n, v_ct, Int.reduceToNat, Int.toNat_natCast, stE, wlE, lgt, lpu, lpw, v_c2, va_s, true_and, and_true, Option.toList, List.nil_append, List.cons_append, List.take, List.drop, List.reverse, List.reverseAux, List.length_cons, List.length_nil, reduceCtorEq, false_implies, true_implies, forall_const, not_true_eq_false, not_false_eq_true, ite_true, ite_false, Bool.false_eq_true, I_I, J_J, Nat.add_left_cancel_iff, Nat.reduceEqDiff, Nat.add_eq_left, Nat.left_eq_add, false_and, and_false, Nat.reduceSub, Nat.sub_self, Nat.le_refl, Nat.zero_le, ge_iff_le, Nat.reduceAdd, Nat.reduceLeDiff, Nat.zero_add, Nat.reduceLT, z_lt, z_le, z_eq, z_l0, z_g0, z_le0, z_ge0, z_e0, z_e1, z_vp, z_nc, z_rem, z_div, i_ltT, i_ltF, i_leT, i_leF, i_eqT, i_eqF, n_ltT, n_ltF, n_leT, n_leF, n_eqT, n_eqF, tn_9, tn_12, tn_14, tn_20, tn_28, tn_44, tn_52, tn_68, tn_84, tn_100, tn_116, tn_132, fu_e, up_eq, ob_0, ob_b, oi_add, oi_sub, oi_mul, oi_neg, Int.add_zero, Int.zero_add, or_true, true_or, or_false, false_or, and_self, z_i2l, z_l2i, lo_nat, lo_add, lo_sub, lo_mul, lo_0, e_rem]
            refine rt_X10_goOn_238 ?_
            rcases hl01 with hl0 | hl1
            · have k1 : k = 1 := by
                have : ¬ k = 0 := fun q => t0 (hk0.mp q)
                have : ¬ k = 2 := fun q => by have := (hk2.mp q).2; omega
                omega
              subst k1
              subst hl0
              simp (disch := omega) only [wp_c, wp_n, jj_n, v_ct, Int.reduceToNat, Int.toNat_natCast, stE, wlE, lgt, lpu, lpw, v_c2, va_s, true_and, and_true, Option.toList, List.nil_append, List.cons_append, List.take, List.drop, List.reverse, List.reverseAux, List.length_cons, List.length_nil, reduceCtorEq, false_implies, true_implies, forall_const, not_true_eq_false, not_false_eq_true, ite_true, ite_false, Bool.false_eq_true, I_I, J_J, Nat.add_left_cancel_iff, Nat.reduceEqDiff, Nat.add_eq_left, Nat.left_eq_add, false_and, and_false, Nat.reduceSub, Nat.sub_self, Nat.le_refl, Nat.zero_le, ge_iff_le, Nat.reduceAdd, Nat.reduceLeDiff, Nat.zero_add, Nat.reduceLT, z_lt, z_le, z_eq, z_l0, z_g0, z_le0, z_ge0, z_e0, z_e1, z_vp, z_nc, z_rem, z_div, i_ltT, i_ltF, i_leT, i_leF, i_eqT, i_eqF, n_ltT, n_ltF, n_leT, n_leF, n_eqT, n_eqF, tn_9, tn_12, tn_14, tn_20, tn_28, tn_44, tn_52, tn_68, tn_84, tn_100, tn_116, tn_132, fu_e, up_eq, ob_0, ob_b, oi_add, oi_sub, oi_mul, oi_neg, Int.add_zero, Int.zero_add, or_true, true_or, or_false, false_or, and_self, z_i2l, z_l2i, lo_nat, lo_add, lo_sub, lo_mul, lo_0, e_rem]
              refine rt_X10_goOn_247 ?_
              simp (disch := omega) only [wp_c, wp_n, jj_n, v_ct, Int.reduceToNat, Int.toNat_natCast, stE, wlE, lgt, lpu, lpw, v_c2, va_s, true_and, and_true, Option.toList, List.nil_append, List.cons_append, List.take, List.drop, List.reverse, List.reverseAux, List.length_cons, List.length_nil, reduceCtorEq, false_implies, true_implies, forall_const, not_true_eq_false, not_false_eq_true, ite_true, ite_false, Bool.false_eq_true, I_I, J_J, Nat.add_left_cancel_iff, Nat.reduceEqDiff, Nat.add_eq_left, Nat.left_eq_add, false_and, and_false, Nat.reduceSub, Nat.sub_self, Nat.le_refl, Nat.zero_le, ge_iff_le, Nat.reduceAdd, Nat.reduceLeDiff, Nat.zero_add, Nat.reduceLT, z_lt, z_le, z_eq, z_l0, z_g0, z_le0, z_ge0, z_e0, z_e1, z_vp, z_nc, z_rem, z_div, i_ltT, i_ltF, i_leT, i_leF, i_eqT, i_eqF, n_ltT, n_ltF, n_leT, n_leF, n_eqT, n_eqF, tn_9, tn_12, tn_14, tn_20, tn_28, tn_44, tn_52, tn_68, tn_84, tn_100, tn_116, tn_132, fu_e, up_eq, ob_0, ob_b, oi_add, oi_sub, oi_mul, oi_neg, Int.add_zero, Int.zero_add, or_true, true_or, or_false, false_or, and_self, z_i2l, z_l2i, lo_nat, lo_add, lo_sub, lo_mul, lo_0, e_rem]
              exact h248
            · have k2 : k = 2 := hk2.mpr ⟨t0, hl1⟩
              subst k2
              subst hl1
              simp (disch := omega) only [wp_c, wp_n, jj_n, v_ct, Int.reduceToNat, Int.toNat_natCast, stE, wlE, lgt, lpu, lpw, v_c2, va_s, true_and, and_true, Option.toList, List.nil_append, List.cons_append, List.take, List.drop, List.reverse, List.reverseAux, List.length_cons, List.length_nil, reduceCtorEq, false_implies, true_implies, forall_const, not_true_eq_false, not_false_eq_true, ite_true, ite_false, Bool.false_eq_true, I_I, J_J, Nat.add_left_cancel_iff, Nat.reduceEqDiff, Nat.add_eq_left, Nat.left_eq_add, false_and, and_false, Nat.reduceSub, Nat.sub_self, Nat.le_refl, Nat.zero_le, ge_iff_le, Nat.reduceAdd, Nat.reduceLeDiff, Nat.zero_add, Nat.reduceLT, z_lt, z_le, z_eq, z_l0, z_g0, z_le0, z_ge0, z_e0, z_e1, z_vp, z_nc, z_rem, z_div, i_ltT, i_ltF, i_leT, i_leF, i_eqT, i_eqF, n_ltT, n_ltF, n_leT, n_leF, n_eqT, n_eqF, tn_9, tn_12, tn_14, tn_20, tn_28, tn_44, tn_52, tn_68, tn_84, tn_100, tn_116, tn_132, fu_e, up_eq, ob_0, ob_b, oi_add, oi_sub, oi_mul, oi_neg, Int.add_zero, Int.zero_add, or_true, true_or, or_false, false_or, and_self, z_i2l, z_l2i, lo_nat, lo_add, lo_sub, lo_mul, lo_0, e_rem]
              exact h248
        have hTal : ∀ k, k < 3 → TI (up (a_tal A k) (52 + wh) 0) := fun k hk => (hI.tal hk).lev ⟨by omega, by omega⟩ (by omega)
        have hMal : ∀ k, k < 3 → M0 (up (a_tal A k) (52 + wh) 0) := fun k hk i hi => by
          rw [up_eq, if_neg (by omega), tal_s _ _ _ hk (by omega)]; exact hM i hi
        have h301 : ∀ k, k < 3 → a_lev (n + 1) A wh c l = a_lev n (up (a_tal A k) (52 + wh) 0) (wh + 1) (Int32.ofInt 0) l → ∀ w2 v4 v5, OW w2 b o P (up (up (up B 1010 0) (52 + wh) 0) (12 + (2 + k)) (B (12 + (2 + k)) + 1)) → FO b w w2 → RT n_X10_goOn 301 [.ref o, .int x1, .int x2, .int (Int32.ofInt wh), v4, v5] [] w2 (1, 4, false) Q := by
          intro k hk he w2 v4 v5 k1 k2
          refine hN _ (Int32.ofInt 0) l w2 _ _ _ he (hTal k hk) ?_ ?_ (hMal k hk) (rl_tal hR hk (by omega)) ?_ ?_ ?_ ?_ ?_ k1 k2
          · rw [up_eq, if_neg (by omega), tal_s _ _ _ hk (by omega)]
          · rw [up_eq, if_neg (by omega), tal_s _ _ _ hk (by omega)]
          · intro j hj; rw [up_eq, if_neg (by omega), up_eq, if_neg (by omega), up_eq, if_neg (by omega)]
          · rw [up_eq, if_neg (by omega), up_eq, if_neg (by omega), up_eq, if_neg (by omega)]
          · rw [up_eq, if_neg (by omega), up_eq, if_neg (by omega), up_eq, if_neg (by omega)]
          · rw [up_eq, if_neg (by omega), up_eq, if_neg (by omega), up_eq, if_pos rfl]
          · rw [up_eq, if_neg (by omega), up_eq, if_neg (by omega), up_eq, if_neg (by omega)]; exact hl
        refine rt_X10_goOn_171 ?_
        simp (disch := omega) only [wp_c, wp_n, jj_n, v_ct, Int.reduceToNat, Int.toNat_natCast, stE, wlE, lgt, lpu, lpw, v_c2, va_s, true_and, and_true, Option.toList, List.nil_append, List.cons_append, List.take, List.drop, List.reverse, List.reverseAux, List.length_cons, List.length_nil, reduceCtorEq, false_implies, true_implies, forall_const, not_true_eq_false, not_false_eq_true, ite_true, ite_false, Bool.false_eq_true, I_I, J_J, Nat.add_left_cancel_iff, Nat.reduceEqDiff, Nat.add_eq_left, Nat.left_eq_add, false_and, and_false, Nat.reduceSub, Nat.sub_self, Nat.le_refl, Nat.zero_le, ge_iff_le, Nat.reduceAdd, Nat.reduceLeDiff, Nat.zero_add, Nat.reduceLT, z_lt, z_le, z_eq, z_l0, z_g0, z_le0, z_ge0, z_e0, z_e1, z_vp, z_nc, z_rem, z_div, i_ltT, i_ltF, i_leT, i_leF, i_eqT, i_eqF, n_ltT, n_ltF, n_leT, n_leF, n_eqT, n_eqF, tn_9, tn_12, tn_14, tn_20, tn_28, tn_44, tn_52, tn_68, tn_84, tn_100, tn_116, tn_132, fu_e, up_eq, ob_0, ob_b, oi_add, oi_sub, oi_mul, oi_neg, Int.add_zero, Int.zero_add, or_true, true_or, or_false, false_or, and_self, z_i2l, z_l2i, lo_nat, lo_add, lo_sub, lo_mul, lo_0, e_rem, hV, hFF, hE, hs.2.1]
        by_cases t0 : (wh : Int) = A 1 - 1
        · simp (disch := omega) only [wp_c, wp_n, jj_n, v_ct, Int.reduceToNat, Int.toNat_natCast, stE, wlE, lgt, lpu, lpw, v_c2, va_s, true_and, and_true, Option.toList, List.nil_append, List.cons_append, List.take, List.drop, List.reverse, List.reverseAux, List.length_cons, List.length_nil, reduceCtorEq, false_implies, true_implies, forall_const, not_true_eq_false, not_false_eq_true, ite_true, ite_false, Bool.false_eq_true, I_I, J_J, Nat.add_left_cancel_iff, Nat.reduceEqDiff, Nat.add_eq_left, Nat.left_eq_add, false_and, and_false, Nat.reduceSub, Nat.sub_self, Nat.le_refl, Nat.zero_le, ge_iff_le, Nat.reduceAdd, Nat.reduceLeDiff, Nat.zero_add, Nat.reduceLT, z_lt, z_le, z_eq, z_l0, z_g0, z_le0, z_ge0, z_e0, z_e1, z_vp, z_nc, z_rem, z_div, i_ltT, i_ltF, i_leT, i_leF, i_eqT, i_eqF, n_ltT, n_ltF, n_leT, n_leF, n_eqT, n_eqF, tn_9, tn_12, tn_14, tn_20, tn_28, tn_44, tn_52, tn_68, tn_84, tn_100, tn_116, tn_132, fu_e, up_eq, ob_0, ob_b, oi_add, oi_sub, oi_mul, oi_neg, Int.add_zero, Int.zero_add, or_true, true_or, or_false, false_or, and_self, z_i2l, z_l2i, lo_nat, lo_add, lo_sub, lo_mul, lo_0, e_rem]
          refine h213 0 (by omega) ⟨fun _ => t0, fun _ => rfl⟩ ⟨fun q => absurd q (by omega), fun q => absurd t0 q.1⟩ fun w2 k1 k2 => ⟨fun _ => h301 0 (by omega) ?_ w2 _ _ k1 k2, fun q => absurd q (by omega)⟩
          rw [a_lev, if_neg hz, if_pos t0]
        · simp (disch := omega) only [wp_c, wp_n, jj_n, v_ct, Int.reduceToNat, Int.toNat_natCast, stE, wlE, lgt, lpu, lpw, v_c2, va_s, true_and, and_true, Option.toList, List.nil_append, List.cons_append, List.take, List.drop, List.reverse, List.reverseAux, List.length_cons, List.length_nil, reduceCtorEq, false_implies, true_implies, forall_const, not_true_eq_false, not_false_eq_true, ite_true, ite_false, Bool.false_eq_true, I_I, J_J, Nat.add_left_cancel_iff, Nat.reduceEqDiff, Nat.add_eq_left, Nat.left_eq_add, false_and, and_false, Nat.reduceSub, Nat.sub_self, Nat.le_refl, Nat.zero_le, ge_iff_le, Nat.reduceAdd, Nat.reduceLeDiff, Nat.zero_add, Nat.reduceLT, z_lt, z_le, z_eq, z_l0, z_g0, z_le0, z_ge0, z_e0, z_e1, z_vp, z_nc, z_rem, z_div, i_ltT, i_ltF, i_leT, i_leF, i_eqT, i_eqF, n_ltT, n_ltF, n_leT, n_leF, n_eqT, n_eqF, tn_9, tn_12, tn_14, tn_20, tn_28, tn_44, tn_52, tn_68, tn_84, tn_100, tn_116, tn_132, fu_e, up_eq, ob_0, ob_b, oi_add, oi_sub, oi_mul, oi_neg, Int.add_zero, Int.zero_add, or_true, true_or, or_false, false_or, and_self, z_i2l, z_l2i, lo_nat, lo_add, lo_sub, lo_mul, lo_0, e_rem]
          by_cases hls : A (68 + wh) % 2 = 1 ∨ A 4 + A 0 - 1 + A 3 < wh + 1
          · rw [if_pos hls] at hlost
            subst hlost
            simp (disch := omega) only [wp_c, wp_n, jj_n, v_ct, Int.reduceToNat, Int.toNat_natCast, stE, wlE, lgt, lpu, lpw, v_c2, va_s, true_and, and_true, Option.toList, List.nil_append, List.cons_append, List.take, List.drop, List.reverse, List.reverseAux, List.length_cons, List.length_nil, reduceCtorEq, false_implies, true_implies, forall_const, not_true_eq_false, not_false_eq_true, ite_true, ite_false, Bool.false_eq_true, I_I, J_J, Nat.add_left_cancel_iff, Nat.reduceEqDiff, Nat.add_eq_left, Nat.left_eq_add, false_and, and_false, Nat.reduceSub, Nat.sub_self, Nat.le_refl, Nat.zero_le, ge_iff_le, Nat.reduceAdd, Nat.reduceLeDiff, Nat.zero_add, Nat.reduceLT, z_lt, z_le, z_eq, z_l0, z_g0, z_le0, z_ge0, z_e0, z_e1, z_vp, z_nc, z_rem, z_div, i_ltT, i_ltF, i_leT, i_leF, i_eqT, i_eqF, n_ltT, n_ltF, n_leT, n_leF, n_eqT, n_eqF, tn_9, tn_12, tn_14, tn_20, tn_28, tn_44, tn_52, tn_68, tn_84, tn_100, tn_116, tn_132, fu_e, up_eq, ob_0, ob_b, oi_add, oi_sub, oi_mul, oi_neg, Int.add_zero, Int.zero_add, or_true, true_or, or_false, false_or, and_self, z_i2l, z_l2i, lo_nat, lo_add, lo_sub, lo_mul, lo_0, e_rem]
            refine h213 2 (by omega) ⟨fun q => absurd q (by omega), fun q => absurd q t0⟩ ⟨fun _ => ⟨t0, rfl⟩, fun _ => rfl⟩ fun w2 k1 k2 => ⟨fun _ => h301 2 (by omega) ?_ w2 _ _ k1 k2, fun q => absurd q (by omega)⟩
            rw [a_lev, if_neg hz, if_neg t0, if_pos hls]
          · rw [if_neg hls] at hlost
            subst hlost
            have e681 := hR.flt (j := wh + 1) (by omega)
            have h681 := hI.2.2.2.2.2.2 (wh + 1) (by omega)
            have hc1 : ((wh : Int) + 1) = ((wh + 1 : Nat) : Int) := by omega
            simp (disch := omega) only [wp_c, wp_n, jj_n, v_ct, Int.reduceToNat, Int.toNat_natCast, stE, wlE, lgt, lpu, lpw, v_c2, va_s, true_and, and_true, Option.toList, List.nil_append, List.cons_append, List.take, List.drop, List.reverse, List.reverseAux, List.length_cons, List.length_nil, reduceCtorEq, false_implies, true_implies, forall_const, not_true_eq_false, not_false_eq_true, ite_true, ite_false, Bool.false_eq_true, I_I, J_J, Nat.add_left_cancel_iff, Nat.reduceEqDiff, Nat.add_eq_left, Nat.left_eq_add, false_and, and_false, Nat.reduceSub, Nat.sub_self, Nat.le_refl, Nat.zero_le, ge_iff_le, Nat.reduceAdd, Nat.reduceLeDiff, Nat.zero_add, Nat.reduceLT, z_lt, z_le, z_eq, z_l0, z_g0, z_le0, z_ge0, z_e0, z_e1, z_vp, z_nc, z_rem, z_div, i_ltT, i_ltF, i_leT, i_leF, i_eqT, i_eqF, n_ltT, n_ltF, n_leT, n_leF, n_eqT, n_eqF, tn_9, tn_12, tn_14, tn_20, tn_28, tn_44, tn_52, tn_68, tn_84, tn_100, tn_116, tn_132, fu_e, up_eq, ob_0, ob_b, oi_add, oi_sub, oi_mul, oi_neg, Int.add_zero, Int.zero_add, or_true, true_or, or_false, false_or, and_self, z_i2l, z_l2i, lo_nat, lo_add, lo_sub, lo_mul, lo_0, e_rem, hc1, hV, hE, hFF, e681]
            by_cases hst : 2 ≤ A (68 + (wh + 1))
            · simp (disch := omega) only [wp_c, wp_n, jj_n, v_ct, Int.reduceToNat, Int.toNat_natCast, stE, wlE, lgt, lpu, lpw, v_c2, va_s, true_and, and_true, Option.toList, List.nil_append, List.cons_append, List.take, List.drop, List.reverse, List.reverseAux, List.length_cons, List.length_nil, reduceCtorEq, false_implies, true_implies, forall_const, not_true_eq_false, not_false_eq_true, ite_true, ite_false, Bool.false_eq_true, I_I, J_J, Nat.add_left_cancel_iff, Nat.reduceEqDiff, Nat.add_eq_left, Nat.left_eq_add, false_and, and_false, Nat.reduceSub, Nat.sub_self, Nat.le_refl, Nat.zero_le, ge_iff_le, Nat.reduceAdd, Nat.reduceLeDiff, Nat.zero_add, Nat.reduceLT, z_lt, z_le, z_eq, z_l0, z_g0, z_le0, z_ge0, z_e0, z_e1, z_vp, z_nc, z_rem, z_div, i_ltT, i_ltF, i_leT, i_leF, i_eqT, i_eqF, n_ltT, n_ltF, n_leT, n_leF, n_eqT, n_eqF, tn_9, tn_12, tn_14, tn_20, tn_28, tn_44, tn_52, tn_68, tn_84, tn_100, tn_116, tn_132, fu_e, up_eq, ob_0, ob_b, oi_add, oi_sub, oi_mul, oi_neg, Int.add_zero, Int.zero_add, or_true, true_or, or_false, false_or, and_self, z_i2l, z_l2i, lo_nat, lo_add, lo_sub, lo_mul, lo_0, e_rem, mh_X10_goOn, hFF, hV, hE]
              have hO4 := hO1.srun (v := B 1010)
              refine z_jam hO4 fun w2 k1 k2 => ?_
              simp (disch := omega) only [wp_c, wp_n, jj_n, v_ct, Int.reduceToNat, Int.toNat_natCast, stE, wlE, lgt, lpu, lpw, v_c2, va_s, true_and, and_true, Option.toList, List.nil_append, List.cons_append, List.take, List.drop, List.reverse, List.reverseAux, List.length_cons, List.length_nil, reduceCtorEq, false_implies, true_implies, forall_const, not_true_eq_false, not_false_eq_true, ite_true, ite_false, Bool.false_eq_true, I_I, J_J, Nat.add_left_cancel_iff, Nat.reduceEqDiff, Nat.add_eq_left, Nat.left_eq_add, false_and, and_false, Nat.reduceSub, Nat.sub_self, Nat.le_refl, Nat.zero_le, ge_iff_le, Nat.reduceAdd, Nat.reduceLeDiff, Nat.zero_add, Nat.reduceLT, z_lt, z_le, z_eq, z_l0, z_g0, z_le0, z_ge0, z_e0, z_e1, z_vp, z_nc, z_rem, z_div, i_ltT, i_ltF, i_leT, i_leF, i_eqT, i_eqF, n_ltT, n_ltF, n_leT, n_leF, n_eqT, n_eqF, tn_9, tn_12, tn_14, tn_20, tn_28, tn_44, tn_52, tn_68, tn_84, tn_100, tn_116, tn_132, fu_e, up_eq, ob_0, ob_b, oi_add, oi_sub, oi_mul, oi_neg, Int.add_zero, Int.zero_add, or_true, true_or, or_false, false_or, and_self, z_i2l, z_l2i, lo_nat, lo_add, lo_sub, lo_mul, lo_0, e_rem, mr_X10_goOn]
              rw [a_lev, if_neg hz, if_neg t0, if_neg hls, if_pos hst] at hq
              have := hq w2 _ ?_ ?_ ?_ ?_ k1 ((hF1.I hge.1).trans k2)
              · simp only at this
                have := this ?_ ?_
                · simpa using this
                · rw [up_eq, if_neg (by omega), up_eq, if_neg (by omega), up_eq, if_pos rfl]
                · rw [up_eq, if_neg (by omega), up_eq, if_pos rfl]
              · refine ⟨fun j hj => ?_, fun i hi => ?_⟩
                · show _ = up A 17 (A 17 + 1) j
                  simp only [up_eq]
                  have := hR.1 j hj
                  have e17 : B 17 = A 17 := hR.cts (j := 5) (by omega)
                  unfold RK at hj
                  repeat' split
                  all_goals first | omega | exact this
                · show _ = mvd (up A 17 (A 17 + 1) (84 + i))
                  simp only [up_eq]
                  rw [if_neg (by omega), if_neg (by omega), if_neg (by omega), if_neg (by omega), if_neg (by omega), if_neg (by omega)]; exact hR.2 i hi
              · intro j hj
                simp only [up_eq]
                rw [if_neg (by omega), if_neg (by omega), if_neg (by omega), if_neg (by omega), if_neg (by omega)]
              · intro i hi
                show 0 ≤ up A 17 (A 17 + 1) (84 + i)
                rw [up_eq, if_neg (by omega)]; exact hM i hi
              · simp only [up_eq]
                rw [if_neg (by omega), if_neg (by omega), if_neg (by omega), if_neg (by omega), if_neg (by omega)]; exact hl
            · simp (disch := omega) only [wp_c, wp_n, jj_n, v_ct, Int.reduceToNat, Int.toNat_natCast, stE, wlE, lgt, lpu, lpw, v_c2, va_s, true_and, and_true, Option.toList, List.nil_append, List.cons_append, List.take, List.drop, List.reverse, List.reverseAux, List.length_cons, List.length_nil, reduceCtorEq, false_implies, true_implies, forall_const, not_true_eq_false, not_false_eq_true, ite_true, ite_false, Bool.false_eq_true, I_I, J_J, Nat.add_left_cancel_iff, Nat.reduceEqDiff, Nat.add_eq_left, Nat.left_eq_add, false_and, and_false, Nat.reduceSub, Nat.sub_self, Nat.le_refl, Nat.zero_le, ge_iff_le, Nat.reduceAdd, Nat.reduceLeDiff, Nat.zero_add, Nat.reduceLT, z_lt, z_le, z_eq, z_l0, z_g0, z_le0, z_ge0, z_e0, z_e1, z_vp, z_nc, z_rem, z_div, i_ltT, i_ltF, i_leT, i_leF, i_eqT, i_eqF, n_ltT, n_ltF, n_leT, n_leF, n_eqT, n_eqF, tn_9, tn_12, tn_14, tn_20, tn_28, tn_44, tn_52, tn_68, tn_84, tn_100, tn_116, tn_132, fu_e, up_eq, ob_0, ob_b, oi_add, oi_sub, oi_mul, oi_neg, Int.add_zero, Int.zero_add, or_true, true_or, or_false, false_or, and_self, z_i2l, z_l2i, lo_nat, lo_add, lo_sub, lo_mul, lo_0, e_rem]
              refine h213 1 (by omega) ⟨fun q => absurd q (by omega), fun q => absurd q t0⟩ ⟨fun q => absurd q (by omega), fun q => absurd q.2 (by omega)⟩ fun w2 k1 k2 => ⟨fun q => absurd q (by omega), fun _ => ?_⟩
              have r1 := rl_tal (k := 1) (wh := wh) hR (by omega) (by omega)
              have hd1 := (hTal 1 (by omega)).2.2.2.1 (wh + 1) (by omega)
              have hb7 : up (up (up B 1010 0) (52 + wh) 0) (12 + (2 + 1)) (B (12 + (2 + 1)) + 1) 7 = A 7 := by rw [up_eq, if_neg (by omega), up_eq, if_neg (by omega), up_eq, if_neg (by omega)]; exact h7
              have ha7 : up (a_tal A 1) (52 + wh) 0 7 = A 7 := by rw [up_eq, if_neg (by omega), tal_s _ _ _ (by omega) (by omega)]
              have hV2 := k1.V
              have hFF2 := k1.F
              refine rt_X10_goOn_271 ?_
              simp (disch := omega) only [wp_c, wp_n, jj_n, v_ct, Int.reduceToNat, Int.toNat_natCast, stE, wlE, lgt, lpu, lpw, v_c2, va_s, true_and, and_true, Option.toList, List.nil_append, List.cons_append, List.take, List.drop, List.reverse, List.reverseAux, List.length_cons, List.length_nil, reduceCtorEq, false_implies, true_implies, forall_const, not_true_eq_false, not_false_eq_true, ite_true, ite_false, Bool.false_eq_true, I_I, J_J, Nat.add_left_cancel_iff, Nat.reduceEqDiff, Nat.add_eq_left, Nat.left_eq_add, false_and, and_false, Nat.reduceSub, Nat.sub_self, Nat.le_refl, Nat.zero_le, ge_iff_le, Nat.reduceAdd, Nat.reduceLeDiff, Nat.zero_add, Nat.reduceLT, z_lt, z_le, z_eq, z_l0, z_g0, z_le0, z_ge0, z_e0, z_e1, z_vp, z_nc, z_rem, z_div, i_ltT, i_ltF, i_leT, i_leF, i_eqT, i_eqF, n_ltT, n_ltF, n_leT, n_leF, n_eqT, n_eqF, tn_9, tn_12, tn_14, tn_20, tn_28, tn_44, tn_52, tn_68, tn_84, tn_100, tn_116, tn_132, fu_e, up_eq, ob_0, ob_b, oi_add, oi_sub, oi_mul, oi_neg, Int.add_zero, Int.zero_add, or_true, true_or, or_false, false_or, and_self, z_i2l, z_l2i, lo_nat, lo_add, lo_sub, lo_mul, lo_0, e_rem, hV2.1, hFF2, hc1, mh_X10_goOn]
              refine z_move k1 (by omega) (by rw [hb7]; exact hI.2.1) (by rw [r1.dig (by omega)]; exact hd1) fun w3 m1 m2 => ?_
              have r2 := rl_mv (m := 0) (j := wh + 1) (by rw [mv_0 hd1]; exact r1) (by rw [hb7, ha7]) (by rw [ha7]; exact hI.2.1) (by omega) (by omega) hd1 (hMal 1 (by omega) (wh + 1) (by omega))
              rw [show (0 : Int) + 1 = 1 from rfl, tal_mv A wh (by omega)] at r2
              generalize hB3 : o_mv (up (up (up B 1010 0) (52 + wh) 0) (12 + (2 + 1)) (B (12 + (2 + 1)) + 1)) (wh + 1) = B3 at m1 r2
              have z : ∀ k, (k < 12 ∨ (16 ≤ k ∧ k < 28) ∨ (116 ≤ k ∧ ¬ k = 1010)) → B3 k = B k := by
                intro k hk
                rw [← hB3, omv_o (by omega) (by omega), up_eq, if_neg (by omega), up_eq, if_neg (by omega), up_eq, if_neg (by omega)]
              have zK : KW B B3 := by
                intro k hk
                by_cases q : 68 ≤ k ∧ k < 84
                · rw [← hB3, omv_KW (by omega) k (by omega), up_eq, if_neg (by omega), up_eq, if_neg (by omega), up_eq, if_neg (by omega)]
                · exact z k (by omega)
              have m3 := m1.srun (v := B 1010 + 1)
              have hV3 := m3.V
              have hFF3 := m3.F
              have g1009 : up B3 1010 (B 1010 + 1) 1009 = B 1009 := by rw [up_eq, if_neg (by omega), z 1009 (by omega)]
              have g1010 : up B3 1010 (B 1010 + 1) 1010 = B 1010 + 1 := by rw [up_eq, if_pos rfl]
              have v9 : w_I w3 o 9 = Int32.ofInt (B 1009) := by rw [m1.V.1.2.2.2.2.2.2.2.2.2.1, z 1009 (by omega)]
              simp (disch := omega) only [wp_c, wp_n, jj_n, v_ct, Int.reduceToNat, Int.toNat_natCast, stE, wlE, lgt, lpu, lpw, v_c2, va_s, true_and, and_true, Option.toList, List.nil_append, List.cons_append, List.take, List.drop, List.reverse, List.reverseAux, List.length_cons, List.length_nil, reduceCtorEq, false_implies, true_implies, forall_const, not_true_eq_false, not_false_eq_true, ite_true, ite_false, Bool.false_eq_true, I_I, J_J, Nat.add_left_cancel_iff, Nat.reduceEqDiff, Nat.add_eq_left, Nat.left_eq_add, false_and, and_false, Nat.reduceSub, Nat.sub_self, Nat.le_refl, Nat.zero_le, ge_iff_le, Nat.reduceAdd, Nat.reduceLeDiff, Nat.zero_add, Nat.reduceLT, z_lt, z_le, z_eq, z_l0, z_g0, z_le0, z_ge0, z_e0, z_e1, z_vp, z_nc, z_rem, z_div, i_ltT, i_ltF, i_leT, i_leF, i_eqT, i_eqF, n_ltT, n_ltF, n_leT, n_leF, n_eqT, n_eqF, tn_9, tn_12, tn_14, tn_20, tn_28, tn_44, tn_52, tn_68, tn_84, tn_100, tn_116, tn_132, fu_e, up_eq, ob_0, ob_b, oi_add, oi_sub, oi_mul, oi_neg, Int.add_zero, Int.zero_add, or_true, true_or, or_false, false_or, and_self, z_i2l, z_l2i, lo_nat, lo_add, lo_sub, lo_mul, lo_0, e_rem, m1.F, v9, mh_X10_goOn]
              refine c_max32 ?_
              generalize hr0 : (if Int32.ofInt (B 1010 + 1) ≤ Int32.ofInt (B 1009) then Int32.ofInt (B 1009) else Int32.ofInt (B 1010 + 1)) = r0
              obtain ⟨rv, hrv⟩ : ∃ rv : Int, r0 = Int32.ofInt rv := ⟨r0.toInt, (Int32.ofInt_toInt r0).symm⟩
              have hrl : r0 = (if l < c + Int32.ofInt 1 then c + Int32.ofInt 1 else l) := by
                rw [← hr0, ← hc, ← hl, oi_add]
                by_cases q : Int32.ofInt (B 1010 + 1) ≤ Int32.ofInt (B 1009)
                · rw [if_pos q, if_neg (Int32.not_lt.mpr q)]
                · rw [if_neg q, if_pos (Int32.not_le.mp q)]
              rw [hrv]
              simp (disch := omega) only [wp_c, wp_n, jj_n, v_ct, Int.reduceToNat, Int.toNat_natCast, stE, wlE, lgt, lpu, lpw, v_c2, va_s, true_and, and_true, Option.toList, List.nil_append, List.cons_append, List.take, List.drop, List.reverse, List.reverseAux, List.length_cons, List.length_nil, reduceCtorEq, false_implies, true_implies, forall_const, not_true_eq_false, not_false_eq_true, ite_true, ite_false, Bool.false_eq_true, I_I, J_J, Nat.add_left_cancel_iff, Nat.reduceEqDiff, Nat.add_eq_left, Nat.left_eq_add, false_and, and_false, Nat.reduceSub, Nat.sub_self, Nat.le_refl, Nat.zero_le, ge_iff_le, Nat.reduceAdd, Nat.reduceLeDiff, Nat.zero_add, Nat.reduceLT, z_lt, z_le, z_eq, z_l0, z_g0, z_le0, z_ge0, z_e0, z_e1, z_vp, z_nc, z_rem, z_div, i_ltT, i_ltF, i_leT, i_leF, i_eqT, i_eqF, n_ltT, n_ltF, n_leT, n_leF, n_eqT, n_eqF, tn_9, tn_12, tn_14, tn_20, tn_28, tn_44, tn_52, tn_68, tn_84, tn_100, tn_116, tn_132, fu_e, up_eq, ob_0, ob_b, oi_add, oi_sub, oi_mul, oi_neg, Int.add_zero, Int.zero_add, or_true, true_or, or_false, false_or, and_self, z_i2l, z_l2i, lo_nat, lo_add, lo_sub, lo_mul, lo_0, e_rem, m1.F]
              have m4 := m3.slong (v := rv)
              refine hN (up (a_tal (a_mv A (wh + 1) 1) 1) (52 + wh) 0) (c + Int32.ofInt 1) (if l < c + Int32.ofInt 1 then c + Int32.ofInt 1 else l) _ _ _ _ ?_ ?_ ?_ ?_ ?_ ?_ ?_ ?_ ?_ ?_ ?_ m4 ((k2.trans m2).I hge.1 |>.I hge.1)
              · rw [a_lev, if_neg hz, if_neg t0, if_neg hls, if_neg hst]
              · exact ((hI.mv (by omega) ⟨by omega, by omega⟩).tal (by omega)).lev ⟨by omega, by omega⟩ (by omega)
              · rw [up_eq, if_neg (by omega), tal_s _ _ _ (by omega) (by omega), mv_s _ _ _ _ (by omega) (by omega)]
              · rw [up_eq, if_neg (by omega), tal_s _ _ _ (by omega) (by omega), mv_s _ _ _ _ (by omega) (by omega)]
              · intro i hi
                rw [up_eq, if_neg (by omega), tal_s _ _ _ (by omega) (by omega)]
                exact hM.mv (by omega) (by omega) i hi
              · refine ⟨fun j hj => ?_, fun i hi => ?_⟩
                · have : j < 1000 := by unfold RK at hj; omega
                  rw [up_eq, if_neg (by omega), up_eq, if_neg (by omega)]; exact r2.1 j hj
                · rw [up_eq, if_neg (by omega), up_eq, if_neg (by omega)]; exact r2.2 i hi
              · intro j hj
                rw [up_eq, if_neg (by omega), up_eq, if_neg (by omega)]; exact zK j hj
              · rw [up_eq, if_neg (by omega), up_eq, if_neg (by omega)]; exact z 5 (by omega)
              · rw [up_eq, if_neg (by omega), up_eq, if_neg (by omega)]; exact z 6 (by omega)
              · rw [up_eq, if_neg (by omega), g1010, ← hc, oi_add]
              · rw [up_eq, if_pos rfl, ← hrl, hrv]
      -- is it lost?
      have hV1 := hO1.V
      have hFF1 := hO1.F
      have f1 : ∀ i, ¬ i = 1010 → up B 1010 0 i = B i := fun i hi => by rw [up_eq, if_neg hi]
      have f10 := f1 0 (by omega)
      have f13 := f1 3 (by omega)
      have f14 := f1 4 (by omega)
      refine rt_X10_goOn_132 ?_
      simp (disch := omega) only [wp_c, wp_n, jj_n, v_ct, Int.reduceToNat, Int.toNat_natCast, stE, wlE, lgt, lpu, lpw, v_c2, va_s, true_and, and_true, Option.toList, List.nil_append, List.cons_append, List.take, List.drop, List.reverse, List.reverseAux, List.length_cons, List.length_nil, reduceCtorEq, false_implies, true_implies, forall_const, not_true_eq_false, not_false_eq_true, ite_true, ite_false, Bool.false_eq_true, I_I, J_J, Nat.add_left_cancel_iff, Nat.reduceEqDiff, Nat.add_eq_left, Nat.left_eq_add, false_and, and_false, Nat.reduceSub, Nat.sub_self, Nat.le_refl, Nat.zero_le, ge_iff_le, Nat.reduceAdd, Nat.reduceLeDiff, Nat.zero_add, Nat.reduceLT, z_lt, z_le, z_eq, z_l0, z_g0, z_le0, z_ge0, z_e0, z_e1, z_vp, z_nc, z_rem, z_div, i_ltT, i_ltF, i_leT, i_leF, i_eqT, i_eqF, n_ltT, n_ltF, n_leT, n_leF, n_eqT, n_eqF, tn_9, tn_12, tn_14, tn_20, tn_28, tn_44, tn_52, tn_68, tn_84, tn_100, tn_116, tn_132, fu_e, up_eq, ob_0, ob_b, oi_add, oi_sub, oi_mul, oi_neg, Int.add_zero, Int.zero_add, or_true, true_or, or_false, false_or, and_self, z_i2l, z_l2i, lo_nat, lo_add, lo_sub, lo_mul, lo_0, e_rem, hFF, hV, hE, e68, and_1 _ h68, hs.1, hs.2.2.2.1, hs.2.2.2.2]
      by_cases ha : A (68 + wh) % 2 = 1
      · simp (disch := omega) only [wp_c, wp_n, jj_n, v_ct, Int.reduceToNat, Int.toNat_natCast, stE, wlE, lgt, lpu, lpw, v_c2, va_s, true_and, and_true, Option.toList, List.nil_append, List.cons_append, List.take, List.drop, List.reverse, List.reverseAux, List.length_cons, List.length_nil, reduceCtorEq, false_implies, true_implies, forall_const, not_true_eq_false, not_false_eq_true, ite_true, ite_false, Bool.false_eq_true, I_I, J_J, Nat.add_left_cancel_iff, Nat.reduceEqDiff, Nat.add_eq_left, Nat.left_eq_add, false_and, and_false, Nat.reduceSub, Nat.sub_self, Nat.le_refl, Nat.zero_le, ge_iff_le, Nat.reduceAdd, Nat.reduceLeDiff, Nat.zero_add, Nat.reduceLT, z_lt, z_le, z_eq, z_l0, z_g0, z_le0, z_ge0, z_e0, z_e1, z_vp, z_nc, z_rem, z_div, i_ltT, i_ltF, i_leT, i_leF, i_eqT, i_eqF, n_ltT, n_ltF, n_leT, n_leF, n_eqT, n_eqF, tn_9, tn_12, tn_14, tn_20, tn_28, tn_44, tn_52, tn_68, tn_84, tn_100, tn_116, tn_132, fu_e, up_eq, ob_0, ob_b, oi_add, oi_sub, oi_mul, oi_neg, Int.add_zero, Int.zero_add, or_true, true_or, or_false, false_or, and_self, z_i2l, z_l2i, lo_nat, lo_add, lo_sub, lo_mul, lo_0, e_rem]
        refine rt_X10_goOn_166 ?_
        simp (disch := omega) only [wp_c, wp_n, jj_n, v_ct, Int.reduceToNat, Int.toNat_natCast, stE, wlE, lgt, lpu, lpw, v_c2, va_s, true_and, and_true, Option.toList, List.nil_append, List.cons_append, List.take, List.drop, List.reverse, List.reverseAux, List.length_cons, List.length_nil, reduceCtorEq, false_implies, true_implies, forall_const, not_true_eq_false, not_false_eq_true, ite_true, ite_false, Bool.false_eq_true, I_I, J_J, Nat.add_left_cancel_iff, Nat.reduceEqDiff, Nat.add_eq_left, Nat.left_eq_add, false_and, and_false, Nat.reduceSub, Nat.sub_self, Nat.le_refl, Nat.zero_le, ge_iff_le, Nat.reduceAdd, Nat.reduceLeDiff, Nat.zero_add, Nat.reduceLT, z_lt, z_le, z_eq, z_l0, z_g0, z_le0, z_ge0, z_e0, z_e1, z_vp, z_nc, z_rem, z_div, i_ltT, i_ltF, i_leT, i_leF, i_eqT, i_eqF, n_ltT, n_ltF, n_leT, n_leF, n_eqT, n_eqF, tn_9, tn_12, tn_14, tn_20, tn_28, tn_44, tn_52, tn_68, tn_84, tn_100, tn_116, tn_132, fu_e, up_eq, ob_0, ob_b, oi_add, oi_sub, oi_mul, oi_neg, Int.add_zero, Int.zero_add, or_true, true_or, or_false, false_or, and_self, z_i2l, z_l2i, lo_nat, lo_add, lo_sub, lo_mul, lo_0, e_rem]
        exact h171 1 (by rw [if_pos (Or.inl ha)])
      · simp (disch := omega) only [wp_c, wp_n, jj_n, v_ct, Int.reduceToNat, Int.toNat_natCast, stE, wlE, lgt, lpu, lpw, v_c2, va_s, true_and, and_true, Option.toList, List.nil_append, List.cons_append, List.take, List.drop, List.reverse, List.reverseAux, List.length_cons, List.length_nil, reduceCtorEq, false_implies, true_implies, forall_const, not_true_eq_false, not_false_eq_true, ite_true, ite_false, Bool.false_eq_true, I_I, J_J, Nat.add_left_cancel_iff, Nat.reduceEqDiff, Nat.add_eq_left, Nat.left_eq_add, false_and, and_false, Nat.reduceSub, Nat.sub_self, Nat.le_refl, Nat.zero_le, ge_iff_le, Nat.reduceAdd, Nat.reduceLeDiff, Nat.zero_add, Nat.reduceLT, z_lt, z_le, z_eq, z_l0, z_g0, z_le0, z_ge0, z_e0, z_e1, z_vp, z_nc, z_rem, z_div, i_ltT, i_ltF, i_leT, i_leF, i_eqT, i_eqF, n_ltT, n_ltF, n_leT, n_leF, n_eqT, n_eqF, tn_9, tn_12, tn_14, tn_20, tn_28, tn_44, tn_52, tn_68, tn_84, tn_100, tn_116, tn_132, fu_e, up_eq, ob_0, ob_b, oi_add, oi_sub, oi_mul, oi_neg, Int.add_zero, Int.zero_add, or_true, true_or, or_false, false_or, and_self, z_i2l, z_l2i, lo_nat, lo_add, lo_sub, lo_mul, lo_0, e_rem]
        by_cases hb : A 4 + A 0 - 1 + A 3 < wh + 1
        · simp (disch := omega) only [wp_c, wp_n, jj_n, v_ct, Int.reduceToNat, Int.toNat_natCast, stE, wlE, lgt, lpu, lpw, v_c2, va_s, true_and, and_true, Option.toList, List.nil_append, List.cons_append, List.take, List.drop, List.reverse, List.reverseAux, List.length_cons, List.length_nil, reduceCtorEq, false_implies, true_implies, forall_const, not_true_eq_false, not_false_eq_true, ite_true, ite_false, Bool.false_eq_true, I_I, J_J, Nat.add_left_cancel_iff, Nat.reduceEqDiff, Nat.add_eq_left, Nat.left_eq_add, false_and, and_false, Nat.reduceSub, Nat.sub_self, Nat.le_refl, Nat.zero_le, ge_iff_le, Nat.reduceAdd, Nat.reduceLeDiff, Nat.zero_add, Nat.reduceLT, z_lt, z_le, z_eq, z_l0, z_g0, z_le0, z_ge0, z_e0, z_e1, z_vp, z_nc, z_rem, z_div, i_ltT, i_ltF, i_leT, i_leF, i_eqT, i_eqF, n_ltT, n_ltF, n_leT, n_leF, n_eqT, n_eqF, tn_9, tn_12, tn_14, tn_20, tn_28, tn_44, tn_52, tn_68, tn_84, tn_100, tn_116, tn_132, fu_e, up_eq, ob_0, ob_b, oi_add, oi_sub, oi_mul, oi_neg, Int.add_zero, Int.zero_add, or_true, true_or, or_false, false_or, and_self, z_i2l, z_l2i, lo_nat, lo_add, lo_sub, lo_mul, lo_0, e_rem]
          refine rt_X10_goOn_166 ?_
          simp (disch := omega) only [wp_c, wp_n, jj_n, v_ct, Int.reduceToNat, Int.toNat_natCast, stE, wlE, lgt, lpu, lpw, v_c2, va_s, true_and, and_true, Option.toList, List.nil_append, List.cons_append, List.take, List.drop, List.reverse, List.reverseAux, List.length_cons, List.length_nil, reduceCtorEq, false_implies, true_implies, forall_const, not_true_eq_false, not_false_eq_true, ite_true, ite_false, Bool.false_eq_true, I_I, J_J, Nat.add_left_cancel_iff, Nat.reduceEqDiff, Nat.add_eq_left, Nat.left_eq_add, false_and, and_false, Nat.reduceSub, Nat.sub_self, Nat.le_refl, Nat.zero_le, ge_iff_le, Nat.reduceAdd, Nat.reduceLeDiff, Nat.zero_add, Nat.reduceLT, z_lt, z_le, z_eq, z_l0, z_g0, z_le0, z_ge0, z_e0, z_e1, z_vp, z_nc, z_rem, z_div, i_ltT, i_ltF, i_leT, i_leF, i_eqT, i_eqF, n_ltT, n_ltF, n_leT, n_leF, n_eqT, n_eqF, tn_9, tn_12, tn_14, tn_20, tn_28, tn_44, tn_52, tn_68, tn_84, tn_100, tn_116, tn_132, fu_e, up_eq, ob_0, ob_b, oi_add, oi_sub, oi_mul, oi_neg, Int.add_zero, Int.zero_add, or_true, true_or, or_false, false_or, and_self, z_i2l, z_l2i, lo_nat, lo_add, lo_sub, lo_mul, lo_0, e_rem]
          exact h171 1 (by rw [if_pos (Or.inr hb)])
        · simp (disch := omega) only [wp_c, wp_n, jj_n, v_ct, Int.reduceToNat, Int.toNat_natCast, stE, wlE, lgt, lpu, lpw, v_c2, va_s, true_and, and_true, Option.toList, List.nil_append, List.cons_append, List.take, List.drop, List.reverse, List.reverseAux, List.length_cons, List.length_nil, reduceCtorEq, false_implies, true_implies, forall_const, not_true_eq_false, not_false_eq_true, ite_true, ite_false, Bool.false_eq_true, I_I, J_J, Nat.add_left_cancel_iff, Nat.reduceEqDiff, Nat.add_eq_left, Nat.left_eq_add, false_and, and_false, Nat.reduceSub, Nat.sub_self, Nat.le_refl, Nat.zero_le, ge_iff_le, Nat.reduceAdd, Nat.reduceLeDiff, Nat.zero_add, Nat.reduceLT, z_lt, z_le, z_eq, z_l0, z_g0, z_le0, z_ge0, z_e0, z_e1, z_vp, z_nc, z_rem, z_div, i_ltT, i_ltF, i_leT, i_leF, i_eqT, i_eqF, n_ltT, n_ltF, n_leT, n_leF, n_eqT, n_eqF, tn_9, tn_12, tn_14, tn_20, tn_28, tn_44, tn_52, tn_68, tn_84, tn_100, tn_116, tn_132, fu_e, up_eq, ob_0, ob_b, oi_add, oi_sub, oi_mul, oi_neg, Int.add_zero, Int.zero_add, or_true, true_or, or_false, false_or, and_self, z_i2l, z_l2i, lo_nat, lo_add, lo_sub, lo_mul, lo_0, e_rem]
          refine rt_X10_goOn_170 ?_
          simp (disch := omega) only [wp_c, wp_n, jj_n, v_ct, Int.reduceToNat, Int.toNat_natCast, stE, wlE, lgt, lpu, lpw, v_c2, va_s, true_and, and_true, Option.toList, List.nil_append, List.cons_append, List.take, List.drop, List.reverse, List.reverseAux, List.length_cons, List.length_nil, reduceCtorEq, false_implies, true_implies, forall_const, not_true_eq_false, not_false_eq_true, ite_true, ite_false, Bool.false_eq_true, I_I, J_J, Nat.add_left_cancel_iff, Nat.reduceEqDiff, Nat.add_eq_left, Nat.left_eq_add, false_and, and_false, Nat.reduceSub, Nat.sub_self, Nat.le_refl, Nat.zero_le, ge_iff_le, Nat.reduceAdd, Nat.reduceLeDiff, Nat.zero_add, Nat.reduceLT, z_lt, z_le, z_eq, z_l0, z_g0, z_le0, z_ge0, z_e0, z_e1, z_vp, z_nc, z_rem, z_div, i_ltT, i_ltF, i_leT, i_leF, i_eqT, i_eqF, n_ltT, n_ltF, n_leT, n_leF, n_eqT, n_eqF, tn_9, tn_12, tn_14, tn_20, tn_28, tn_44, tn_52, tn_68, tn_84, tn_100, tn_116, tn_132, fu_e, up_eq, ob_0, ob_b, oi_add, oi_sub, oi_mul, oi_neg, Int.add_zero, Int.zero_add, or_true, true_or, or_false, false_or, and_self, z_i2l, z_l2i, lo_nat, lo_add, lo_sub, lo_mul, lo_0, e_rem]
          exact h171 0 (by rw [if_neg (fun q => q.elim ha hb)])
