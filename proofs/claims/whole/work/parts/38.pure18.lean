/-! the law from its entry -/
theorem CS.gx {w w' : mW} {k : Nat} {A : Row} {Z : Zx} {Y : Yx} {X : Xx} {U : Ux} (h : CS w A Z Y X U) (g : GX 309 k w w') : CS w' A Z Y X U := by
  obtain ⟨⟨h1, h2, h3, h4, h5, h6, h7, h8, h9⟩, hm, hb, he, ⟨a0, a1, nx, a2, a3, a4⟩, hx, hu⟩ := h
  have s : ∀ a, a < 309 → w_sh w' a = w_sh w a := fun a ha => (g.2 a ha).1
  have r : ∀ a, a < 309 → w_R w' a = w_R w a := fun a ha => (g.2 a ha).2.1
  have i : ∀ a, a < 309 → w_I w' a = w_I w a := fun a ha => (g.2 a ha).2.2.1
  have mb : ∀ b, b + 12 ≤ 309 → Mb w b → Mb w' b := by
    intro b hb hM
    unfold Mb
    rw [s b (by omega), s (b + 1) (by omega), s (b + 2) (by omega), s (b + 3) (by omega), s (b + 4) (by omega), s (b + 5) (by omega), s (b + 6) (by omega), s (b + 7) (by omega), s (b + 8) (by omega), s (b + 9) (by omega), s (b + 10) (by omega), s (b + 11) (by omega), r b (by omega), r (b + 7) (by omega), r (b + 9) (by omega)]
    exact hM
  refine ⟨⟨?_, ⟨mb 101 (by omega) h2.1, mb 113 (by omega) h2.2.1, ?_, ?_, ?_, fun j hj => ⟨?_, mb _ (by omega) (h2.2.2.2.2.2 j hj).2⟩⟩, ⟨?_, ?_, fun j hj => ⟨?_, mb _ (by omega) (h3.2.2 j hj).2⟩⟩, ?_, ?_, ?_, ?_, ?_, ?_⟩, hm.gx g (by omega), ?_, ?_, ⟨a0, ?_, nx, a2, ?_, fun j hj => (a4 j hj).gx g (by omega)⟩, ⟨fun j hj => ?_, fun j hj hjx => (hx.2 j hj hjx).gx g (by omega)⟩, ⟨?_, hu.2.1, fun j hj => ?_⟩⟩
  · rw [s 100 (by omega), r 100 (by omega)]; exact h1
  · rw [s 125 (by omega)]; exact h2.2.2.1
  · rw [r 125 (by omega)]; exact h2.2.2.2.1
  · rw [s 126 (by omega)]; exact h2.2.2.2.2.1
  · rw [r 126 (by omega)]; exact (h2.2.2.2.2.2 j hj).1
  · rw [s 271 (by omega)]; exact h3.1
  · rw [s 272 (by omega)]; exact h3.2.1
  · rw [r 271 (by omega)]; exact (h3.2.2 j hj).1
  · unfold Mu; rw [s 273 (by omega), s (273 + 1) (by omega), r 273 (by omega)]; exact h4
  · rw [s 275 (by omega), r 275 (by omega), s 276 (by omega)]; exact h5
  · rw [s 277 (by omega), r 277 (by omega)]; exact h6
  · rw [s 278 (by omega), r 278 (by omega), s 279 (by omega)]; exact h7
  · rw [s 280 (by omega), r 280 (by omega), s 281 (by omega), s 282 (by omega), s 283 (by omega)]; exact h8
  · rw [s 284 (by omega)]; exact h9
  · unfold IB; rw [i 275 (by omega), i 276 (by omega)]; exact hb
  · unfold ER; rw [i 277 (by omega)]; exact he
  · rw [i 125 (by omega)]; exact a1
  · rw [i 125 (by omega)]; exact a3
  · rw [i 272 (by omega)]; exact hx.1 j hj
  · rw [i 100 (by omega)]; exact hu.1
  · rw [i 284 (by omega)]; exact hu.2.2 j hj
theorem RS.N {w : mW} {A : Row} {Z : Zx} {Y : Yx} {X : Xx} {U : Ux} {z : Nat × Nat} (h : RS w 309 A Z Y X U) (hn : 335 ≤ 100 + w_n w) : RS (s_N w z) 309 A Z Y X U := by
  obtain ⟨h1, h2, h3, h4, h5⟩ := h
  have s : ∀ a, a < 335 → w_sh (s_N w z) a = w_sh w a := fun a ha => by rw [N_sh, if_neg (by omega)]
  have r : ∀ a, a < 335 → w_R (s_N w z) a = w_R w a := fun a ha => by rw [N_Rc, if_neg (by omega)]
  have e : ∀ a, a < 335 → w_I (s_N w z) a = w_I w a := fun a ha => by rw [N_Ic, if_neg (by omega)]
  obtain ⟨⟨a0, a1⟩, ⟨a2, a3⟩, a4, a5, a6, a7⟩ := h5
  refine ⟨?_, fun k hk i hi => by rw [e _ (by omega)]; exact h2 k hk i hi, by rw [e _ (by omega)]; exact h3, by rw [e _ (by omega)]; exact h4, ⟨a0, fun i hi => by rw [e _ (by omega)]; exact a1 i hi⟩, ⟨fun i j hi hj => by rw [e _ (by omega)]; exact a2 i j hi hj, a3⟩, fun i hi => by rw [e _ (by omega)]; exact a4 i hi, fun i hi hx j hj => by rw [e _ (by omega)]; exact a5 i hi hx j hj, a6, fun i hi => by rw [e _ (by omega)]; exact a7 i hi⟩
  unfold Rb
  rw [r 309 (by omega)]
  obtain ⟨q, q'⟩ := h1
  refine ⟨?_, q'⟩
  rw [s 309 (by omega), s (309 + 1) (by omega), s (309 + 2) (by omega), s (309 + 3) (by omega), s (309 + 4) (by omega), s (309 + 5) (by omega), s (309 + 6) (by omega), s (309 + 7) (by omega), s (309 + 8) (by omega), s (309 + 9) (by omega), s (309 + 10) (by omega), s (309 + 11) (by omega), s (309 + 12) (by omega), s (309 + 13) (by omega), s (309 + 14) (by omega), s (309 + 15) (by omega), s (309 + 16) (by omega), s (309 + 17) (by omega), s (309 + 18) (by omega), s (309 + 19) (by omega), s (309 + 20) (by omega), s (309 + 21) (by omega), s (309 + 22) (by omega), s (309 + 23) (by omega), s (309 + 24) (by omega), s (309 + 25) (by omega)]
  exact q
theorem law_0 {n0 : Nat} {w : mW} {Q : mW → mO → Prop} (hn0 : w_n w = 0) (hs0 : w_sh w 0 = (50, n0)) (h3 : n0 ≤ 3072) (hq : ∀ w', Q w' (.inl (some (.int (Int32.ofInt 1))))) : RT n_L_law 0 [.ref 0, .null, .null, .null, .null, .null, .null, .null, .null] [] w (601024, 7293034, true) Q := by
  have m9 : (m_cl 9).2.2 = 12 := rfl
  have m10 : (m_cl 10).2.2 = 43 := rfl
  have y1 : (Int32.ofInt 1).toNatClampNeg = 1 := rfl
  refine rt_L_law_0 ?_
  rw [wp_c, wp_c, wp_c]
  simp (disch := omega) only [jj_n, Int.reduceToNat, Int.toNat_natCast, stE, wlE, lgt, lpu, lpw, v_c2, va_s, true_and, and_true, Option.toList, List.nil_append, List.cons_append, List.take, List.drop, List.reverse, List.reverseAux, List.length_cons, List.length_nil, reduceCtorEq, false_implies, true_implies, forall_const, not_true_eq_false, not_false_eq_true, ite_true, ite_false, Bool.false_eq_true, I_I, J_J, Nat.add_left_cancel_iff, Nat.reduceEqDiff, Nat.add_eq_left, Nat.left_eq_add, false_and, and_false, Nat.reduceSub, Nat.sub_self, Nat.le_refl, Nat.zero_le, ge_iff_le, Nat.reduceAdd, Nat.reduceLeDiff, Nat.zero_add, Nat.reduceLT, z_lt, z_le, z_eq, z_l0, z_g0, z_le0, z_ge0, z_e0, z_e1, z_vp, z_nc, z_rem, z_div, i_ltT, i_ltF, i_leT, i_leF, i_eqT, i_eqF, n_ltT, n_ltF, n_leT, n_leF, n_eqT, n_eqF, tn_9, tn_12, tn_14, tn_20, tn_28, tn_44, tn_52, tn_68, tn_84, tn_100, tn_116, tn_132, fu_e, up_eq, ob_0, ob_b, oi_add, oi_sub, oi_mul, oi_neg, rs_sh, rs_R, rs_N, rs_J, rs_F, rs_A, rs_o, rs_wA, rs_wF, rs_w, Int.add_zero, Int.zero_add, or_true, true_or, or_false, false_or, and_self, z_i2l, z_l2i, lo_nat, lo_add, lo_sub, lo_mul, lo_0, e_rem, mh_L_law, N_sh, N_n, hn0, m9]
  refine c_X9_init (by rw [N_n, hn0]) (by rw [N_sh, hn0]; rfl) (fun v h1 h2 => ?_)
  have vn : w_n v = 209 := by rw [h1.1, N_n, hn0]
  have vs : w_sh v 0 = (50, n0) := by rw [(h1.2 0 (by omega)).1, N_sh, if_neg (by omega)]; exact hs0
  rw [wp_c, wp_c, wp_c, wp_c]
  simp (disch := omega) only [jj_n, Int.reduceToNat, Int.toNat_natCast, stE, wlE, lgt, lpu, lpw, v_c2, va_s, true_and, and_true, Option.toList, List.nil_append, List.cons_append, List.take, List.drop, List.reverse, List.reverseAux, List.length_cons, List.length_nil, reduceCtorEq, false_implies, true_implies, forall_const, not_true_eq_false, not_false_eq_true, ite_true, ite_false, Bool.false_eq_true, I_I, J_J, Nat.add_left_cancel_iff, Nat.reduceEqDiff, Nat.add_eq_left, Nat.left_eq_add, false_and, and_false, Nat.reduceSub, Nat.sub_self, Nat.le_refl, Nat.zero_le, ge_iff_le, Nat.reduceAdd, Nat.reduceLeDiff, Nat.zero_add, Nat.reduceLT, z_lt, z_le, z_eq, z_l0, z_g0, z_le0, z_ge0, z_e0, z_e1, z_vp, z_nc, z_rem, z_div, i_ltT, i_ltF, i_leT, i_leF, i_eqT, i_eqF, n_ltT, n_ltF, n_leT, n_leF, n_eqT, n_eqF, tn_9, tn_12, tn_14, tn_20, tn_28, tn_44, tn_52, tn_68, tn_84, tn_100, tn_116, tn_132, fu_e, up_eq, ob_0, ob_b, oi_add, oi_sub, oi_mul, oi_neg, rs_sh, rs_R, rs_N, rs_J, rs_F, rs_A, rs_o, rs_wA, rs_wF, rs_w, Int.add_zero, Int.zero_add, or_true, true_or, or_false, false_or, and_self, z_i2l, z_l2i, lo_nat, lo_add, lo_sub, lo_mul, lo_0, e_rem, mh_L_law, N_sh, N_n, hn0, vn, m10]
  refine c_X10_init (by rw [N_n, vn]) (by rw [N_sh, vn]; rfl) (by rw [N_Ic, vn]; rfl) (fun u k1 k2 => ?_)
  have un : w_n u = 235 := by rw [k1.1, N_n, vn]
  have us : w_sh u 0 = (50, n0) := by rw [(k1.2 0 (by omega)).1, N_sh, if_neg (by omega)]; exact vs
  have hG : GR (n_rw (fun _ => 0)) := n_GR.e (n_rw_e _)
  have hC : CS (s_N u (5, 1)) (n_rw (fun _ => 0)) ((fun _ => 0), 0, 0, -1) ((fun _ => n_row), 0) ((fun _ => false), (fun _ => n_row)) ((fun _ => 0), 0) :=
    ((h2.gx (GX.trans (GX.N (GX.refl 309 v) (by omega)) k1)).gx (GX.N (GX.refl 309 u) (by omega))).row n_GR (n_rw_e _)
  have hL : LI (s_N u (5, 1)) := ⟨_, _, _, _, _, hC, k2.N (by omega), ⟨hG, fun i hi => absurd hi (Nat.not_lt_zero _), fun i hi hx => absurd (show false = true from hx) (by decide)⟩, by rw [N_sh, un]; rfl⟩
  simp (disch := omega) only [wp_c, wp_n, jj_n, Int.reduceToNat, Int.toNat_natCast, stE, wlE, lgt, lpu, lpw, v_c2, va_s, true_and, and_true, Option.toList, List.nil_append, List.cons_append, List.take, List.drop, List.reverse, List.reverseAux, List.length_cons, List.length_nil, reduceCtorEq, false_implies, true_implies, forall_const, not_true_eq_false, not_false_eq_true, ite_true, ite_false, Bool.false_eq_true, I_I, J_J, Nat.add_left_cancel_iff, Nat.reduceEqDiff, Nat.add_eq_left, Nat.left_eq_add, false_and, and_false, Nat.reduceSub, Nat.sub_self, Nat.le_refl, Nat.zero_le, ge_iff_le, Nat.reduceAdd, Nat.reduceLeDiff, Nat.zero_add, Nat.reduceLT, z_lt, z_le, z_eq, z_l0, z_g0, z_le0, z_ge0, z_e0, z_e1, z_vp, z_nc, z_rem, z_div, i_ltT, i_ltF, i_leT, i_leF, i_eqT, i_eqF, n_ltT, n_ltF, n_leT, n_leF, n_eqT, n_eqF, tn_9, tn_12, tn_14, tn_20, tn_28, tn_44, tn_52, tn_68, tn_84, tn_100, tn_116, tn_132, fu_e, up_eq, ob_0, ob_b, oi_add, oi_sub, oi_mul, oi_neg, rs_sh, rs_R, rs_N, rs_J, rs_F, rs_A, rs_o, rs_wA, rs_wF, rs_w, Int.add_zero, Int.zero_add, or_true, true_or, or_false, false_or, and_self, z_i2l, z_l2i, lo_nat, lo_add, lo_sub, lo_mul, lo_0, e_rem, mh_L_law, N_sh, N_n, hn0, vn, un, y1]
  refine (law_23 h3 hq 512 0 _ hL (by rw [N_sh, if_neg (by omega)]; exact us) (by omega) (by omega)).gas ?_ ?_ rfl
  · exact Nat.le_of_ble_eq_true rfl
  · exact Nat.le_of_ble_eq_true rfl
