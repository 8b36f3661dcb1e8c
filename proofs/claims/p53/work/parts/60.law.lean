/-! the class beside new cells -/
def LO (w w' : mW) : Prop := ∀ a, a < 309 → w_sh w' a = w_sh w a ∧ w_R w' a = w_R w a ∧ w_I w' a = w_I w a ∧ w_J w' a = w_J w a
theorem Mb.lo {w w' : mW} {b : Nat} (h : Mb w b) (e : LO w w') (hb : b + 12 ≤ 309) : Mb w' b := by
  have s : ∀ c, c < 12 → w_sh w' (b + c) = w_sh w (b + c) := fun c hc => (e (b + c) (by omega)).1
  have r : ∀ c, c < 12 → w_R w' (b + c) = w_R w (b + c) := fun c hc => (e (b + c) (by omega)).2.1
  have s0 : w_sh w' b = w_sh w b := s 0 (by omega)
  have r0 : w_R w' b = w_R w b := r 0 (by omega)
  unfold Mb
  rw [s0, s 1 (by omega), s 2 (by omega), s 3 (by omega), s 4 (by omega), s 5 (by omega), s 6 (by omega), s 7 (by omega), s 8 (by omega), s 9 (by omega), s 10 (by omega), s 11 (by omega), r0, r 7 (by omega), r 9 (by omega)]
  exact h
theorem MS.lo {w w' : mW} {b : Nat} {A : Row} (h : MS w b A) (e : LO w w') (hb : b + 12 ≤ 309) : MS w' b A := h.loc (fun a _ a2 => e a (by omega))
theorem CB.lo {w w' : mW} (h : CB w) (e : LO w w') : CB w' := by
  have s : ∀ c, c < 309 → w_sh w' c = w_sh w c := fun c hc => (e c hc).1
  have r : ∀ c, c < 309 → w_R w' c = w_R w c := fun c hc => (e c hc).2.1
  obtain ⟨h1, ⟨h2, h3, h4, h5, h6, h7⟩, ⟨k1, k2, k3⟩, k4, k5, k6, k7, k8, k9⟩ := h
  refine ⟨by rw [s 100 (by omega), r 100 (by omega)]; exact h1, ⟨h2.lo e (by omega), h3.lo e (by omega), by rw [s _ (by omega)]; exact h4, by rw [r _ (by omega)]; exact h5, by rw [s _ (by omega)]; exact h6, fun i hi => ⟨by rw [r _ (by omega)]; exact (h7 i hi).1, (h7 i hi).2.lo e (by omega)⟩⟩,
    ⟨by rw [s _ (by omega)]; exact k1, by rw [s _ (by omega)]; exact k2, fun i hi => ⟨by rw [r _ (by omega)]; exact (k3 i hi).1, (k3 i hi).2.lo e (by omega)⟩⟩, ?_, ?_, ?_, ?_, ?_, by rw [s _ (by omega)]; exact k9⟩
  · unfold Mu; rw [s _ (by omega), s _ (by omega), r _ (by omega)]; exact k4
  · rw [s 275 (by omega), s 276 (by omega), r 275 (by omega)]; exact k5
  · rw [s 277 (by omega), r 277 (by omega)]; exact k6
  · rw [s 278 (by omega), s 279 (by omega), r 278 (by omega)]; exact k7
  · rw [s 280 (by omega), s 281 (by omega), s 282 (by omega), s 283 (by omega), r 280 (by omega)]; exact k8
theorem CS.lo {w w' : mW} {A : Row} {Z : Zx} {Y : Yx} {X : Xx} {U : Ux} (h : CS w A Z Y X U) (e : LO w w') : CS w' A Z Y X U := by
  have z : ∀ c, c < 309 → w_I w' c = w_I w c := fun c hc => (e c hc).2.2.1
  obtain ⟨h1, h2, h3, h4, h5, h6, h7⟩ := h
  refine ⟨h1.lo e, h2.lo e (by omega), ?_, ?_, ?_, ?_, ?_⟩
  · unfold IB; rw [z 275 (by omega), z 276 (by omega)]; exact h3
  · unfold ER; rw [z 277 (by omega)]; exact h4
  · obtain ⟨g1, g2, nx, g3, g4, g5⟩ := h5
    exact ⟨g1, by rw [z 125 (by omega)]; exact g2, nx, g3, by rw [z 125 (by omega)]; exact g4, fun i hi => (g5 i hi).lo e (by omega)⟩
  · exact ⟨fun i hi => by rw [z 272 (by omega)]; exact h6.1 i hi, fun i hi q => (h6.2 i hi q).lo e (by omega)⟩
  · unfold US; rw [z 100 (by omega), z 284 (by omega)]; exact h7
theorem FO.lo {b : Nat} {w w' : mW} (h : FO b w w') (hb : 309 ≤ b) : LO w w' := fun a ha => h.1 a (Or.inl (by omega))
theorem FB.lo {b : Nat} {w w' : mW} (h : FB b w w') (hb : 309 ≤ b) : LO w w' := fun a ha => h.1 a (Or.inl (by omega))
theorem Mb.no4 {w : mW} {b q : Nat} (h : Mb w b) (h1 : b ≤ q) (h2 : q < b + 12) : ¬ w_sh w q = (1, 4) := by
  obtain ⟨⟨s0, s1, s2, s3, s4, s5, s6, s7, s8, s9, s10, s11⟩, -⟩ := h
  rcases (show q = b ∨ q = b + 1 ∨ q = b + 2 ∨ q = b + 3 ∨ q = b + 4 ∨ q = b + 5 ∨ q = b + 6 ∨ q = b + 7 ∨ q = b + 8 ∨ q = b + 9 ∨ q = b + 10 ∨ q = b + 11 by omega) with e | e | e | e | e | e | e | e | e | e | e | e <;> rw [e]
  · rw [s0]; decide
  · rw [s1]; decide
  · rw [s2]; decide
  · rw [s3]; decide
  · rw [s4]; decide
  · rw [s5]; decide
  · rw [s6]; decide
  · rw [s7]; decide
  · rw [s8]; decide
  · rw [s9]; decide
  · rw [s10]; decide
  · rw [s11]; decide
theorem CB.no4 {w : mW} {q : Nat} (h : CB w) (h1 : 100 ≤ q) (h2 : q < 309) : ¬ w_sh w q = (1, 4) := by
  obtain ⟨h1', ⟨m1, m2, s125, -, s126, m7⟩, ⟨s271, s272, m3⟩, ⟨s273, s274, -⟩, ⟨s275, -, s276⟩, ⟨s277, -⟩, ⟨s278, -, -, s279⟩, ⟨s280, -, -, -, -, s281, s282, s283⟩, s284⟩ := h
  have s100 := h1'.1
  by_cases q1 : 101 ≤ q ∧ q < 113
  · exact m1.no4 q1.1 (by omega)
  by_cases q2 : 113 ≤ q ∧ q < 125
  · exact m2.no4 q2.1 (by omega)
  by_cases q3 : 127 ≤ q ∧ q < 271
  · exact (m7 ((q - 127) / 12) (by omega)).2.no4 (by omega) (by omega)
  by_cases q4 : 285 ≤ q ∧ q < 309
  · exact (m3 ((q - 285) / 12) (by omega)).2.no4 (by omega) (by omega)
  rcases (show q = 100 ∨ q = 125 ∨ q = 126 ∨ q = 271 ∨ q = 272 ∨ q = 273 ∨ q = 274 ∨ q = 275 ∨ q = 276 ∨ q = 277 ∨ q = 278 ∨ q = 279 ∨ q = 280 ∨ q = 281 ∨ q = 282 ∨ q = 283 ∨ q = 284 by omega) with e | e | e | e | e | e | e | e | e | e | e | e | e | e | e | e | e <;> rw [e]
  · rw [s100]; decide
  · rw [s125]; decide
  · rw [s126]; decide
  · rw [s271]; decide
  · rw [s272]; decide
  · rw [s273]; decide
  · rw [s274]; decide
  · rw [s275]; decide
  · rw [s276]; decide
  · rw [s277]; decide
  · rw [s278]; decide
  · rw [s279]; decide
  · rw [s280]; decide
  · rw [s281]; decide
  · rw [s282]; decide
  · rw [s283]; decide
  · rw [s284]; decide
/-- what the class leaves alone -/
theorem OW.fx {w w1 : mW} {b o : Nat} {P : Nat → Nat} {B : Row} (h : OW w b o P B) (f : FX CL w w1) (hb : 309 ≤ b) (hC : CB w) : OW w1 b o P B := by
  have hge := h.ge
  have n : ∀ a, b ≤ a → ¬ CL a := fun a ha q => by unfold CL at q; omega
  have i : ∀ a, b ≤ a → w_I w1 a = w_I w a ∧ w_J w1 a = w_J w a := fun a ha => f.2.2.2 a (n a ha)
  obtain ⟨⟨p1, p2, p3, p4, p5, p6⟩, ⟨v1, v2, v4⟩, l0, l1⟩ := h
  refine ⟨⟨by rw [f.1]; exact p1, by rw [f.2.2.1]; exact p2, fun g g1 g2 => by rw [f.1]; exact p3 g g1 g2, by rw [f.1]; exact p4, fun g g1 g2 => by rw [f.2.1, f.2.2.1]; exact p5 g g1 g2, p6⟩, ⟨fun g hg => by rw [(i o p2.1).1]; exact v1 g hg, by rw [(i o p2.1).2]; exact v2, fun g j g1 g2 hj => by rw [(i _ (hge.2 g g1 (by omega)).1).1]; exact v4 g j g1 g2 hj⟩, l0, fun k hk => ?_⟩
  obtain ⟨q, q1, q2, q3, q4⟩ := l1 k hk
  refine ⟨q, by rw [f.2.1]; exact q1, by rw [f.1]; exact q2, by rw [f.2.2.1]; exact q3, fun m hm => ?_⟩
  by_cases hq : CL q
  · exact absurd q2 (hC.no4 hq.1 hq.2)
  · rw [(f.2.2.2 q hq).1]; exact q4 m hm
/-- bytes in a cell -/
def BY (w : mW) (a : Nat) (l : List Int) : Prop := (309 ≤ a ∧ a < 100 + w_n w) ∧ w_sh w a = (3, l.length) ∧ l.length ≤ 400 ∧ ∀ i, i < l.length → w_I w a i = Int32.ofInt (l.getD i 0) ∧ 0 ≤ l.getD i 0 ∧ l.getD i 0 ≤ 127
theorem BY.fx {w w1 : mW} {a : Nat} {l : List Int} (h : BY w a l) (f : FX CL w w1) : BY w1 a l := by
  have n : ¬ CL a := fun q => by have := h.1.1; unfold CL at q; omega
  exact ⟨by rw [f.2.2.1]; exact h.1, by rw [f.1]; exact h.2.1, h.2.2.1, fun i hi => by rw [(f.2.2.2 a n).1]; exact h.2.2.2 i hi⟩
def cc (l : List Int) (i : Nat) : Int := if i < l.length then l.getD i 0 else 32
theorem cc_b {w : mW} {a : Nat} {l : List Int} (h : BY w a l) (i : Nat) : 0 ≤ cc l i ∧ cc l i ≤ 127 := by
  unfold cc
  split
  · rename_i q; exact (h.2.2.2 i q).2
  · omega
def fo4 (l : List Int) (k : Nat) : Int := ((cc l k * 256 + cc l (k + 1)) * 256 + cc l (k + 2)) * 256 + cc l (k + 3)
theorem shl8 {v c : Int} (h : 0 ≤ v ∧ v < 8388608) (hc : 0 ≤ c ∧ c ≤ 255) : (Int32.ofInt v <<< (Int32.ofInt 8 &&& 31)) ||| Int32.ofInt c = Int32.ofInt (v * 256 + c) := by
  obtain ⟨n, rfl⟩ : ∃ n : Nat, v = n := ⟨v.toNat, by omega⟩
  obtain ⟨m, rfl⟩ : ∃ m : Nat, c = m := ⟨c.toNat, by omega⟩
  have e8 : (Int32.ofInt 8 &&& 31) = 8 := by decide
  rw [e8, ← Int32.toBitVec_inj, Int32.toBitVec_or, Int32.toBitVec_shiftLeft]
  show (BitVec.ofInt 32 (n : Int)) <<< (_ : Nat) ||| BitVec.ofInt 32 (m : Int) = BitVec.ofInt 32 ((n : Int) * 256 + m)
  rw [show (n : Int) * 256 + m = ((n * 256 + m : Nat) : Int) by omega]
  rw [BitVec.ofInt_natCast, BitVec.ofInt_natCast, BitVec.ofInt_natCast]
  apply BitVec.eq_of_toNat_eq
  have h8 : ((8 : Int32).toBitVec.smod 32).toNat = 8 := by decide
  simp only [BitVec.toNat_or, BitVec.toNat_shiftLeft, BitVec.toNat_ofNat, h8]
  have h2 : m < 2 ^ 8 := by omega
  rw [Nat.mod_eq_of_lt (show n < 2 ^ 32 by omega), Nat.mod_eq_of_lt (show m < 2 ^ 32 by omega), Nat.mod_eq_of_lt (show n <<< 8 < 2 ^ 32 by rw [Nat.shiftLeft_eq]; omega), ← Nat.shiftLeft_add_eq_or_of_lt h2, Nat.shiftLeft_eq, Nat.mod_eq_of_lt (show n * 256 + m < 2 ^ 32 by omega)]
theorem z_four {a k : Nat} {l : List Int} {w : mW} {Q : mW → mO → Prop} (h : BY w a l) (hk : k ≤ 1000) (hq : Q w (.inl (some (.int (Int32.ofInt (fo4 l k)))))) : CT n_L_four [.ref a, .int (Int32.ofInt k)] w Q := by
  have hb := cc_b h
  obtain ⟨⟨ha, ha2⟩, hs, hl, hc⟩ := h
  have step : ∀ (v : Int) (i : Nat), 0 ≤ v ∧ v < 8388608 → k ≤ i → i < k + 4 → RT n_L_four 4 [.ref a, .int (Int32.ofInt k), .int (Int32.ofInt (v * 256 + cc l i)), .int (Int32.ofInt ((i + 1 : Nat) : Int))] [] w (0, 0, false) Q → RT n_L_four 4 [.ref a, .int (Int32.ofInt k), .int (Int32.ofInt v), .int (Int32.ofInt i)] [] w (0, 0, false) Q := by
    intro v i hv h1 h2 hnext
    have hcb := hb i
    have h33 : RT n_L_four 33 [.ref a, .int (Int32.ofInt k), .int (Int32.ofInt v), .int (Int32.ofInt i)] [.int (Int32.ofInt (cc l i)), .int (Int32.ofInt v <<< (Int32.ofInt 8 &&& 31))] w (0, 0, false) Q := by
      refine rt_L_four_33 ?_
      have e := shl8 hv (c := cc l i) ⟨hcb.1, by omega⟩
      have hc1 : ((i : Int) + 1) = ((i + 1 : Nat) : Int) := by omega
      simp (disch := omega) only [wp_c, wp_n, jj_n, v_ct, Int.reduceToNat, Int.toNat_natCast, stE, wlE, lgt, lpu, lpw, v_c2, va_s, true_and, and_true, Option.toList, List.nil_append, List.cons_append, List.take, List.drop, List.reverse, List.reverseAux, List.length_cons, List.length_nil, reduceCtorEq, false_implies, true_implies, forall_const, not_true_eq_false, not_false_eq_true, ite_true, ite_false, Bool.false_eq_true, I_I, J_J, Nat.add_left_cancel_iff, Nat.reduceEqDiff, Nat.add_eq_left, Nat.left_eq_add, false_and, and_false, Nat.reduceSub, Nat.sub_self, Nat.le_refl, Nat.zero_le, ge_iff_le, Nat.reduceAdd, Nat.reduceLeDiff, Nat.zero_add, Nat.reduceLT, z_lt, z_le, z_eq, z_l0, z_g0, z_le0, z_ge0, z_e0, z_e1, z_vp, z_nc, z_rem, z_div, i_ltT, i_ltF, i_leT, i_leF, i_eqT, i_eqF, n_ltT, n_ltF, n_leT, n_leF, n_eqT, n_eqF, tn_9, tn_12, tn_14, tn_20, tn_28, tn_44, tn_52, tn_68, tn_84, tn_100, tn_116, tn_132, fu_e, up_eq, ob_0, ob_b, oi_add, oi_sub, oi_mul, oi_neg, Int.add_zero, Int.zero_add, or_true, true_or, or_false, false_or, and_self, z_i2l, z_l2i, lo_nat, lo_add, lo_sub, lo_mul, lo_0, e_rem, e, hc1]
      exact hnext
    refine rt_L_four_4 ?_
    by_cases q : i < l.length
    · have hci := (hc i q).1
      have e255 : Int32.ofInt (l.getD i 0) &&& Int32.ofInt 255 = Int32.ofInt (l.getD i 0) := by
        obtain ⟨m, hm⟩ : ∃ m : Nat, l.getD i 0 = m := ⟨(l.getD i 0).toNat, by have := (hc i q).2; omega⟩
        rw [hm]
        have hd : ∀ m : Fin 128, Int32.ofInt (m.val : Int) &&& Int32.ofInt 255 = Int32.ofInt (m.val : Int) := by decide +kernel
        exact hd ⟨m, by have := (hc i q).2; omega⟩
      simp (disch := omega) only [wp_c, wp_n, jj_n, v_ct, Int.reduceToNat, Int.toNat_natCast, stE, wlE, lgt, lpu, lpw, v_c2, va_s, true_and, and_true, Option.toList, List.nil_append, List.cons_append, List.take, List.drop, List.reverse, List.reverseAux, List.length_cons, List.length_nil, reduceCtorEq, false_implies, true_implies, forall_const, not_true_eq_false, not_false_eq_true, ite_true, ite_false, Bool.false_eq_true, I_I, J_J, Nat.add_left_cancel_iff, Nat.reduceEqDiff, Nat.add_eq_left, Nat.left_eq_add, false_and, and_false, Nat.reduceSub, Nat.sub_self, Nat.le_refl, Nat.zero_le, ge_iff_le, Nat.reduceAdd, Nat.reduceLeDiff, Nat.zero_add, Nat.reduceLT, z_lt, z_le, z_eq, z_l0, z_g0, z_le0, z_ge0, z_e0, z_e1, z_vp, z_nc, z_rem, z_div, i_ltT, i_ltF, i_leT, i_leF, i_eqT, i_eqF, n_ltT, n_ltF, n_leT, n_leF, n_eqT, n_eqF, tn_9, tn_12, tn_14, tn_20, tn_28, tn_44, tn_52, tn_68, tn_84, tn_100, tn_116, tn_132, fu_e, up_eq, ob_0, ob_b, oi_add, oi_sub, oi_mul, oi_neg, Int.add_zero, Int.zero_add, or_true, true_or, or_false, false_or, and_self, z_i2l, z_l2i, lo_nat, lo_add, lo_sub, lo_mul, lo_0, e_rem, hs, oi_nat, hci, e255]
      have ecc : cc l i = l.getD i 0 := by unfold cc; rw [if_pos q]
      rw [ecc] at h33
      exact h33
    · simp (disch := omega) only [wp_c, wp_n, jj_n, v_ct, Int.reduceToNat, Int.toNat_natCast, stE, wlE, lgt, lpu, lpw, v_c2, va_s, true_and, and_true, Option.toList, List.nil_append, List.cons_append, List.take, List.drop, List.reverse, List.reverseAux, List.length_cons, List.length_nil, reduceCtorEq, false_implies, true_implies, forall_const, not_true_eq_false, not_false_eq_true, ite_true, ite_false, Bool.false_eq_true, I_I, J_J, Nat.add_left_cancel_iff, Nat.reduceEqDiff, Nat.add_eq_left, Nat.left_eq_add, false_and, and_false, Nat.reduceSub, Nat.sub_self, Nat.le_refl, Nat.zero_le, ge_iff_le, Nat.reduceAdd, Nat.reduceLeDiff, Nat.zero_add, Nat.reduceLT, z_lt, z_le, z_eq, z_l0, z_g0, z_le0, z_ge0, z_e0, z_e1, z_vp, z_nc, z_rem, z_div, i_ltT, i_ltF, i_leT, i_leF, i_eqT, i_eqF, n_ltT, n_ltF, n_leT, n_leF, n_eqT, n_eqF, tn_9, tn_12, tn_14, tn_20, tn_28, tn_44, tn_52, tn_68, tn_84, tn_100, tn_116, tn_132, fu_e, up_eq, ob_0, ob_b, oi_add, oi_sub, oi_mul, oi_neg, Int.add_zero, Int.zero_add, or_true, true_or, or_false, false_or, and_self, z_i2l, z_l2i, lo_nat, lo_add, lo_sub, lo_mul, lo_0, e_rem, hs, oi_nat]
      refine rt_L_four_31 ?_
      simp (disch := omega) only [wp_c, wp_n, jj_n, v_ct, Int.reduceToNat, Int.toNat_natCast, stE, wlE, lgt, lpu, lpw, v_c2, va_s, true_and, and_true, Option.toList, List.nil_append, List.cons_append, List.take, List.drop, List.reverse, List.reverseAux, List.length_cons, List.length_nil, reduceCtorEq, false_implies, true_implies, forall_const, not_true_eq_false, not_false_eq_true, ite_true, ite_false, Bool.false_eq_true, I_I, J_J, Nat.add_left_cancel_iff, Nat.reduceEqDiff, Nat.add_eq_left, Nat.left_eq_add, false_and, and_false, Nat.reduceSub, Nat.sub_self, Nat.le_refl, Nat.zero_le, ge_iff_le, Nat.reduceAdd, Nat.reduceLeDiff, Nat.zero_add, Nat.reduceLT, z_lt, z_le, z_eq, z_l0, z_g0, z_le0, z_ge0, z_e0, z_e1, z_vp, z_nc, z_rem, z_div, i_ltT, i_ltF, i_leT, i_leF, i_eqT, i_eqF, n_ltT, n_ltF, n_leT, n_leF, n_eqT, n_eqF, tn_9, tn_12, tn_14, tn_20, tn_28, tn_44, tn_52, tn_68, tn_84, tn_100, tn_116, tn_132, fu_e, up_eq, ob_0, ob_b, oi_add, oi_sub, oi_mul, oi_neg, Int.add_zero, Int.zero_add, or_true, true_or, or_false, false_or, and_self, z_i2l, z_l2i, lo_nat, lo_add, lo_sub, lo_mul, lo_0, e_rem]
      have ecc : cc l i = 32 := by unfold cc; rw [if_neg q]
      rw [ecc] at h33
      exact h33
  have b0 := hb k
  have b1 := hb (k + 1)
  have b2 := hb (k + 1 + 1)
  have b3 := hb (k + 1 + 1 + 1)
  refine ct_L_four (rt_L_four_0 ?_)
  simp (disch := omega) only [wp_c, wp_n, jj_n, v_ct, Int.reduceToNat, Int.toNat_natCast, stE, wlE, lgt, lpu, lpw, v_c2, va_s, true_and, and_true, Option.toList, List.nil_append, List.cons_append, List.take, List.drop, List.reverse, List.reverseAux, List.length_cons, List.length_nil, reduceCtorEq, false_implies, true_implies, forall_const, not_true_eq_false, not_false_eq_true, ite_true, ite_false, Bool.false_eq_true, I_I, J_J, Nat.add_left_cancel_iff, Nat.reduceEqDiff, Nat.add_eq_left, Nat.left_eq_add, false_and, and_false, Nat.reduceSub, Nat.sub_self, Nat.le_refl, Nat.zero_le, ge_iff_le, Nat.reduceAdd, Nat.reduceLeDiff, Nat.zero_add, Nat.reduceLT, z_lt, z_le, z_eq, z_l0, z_g0, z_le0, z_ge0, z_e0, z_e1, z_vp, z_nc, z_rem, z_div, i_ltT, i_ltF, i_leT, i_leF, i_eqT, i_eqF, n_ltT, n_ltF, n_leT, n_leF, n_eqT, n_eqF, tn_9, tn_12, tn_14, tn_20, tn_28, tn_44, tn_52, tn_68, tn_84, tn_100, tn_116, tn_132, fu_e, up_eq, ob_0, ob_b, oi_add, oi_sub, oi_mul, oi_neg, Int.add_zero, Int.zero_add, or_true, true_or, or_false, false_or, and_self, z_i2l, z_l2i, lo_nat, lo_add, lo_sub, lo_mul, lo_0, e_rem]
  refine step 0 k ⟨by omega, by omega⟩ (by omega) (by omega) ?_
  refine step _ (k + 1) ⟨by omega, by omega⟩ (by omega) (by omega) ?_
  refine step _ (k + 1 + 1) ⟨by omega, by omega⟩ (by omega) (by omega) ?_
  refine step _ (k + 1 + 1 + 1) ⟨by omega, by omega⟩ (by omega) (by omega) ?_
  refine rt_L_four_4 ?_
  simp (disch := omega) only [wp_c, wp_n, jj_n, v_ct, Int.reduceToNat, Int.toNat_natCast, stE, wlE, lgt, lpu, lpw, v_c2, va_s, true_and, and_true, Option.toList, List.nil_append, List.cons_append, List.take, List.drop, List.reverse, List.reverseAux, List.length_cons, List.length_nil, reduceCtorEq, false_implies, true_implies, forall_const, not_true_eq_false, not_false_eq_true, ite_true, ite_false, Bool.false_eq_true, I_I, J_J, Nat.add_left_cancel_iff, Nat.reduceEqDiff, Nat.add_eq_left, Nat.left_eq_add, false_and, and_false, Nat.reduceSub, Nat.sub_self, Nat.le_refl, Nat.zero_le, ge_iff_le, Nat.reduceAdd, Nat.reduceLeDiff, Nat.zero_add, Nat.reduceLT, z_lt, z_le, z_eq, z_l0, z_g0, z_le0, z_ge0, z_e0, z_e1, z_vp, z_nc, z_rem, z_div, i_ltT, i_ltF, i_leT, i_leF, i_eqT, i_eqF, n_ltT, n_ltF, n_leT, n_leF, n_eqT, n_eqF, tn_9, tn_12, tn_14, tn_20, tn_28, tn_44, tn_52, tn_68, tn_84, tn_100, tn_116, tn_132, fu_e, up_eq, ob_0, ob_b, oi_add, oi_sub, oi_mul, oi_neg, Int.add_zero, Int.zero_add, or_true, true_or, or_false, false_or, and_self, z_i2l, z_l2i, lo_nat, lo_add, lo_sub, lo_mul, lo_0, e_rem]
  refine rt_L_four_41 ?_
  simp (disch := omega) only [wp_c, wp_n, jj_n, v_ct, Int.reduceToNat, Int.toNat_natCast, stE, wlE, lgt, lpu, lpw, v_c2, va_s, true_and, and_true, Option.toList, List.nil_append, List.cons_append, List.take, List.drop, List.reverse, List.reverseAux, List.length_cons, List.length_nil, reduceCtorEq, false_implies, true_implies, forall_const, not_true_eq_false, not_false_eq_true, ite_true, ite_false, Bool.false_eq_true, I_I, J_J, Nat.add_left_cancel_iff, Nat.reduceEqDiff, Nat.add_eq_left, Nat.left_eq_add, false_and, and_false, Nat.reduceSub, Nat.sub_self, Nat.le_refl, Nat.zero_le, ge_iff_le, Nat.reduceAdd, Nat.reduceLeDiff, Nat.zero_add, Nat.reduceLT, z_lt, z_le, z_eq, z_l0, z_g0, z_le0, z_ge0, z_e0, z_e1, z_vp, z_nc, z_rem, z_div, i_ltT, i_ltF, i_leT, i_leF, i_eqT, i_eqF, n_ltT, n_ltF, n_leT, n_leF, n_eqT, n_eqF, tn_9, tn_12, tn_14, tn_20, tn_28, tn_44, tn_52, tn_68, tn_84, tn_100, tn_116, tn_132, fu_e, up_eq, ob_0, ob_b, oi_add, oi_sub, oi_mul, oi_neg, Int.add_zero, Int.zero_add, or_true, true_or, or_false, false_or, and_self, z_i2l, z_l2i, lo_nat, lo_add, lo_sub, lo_mul, lo_0, e_rem, mr_L_four]
  unfold fo4 at hq
  simpa using hq
