def a_cnt : Nat → Row → Nat → Int → Row
  | 0, A, _, _ => A
  | n + 1, A, wh, way =>
    let B := up A (44 + wh) ((A (44 + wh) + way + 10) % 10)
    if A (44 + wh) + way < 0 ∨ 9 < A (44 + wh) + way then a_cnt n B (wh + 1) way else B
theorem c_cnt_7 {b : Nat} {way : Int} {Q : mW → mO → Prop} (hway : way = 1 ∨ way = -1) : ∀ (n : Nat) (A : Row) (wh : Nat) (w : mW) (x : Value), A 2 ≤ (wh : Int) + n → (n = 0 ∨ (wh : Int) + n ≤ A 2) → wh ≤ 16 → Mb w b → MemA w b A → TI A → (∀ w', MemA w' b (a_cnt n A wh way) → Fr [b + 3] w w' → Q w' (.inl none)) →
    RT n_X2_moveCounter 7 [.ref b, .int (Int32.ofInt way), .int (Int32.ofInt 1), .int (Int32.ofInt wh), x] [] w (0, 0, false) Q := by
  intro n
  induction n with
  | zero =>
    intro A wh w x hn _ hwh hM hA hI hq
    obtain ⟨⟨s0, s1, s2, s3, s4, s5, s6, s7, s8, s9, s10, s11⟩, r6, r7, r8, r9, r10, r11, r12, r13, q2, q10, q11⟩ := hM
    have hA0 := hA
    obtain ⟨⟨b0, b1, b2, b3, b4⟩, a1, a2, a3, a4, a5, a6, a7, a8, a9⟩ := hA
    have hI0 := hI
    obtain ⟨h0, h7, h1, h2, h3, h4, h5⟩ := hI
    have hw : inR wh := ⟨by omega, by omega⟩
    have hw1 : inR (A 2) := ⟨by omega, by omega⟩
    refine rt_X2_moveCounter_7 ?_
    simp only [wp_c, wp_n, jj_n, Int.reduceToNat, Int.toNat_natCast, stE, wlE, lgt, lpu, lpw, v_c2, va_s, true_and, and_true, Option.toList, List.nil_append, List.cons_append, List.take, List.drop, List.reverse, List.reverseAux, List.length_cons, List.length_nil, reduceCtorEq, false_implies, true_implies, forall_const, not_true_eq_false, not_false_eq_true, ite_true, ite_false, Bool.false_eq_true, I_I, J_J, Nat.add_left_cancel_iff, Nat.reduceEqDiff, Nat.add_eq_left, Nat.left_eq_add, false_and, and_false, Nat.reduceSub, Nat.sub_self, Nat.le_refl, Nat.zero_le, ge_iff_le, Nat.reduceAdd, Nat.reduceLeDiff, Nat.zero_add, Nat.reduceLT, s0, b2, oi_le hw1 hw]
    refine ⟨fun _ => ?_, fun h => absurd (by omega) h⟩
    refine rt_X2_moveCounter_67 ?_
    simp only [wp_c, wp_n, jj_n, Int.reduceToNat, Int.toNat_natCast, stE, wlE, lgt, lpu, lpw, v_c2, va_s, true_and, and_true, Option.toList, List.nil_append, List.cons_append, List.take, List.drop, List.reverse, List.reverseAux, List.length_cons, List.length_nil, reduceCtorEq, false_implies, true_implies, forall_const, not_true_eq_false, not_false_eq_true, ite_true, ite_false, Bool.false_eq_true, I_I, J_J, Nat.add_left_cancel_iff, Nat.reduceEqDiff, Nat.add_eq_left, Nat.left_eq_add, false_and, and_false, Nat.reduceSub, Nat.sub_self, Nat.le_refl, Nat.zero_le, ge_iff_le, Nat.reduceAdd, Nat.reduceLeDiff, Nat.zero_add, Nat.reduceLT]
    exact hq w hA0 (Fr.refl _ _)
  | succ n ih =>
    intro A wh w x hn hn2 hwh hM hA hI hq
    have hM0 := hM
    obtain ⟨⟨s0, s1, s2, s3, s4, s5, s6, s7, s8, s9, s10, s11⟩, r6, r7, r8, r9, r10, r11, r12, r13, q2, q10, q11⟩ := hM
    have hA0 := hA
    obtain ⟨⟨b0, b1, b2, b3, b4⟩, a1, a2, a3, a4, a5, a6, a7, a8, a9⟩ := hA
    have hI0 := hI
    obtain ⟨h0, h7, h1, h2, h3, h4, h5⟩ := hI
    have hw : inR wh := ⟨by omega, by omega⟩
    have hw1 : inR (A 2) := ⟨by omega, by omega⟩
    have hl : wh < 8 := by omega
    have hc := h3 wh hl
    have hv : inR (A (44 + wh) + way) := ⟨by omega, by omega⟩
    have hv10 : inR (A (44 + wh) + way + 10) := ⟨by omega, by omega⟩
    have h10 : inR (10 : Int) := ⟨by omega, by omega⟩
    -- behind the choice
    have h46 : ∀ f : Int, (f = 1 ∧ (A (44 + wh) + way < 0 ∨ 9 < A (44 + wh) + way)) ∨ (f = 0 ∧ ¬ (A (44 + wh) + way < 0 ∨ 9 < A (44 + wh) + way)) → RT n_X2_moveCounter 46 [.ref b, .int (Int32.ofInt way), .int (Int32.ofInt 1), .int (Int32.ofInt wh), .int (Int32.ofInt (A (44 + wh) + way))] [.int (Int32.ofInt f)] w (0, 0, false) Q := by
      intro f hf
      refine rt_X2_moveCounter_46 ?_
      simp only [wp_c, wp_n, jj_n, Int.reduceToNat, Int.toNat_natCast, stE, wlE, lgt, lpu, lpw, v_c2, va_s, true_and, and_true, Option.toList, List.nil_append, List.cons_append, List.take, List.drop, List.reverse, List.reverseAux, List.length_cons, List.length_nil, reduceCtorEq, false_implies, true_implies, forall_const, not_true_eq_false, not_false_eq_true, ite_true, ite_false, Bool.false_eq_true, I_I, J_J, Nat.add_left_cancel_iff, Nat.reduceEqDiff, Nat.add_eq_left, Nat.left_eq_add, false_and, and_false, Nat.reduceSub, Nat.sub_self, Nat.le_refl, Nat.zero_le, ge_iff_le, Nat.reduceAdd, Nat.reduceLeDiff, Nat.zero_add, Nat.reduceLT, s0, s3, r8, vp_oi hw, oi_nc hw, oi_add]
      rw [oi_rem hv10 h10 (by omega) (by omega)]
      refine ⟨by decide, by omega, ?_⟩
      have g := hA0.cnt (v := (A (44 + wh) + way + 10) % 10) hl
      rcases hf with ⟨rfl, hf⟩ | ⟨rfl, hf⟩
      · simp only [a_cnt, if_pos hf] at hq
        have e := ih _ (wh + 1) (s_I w (b + 3) wh (Int32.ofInt ((A (44 + wh) + way + 10) % 10))) (.int (Int32.ofInt (A (44 + wh) + way))) ?_ ?_ (by omega) (hM0.fr (l := [b + 3]) ((Fr.refl _ _).I (by simp))) g (hI0.cnt ⟨by omega, by omega⟩ hl) (fun w' k1 k2 => hq w' k1 (((Fr.refl _ _).I (by simp)).trans k2 (fun _ q => q) (fun _ q => q)))
        · exact e
        · rw [up_eq, if_neg (by omega)]; omega
        · rw [up_eq, if_neg (by omega)]; omega
      · simp only [a_cnt, if_neg hf] at hq
        refine rt_X2_moveCounter_7 ?_
        have hw2 : inR ((wh : Int) + 1) := ⟨by omega, by omega⟩
        simp only [wp_c, wp_n, jj_n, Int.reduceToNat, Int.toNat_natCast, stE, wlE, lgt, lpu, lpw, v_c2, va_s, true_and, and_true, Option.toList, List.nil_append, List.cons_append, List.take, List.drop, List.reverse, List.reverseAux, List.length_cons, List.length_nil, reduceCtorEq, false_implies, true_implies, forall_const, not_true_eq_false, not_false_eq_true, ite_true, ite_false, Bool.false_eq_true, I_I, J_J, Nat.add_left_cancel_iff, Nat.reduceEqDiff, Nat.add_eq_left, Nat.left_eq_add, false_and, and_false, Nat.reduceSub, Nat.sub_self, Nat.le_refl, Nat.zero_le, ge_iff_le, Nat.reduceAdd, Nat.reduceLeDiff, Nat.zero_add, Nat.reduceLT, s0, b2, oi_le hw1 hw2]
        have hend : RT n_X2_moveCounter 67 [.ref b, .int (Int32.ofInt way), .int (Int32.ofInt 0), .int (Int32.ofInt ((wh : Int) + 1)), .int (Int32.ofInt (A (44 + wh) + way))] [] (s_I w (b + 3) wh (Int32.ofInt ((A (44 + wh) + way + 10) % 10))) (0, 0, false) Q := by
          refine rt_X2_moveCounter_67 ?_
          simp only [wp_c, wp_n, jj_n, Int.reduceToNat, Int.toNat_natCast, stE, wlE, lgt, lpu, lpw, v_c2, va_s, true_and, and_true, Option.toList, List.nil_append, List.cons_append, List.take, List.drop, List.reverse, List.reverseAux, List.length_cons, List.length_nil, reduceCtorEq, false_implies, true_implies, forall_const, not_true_eq_false, not_false_eq_true, ite_true, ite_false, Bool.false_eq_true, I_I, J_J, Nat.add_left_cancel_iff, Nat.reduceEqDiff, Nat.add_eq_left, Nat.left_eq_add, false_and, and_false, Nat.reduceSub, Nat.sub_self, Nat.le_refl, Nat.zero_le, ge_iff_le, Nat.reduceAdd, Nat.reduceLeDiff, Nat.zero_add, Nat.reduceLT]
          exact hq _ g ((Fr.refl _ _).I (by simp))
        exact ⟨fun _ => hend, fun _ => ⟨fun _ => hend, fun h => absurd rfl h⟩⟩
    refine rt_X2_moveCounter_7 ?_
    simp only [wp_c, wp_n, jj_n, Int.reduceToNat, Int.toNat_natCast, stE, wlE, lgt, lpu, lpw, v_c2, va_s, true_and, and_true, Option.toList, List.nil_append, List.cons_append, List.take, List.drop, List.reverse, List.reverseAux, List.length_cons, List.length_nil, reduceCtorEq, false_implies, true_implies, forall_const, not_true_eq_false, not_false_eq_true, ite_true, ite_false, Bool.false_eq_true, I_I, J_J, Nat.add_left_cancel_iff, Nat.reduceEqDiff, Nat.add_eq_left, Nat.left_eq_add, false_and, and_false, Nat.reduceSub, Nat.sub_self, Nat.le_refl, Nat.zero_le, ge_iff_le, Nat.reduceAdd, Nat.reduceLeDiff, Nat.zero_add, Nat.reduceLT, s0, s3, r8, b2, a3 wh hl, oi_le hw1 hw, vp_oi hw, oi_nc hw, oi_add, oi_l0 hv, oi_le hv (show inR 9 from ⟨by omega, by omega⟩)]
    refine ⟨fun h => absurd h (by omega), fun _ => ⟨fun h => absurd h (by decide), fun _ => ⟨by omega, fun hlt => ?_, fun hlt => ⟨fun hle => ?_, fun hle => ?_⟩⟩⟩⟩
    · refine rt_X2_moveCounter_41 ?_
      simp only [wp_c, wp_n, jj_n, Int.reduceToNat, Int.toNat_natCast, stE, wlE, lgt, lpu, lpw, v_c2, va_s, true_and, and_true, Option.toList, List.nil_append, List.cons_append, List.take, List.drop, List.reverse, List.reverseAux, List.length_cons, List.length_nil, reduceCtorEq, false_implies, true_implies, forall_const, not_true_eq_false, not_false_eq_true, ite_true, ite_false, Bool.false_eq_true, I_I, J_J, Nat.add_left_cancel_iff, Nat.reduceEqDiff, Nat.add_eq_left, Nat.left_eq_add, false_and, and_false, Nat.reduceSub, Nat.sub_self, Nat.le_refl, Nat.zero_le, ge_iff_le, Nat.reduceAdd, Nat.reduceLeDiff, Nat.zero_add, Nat.reduceLT]
      exact h46 1 (Or.inl ⟨rfl, Or.inl hlt⟩)
    · refine rt_X2_moveCounter_45 ?_
      simp only [wp_c, wp_n, jj_n, Int.reduceToNat, Int.toNat_natCast, stE, wlE, lgt, lpu, lpw, v_c2, va_s, true_and, and_true, Option.toList, List.nil_append, List.cons_append, List.take, List.drop, List.reverse, List.reverseAux, List.length_cons, List.length_nil, reduceCtorEq, false_implies, true_implies, forall_const, not_true_eq_false, not_false_eq_true, ite_true, ite_false, Bool.false_eq_true, I_I, J_J, Nat.add_left_cancel_iff, Nat.reduceEqDiff, Nat.add_eq_left, Nat.left_eq_add, false_and, and_false, Nat.reduceSub, Nat.sub_self, Nat.le_refl, Nat.zero_le, ge_iff_le, Nat.reduceAdd, Nat.reduceLeDiff, Nat.zero_add, Nat.reduceLT]
      exact h46 0 (Or.inr ⟨rfl, by omega⟩)
    · refine rt_X2_moveCounter_41 ?_
      simp only [wp_c, wp_n, jj_n, Int.reduceToNat, Int.toNat_natCast, stE, wlE, lgt, lpu, lpw, v_c2, va_s, true_and, and_true, Option.toList, List.nil_append, List.cons_append, List.take, List.drop, List.reverse, List.reverseAux, List.length_cons, List.length_nil, reduceCtorEq, false_implies, true_implies, forall_const, not_true_eq_false, not_false_eq_true, ite_true, ite_false, Bool.false_eq_true, I_I, J_J, Nat.add_left_cancel_iff, Nat.reduceEqDiff, Nat.add_eq_left, Nat.left_eq_add, false_and, and_false, Nat.reduceSub, Nat.sub_self, Nat.le_refl, Nat.zero_le, ge_iff_le, Nat.reduceAdd, Nat.reduceLeDiff, Nat.zero_add, Nat.reduceLT]
      exact h46 1 (Or.inl ⟨rfl, Or.inr (by omega)⟩)
theorem c_cnt {b : Nat} {way : Int} {w : mW} {A : Row} {Q : mW → mO → Prop} (hway : way = 1 ∨ way = -1) (hM : Mb w b) (hA : MemA w b A) (hI : TI A) (hq : ∀ w', MemA w' b (a_cnt (A 2 - A 4).toNat A (A 4).toNat way) → Fr [b + 3] w w' → Q w' (.inl none)) : CT n_X2_moveCounter [.ref b, .int (Int32.ofInt way)] w Q := by
  have hM0 := hM
  obtain ⟨⟨s0, s1, s2, s3, s4, s5, s6, s7, s8, s9, s10, s11⟩, r6, r7, r8, r9, r10, r11, r12, r13, q2, q10, q11⟩ := hM
  have hI0 := hI
  obtain ⟨h0, h7, h1, h2, h3, h4, h5⟩ := hI
  refine ct_X2_moveCounter (rt_X2_moveCounter_0 ?_)
  simp only [wp_c, wp_n, jj_n, Int.reduceToNat, Int.toNat_natCast, stE, wlE, lgt, lpu, lpw, v_c2, va_s, true_and, and_true, Option.toList, List.nil_append, List.cons_append, List.take, List.drop, List.reverse, List.reverseAux, List.length_cons, List.length_nil, reduceCtorEq, false_implies, true_implies, forall_const, not_true_eq_false, not_false_eq_true, ite_true, ite_false, Bool.false_eq_true, I_I, J_J, Nat.add_left_cancel_iff, Nat.reduceEqDiff, Nat.add_eq_left, Nat.left_eq_add, false_and, and_false, Nat.reduceSub, Nat.sub_self, Nat.le_refl, Nat.zero_le, ge_iff_le, Nat.reduceAdd, Nat.reduceLeDiff, Nat.zero_add, Nat.reduceLT, s0, hA.1.2.2.2.2]
  have e : A 4 = (((A 4).toNat : Nat) : Int) := by omega
  have := c_cnt_7 (Q := Q) hway (A 2 - A 4).toNat A (A 4).toNat w .null (by omega) (by omega) (by omega) hM0 hA hI0 hq
  rw [← e] at this
  exact this
def LogA (w : mW) (b : Nat) (A : Row) : Prop := ∃ o : Nat, o < 30 ∧ 0 ≤ A 18 ∧ A 18 ≤ 30 ∧ w_I w (b + 7) 0 = Int32.ofInt (A 18) ∧ w_I w (b + 7) 1 = Int32.ofInt o ∧ ∀ i k : Nat, (i : Int) < A 18 → k < 4 → w_I w (b + 8) ((o + i) % 30 * 4 + k) = Int32.ofInt (A (132 + 4 * i + k))
def a_log (A : Row) (x y z r : Int) : Row :=
  let B := if A 18 = 30 then up (fun j => if 132 ≤ j ∧ j < 248 then A (j + 4) else A j) 18 29 else A
  let t := 132 + 4 * (B 18).toNat
  up (up (up (up (up B t x) (t + 1) y) (t + 2) z) (t + 3) r) 18 (B 18 + 1)
theorem c_log {b : Nat} {x y z r : Int} {w : mW} {A : Row} {Q : mW → mO → Prop} (hM : Mb w b) (hL : LogA w b A) (hq : ∀ w', LogA w' b (a_log A x y z r) → Fr [b + 7, b + 8] w w' → Q w' (.inl none)) : CT n_X8_add [.ref (b + 7), .int (Int32.ofInt x), .int (Int32.ofInt y), .int (Int32.ofInt z), .int (Int32.ofInt r)] w Q := by
  obtain ⟨⟨s0, s1, s2, s3, s4, s5, s6, s7, s8, s9, s10, s11⟩, r6, r7, r8, r9, r10, r11, r12, r13, q2, q10, q11⟩ := hM
  obtain ⟨o, ho, hs0, hs30, e0, e1, he⟩ := hL
  obtain ⟨s, hs⟩ : ∃ s : Nat, A 18 = s := ⟨(A 18).toNat, by omega⟩
  rw [hs] at e0 hs0 hs30 he
  have h30 : inR (30 : Int) := ⟨by omega, by omega⟩
  have hos : inR ((o : Int) + s) := ⟨by omega, by omega⟩
  have hF : ((o : Int) + s) % 30 * 4 = (((o + s) % 30 * 4 : Nat) : Int) := by omega
  have hf0 : inR (((o + s) % 30 * 4 : Nat) : Int) := ⟨by omega, by omega⟩
  have hf1 : inR ((((o + s) % 30 * 4 : Nat) : Int) + 1) := ⟨by omega, by omega⟩
  have hf2 : inR ((((o + s) % 30 * 4 : Nat) : Int) + 2) := ⟨by omega, by omega⟩
  have hf3 : inR ((((o + s) % 30 * 4 : Nat) : Int) + 3) := ⟨by omega, by omega⟩
  have hsR : inR (s : Int) := ⟨by omega, by omega⟩
  generalize hFF : (o + s) % 30 * 4 = F at hF hf0 hf1 hf2 hf3
  have t1 : ((F : Int) + 1).toNat = F + 1 := by omega
  have t2 : ((F : Int) + 2).toNat = F + 2 := by omega
  have t3 : ((F : Int) + 3).toNat = F + 3 := by omega
  refine ct_X8_add (rt_X8_add_0 ?_)
  simp only [wp_c, wp_n, jj_n, Int.reduceToNat, Int.toNat_natCast, stE, wlE, lgt, lpu, lpw, v_c2, va_s, true_and, and_true, Option.toList, List.nil_append, List.cons_append, List.take, List.drop, List.reverse, List.reverseAux, List.length_cons, List.length_nil, reduceCtorEq, false_implies, true_implies, forall_const, not_true_eq_false, not_false_eq_true, ite_true, ite_false, Bool.false_eq_true, I_I, J_J, Nat.add_left_cancel_iff, Nat.reduceEqDiff, Nat.add_eq_left, Nat.left_eq_add, false_and, and_false, Nat.reduceSub, Nat.sub_self, Nat.le_refl, Nat.zero_le, ge_iff_le, Nat.reduceAdd, Nat.reduceLeDiff, Nat.zero_add, Nat.reduceLT, s7, s8, q2, e0, e1, oi_add]
  rw [oi_rem hos h30 (by omega) (by omega)]
  simp only [wp_c, wp_n, jj_n, Int.reduceToNat, Int.toNat_natCast, stE, wlE, lgt, lpu, lpw, v_c2, va_s, true_and, and_true, Option.toList, List.nil_append, List.cons_append, List.take, List.drop, List.reverse, List.reverseAux, List.length_cons, List.length_nil, reduceCtorEq, false_implies, true_implies, forall_const, not_true_eq_false, not_false_eq_true, ite_true, ite_false, Bool.false_eq_true, I_I, J_J, Nat.add_left_cancel_iff, Nat.reduceEqDiff, Nat.add_eq_left, Nat.left_eq_add, false_and, and_false, Nat.reduceSub, Nat.sub_self, Nat.le_refl, Nat.zero_le, ge_iff_le, Nat.reduceAdd, Nat.reduceLeDiff, Nat.zero_add, Nat.reduceLT, oi_mul, hF, oi_add, vp_oi hf0, vp_oi hf1, vp_oi hf2, vp_oi hf3, oi_nc hf0, oi_nc hf1, oi_nc hf2, oi_nc hf3, e0, oi_le h30 hsR, t1, t2, t3]
  have hFF' : F < 120 := by omega
  -- what lies in the entries
  have hent : ∀ (C : Row) (w1 : mW) (i k : Nat), k < 4 → (∀ j, w_I w1 (b + 8) j = w_I (s_I (s_I (s_I (s_I w (b + 8) F (Int32.ofInt x)) (b + 8) (F + 1) (Int32.ofInt y)) (b + 8) (F + 2) (Int32.ofInt z)) (b + 8) (F + 3) (Int32.ofInt r)) (b + 8) j) → i = F → w_I w1 (b + 8) (i + k) = Int32.ofInt (if k = 3 then r else if k = 2 then z else if k = 1 then y else x) := by
    intro C w1 i k hk h1 h2
    rw [h1, h2]
    simp only [I_I, Nat.add_left_cancel_iff]
    rcases (show k = 0 ∨ k = 1 ∨ k = 2 ∨ k = 3 by omega) with rfl | rfl | rfl | rfl <;> simp
  have hold : ∀ (w1 : mW) (j : Nat), (∀ j, w_I w1 (b + 8) j = w_I (s_I (s_I (s_I (s_I w (b + 8) F (Int32.ofInt x)) (b + 8) (F + 1) (Int32.ofInt y)) (b + 8) (F + 2) (Int32.ofInt z)) (b + 8) (F + 3) (Int32.ofInt r)) (b + 8) j) → (j < F ∨ F + 3 < j) → w_I w1 (b + 8) j = w_I w (b + 8) j := by
    intro w1 j h1 h2
    rw [h1, I_I, if_neg (by omega), I_I, if_neg (by omega), I_I, if_neg (by omega), I_I, if_neg (by omega)]
  have hrow : ∀ (B : Row) (t k : Nat), k < 4 → 20 < t → up (up (up (up (up B t x) (t + 1) y) (t + 2) z) (t + 3) r) 18 (B 18 + 1) (t + k) = (if k = 3 then r else if k = 2 then z else if k = 1 then y else x) := by
    intro B t k hk ht
    simp only [up_eq]
    rw [if_neg (by omega)]
    rcases (show k = 0 ∨ k = 1 ∨ k = 2 ∨ k = 3 by omega) with rfl | rfl | rfl | rfl <;> simp
  have hrow2 : ∀ (B : Row) (t j : Nat), (j < t ∨ t + 3 < j) → j ≠ 18 → up (up (up (up (up B t x) (t + 1) y) (t + 2) z) (t + 3) r) 18 (B 18 + 1) j = B j := by
    intro B t j hj h18
    simp only [up_eq]
    rw [if_neg (by omega), if_neg (by omega), if_neg (by omega), if_neg (by omega), if_neg (by omega)]
  refine ⟨by decide, by omega, by omega, by omega, by omega, fun hfull => ?_, fun hfree => ?_⟩
  · have hs3 : s = 30 := by omega
    have ho1 : inR ((o : Int) + 1) := ⟨by omega, by omega⟩
    refine rt_X8_add_77 ?_
    simp only [wp_c, wp_n, jj_n, Int.reduceToNat, Int.toNat_natCast, stE, wlE, lgt, lpu, lpw, v_c2, va_s, true_and, and_true, Option.toList, List.nil_append, List.cons_append, List.take, List.drop, List.reverse, List.reverseAux, List.length_cons, List.length_nil, reduceCtorEq, false_implies, true_implies, forall_const, not_true_eq_false, not_false_eq_true, ite_true, ite_false, Bool.false_eq_true, I_I, J_J, Nat.add_left_cancel_iff, Nat.reduceEqDiff, Nat.add_eq_left, Nat.left_eq_add, false_and, and_false, Nat.reduceSub, Nat.sub_self, Nat.le_refl, Nat.zero_le, ge_iff_le, Nat.reduceAdd, Nat.reduceLeDiff, Nat.zero_add, Nat.reduceLT, s7, e1, oi_add]
    rw [oi_rem ho1 h30 (by omega) (by omega)]
    refine ⟨by decide, ?_⟩
    refine rt_X8_add_90 ?_
    simp only [wp_c, wp_n, jj_n, Int.reduceToNat, Int.toNat_natCast, stE, wlE, lgt, lpu, lpw, v_c2, va_s, true_and, and_true, Option.toList, List.nil_append, List.cons_append, List.take, List.drop, List.reverse, List.reverseAux, List.length_cons, List.length_nil, reduceCtorEq, false_implies, true_implies, forall_const, not_true_eq_false, not_false_eq_true, ite_true, ite_false, Bool.false_eq_true, I_I, J_J, Nat.add_left_cancel_iff, Nat.reduceEqDiff, Nat.add_eq_left, Nat.left_eq_add, false_and, and_false, Nat.reduceSub, Nat.sub_self, Nat.le_refl, Nat.zero_le, ge_iff_le, Nat.reduceAdd, Nat.reduceLeDiff, Nat.zero_add, Nat.reduceLT]
    refine hq _ ⟨(o + 1) % 30, by omega, ?_⟩ (((((Fr.refl _ _).I (by simp)).I (by simp)).I (by simp)).I (by simp) |>.I (by simp))
    have hA18 : A 18 = 30 := by omega
    simp only [a_log, if_pos hA18]
    generalize hB : up (fun j => if 132 ≤ j ∧ j < 248 then A (j + 4) else A j) 18 29 = B
    have hB18 : B 18 = 29 := by rw [← hB, up_eq, if_pos rfl]
    have hBj : ∀ j, 132 ≤ j → j < 248 → B j = A (j + 4) := fun j h1 h2 => by rw [← hB, up_eq, if_neg (by omega), if_pos ⟨h1, h2⟩]
    have ht : 132 + 4 * (B 18).toNat = 248 := by rw [hB18]; rfl
    rw [ht]
    have h18 : up (up (up (up (up B 248 x) (248 + 1) y) (248 + 2) z) (248 + 3) r) 18 (B 18 + 1) 18 = 30 := by rw [up_eq, if_pos rfl, hB18]; rfl
    refine ⟨by omega, by omega, ?_, ?_, fun i k hi hk => ?_⟩
    · rw [h18]; simp only [wp_c, wp_n, jj_n, Int.reduceToNat, Int.toNat_natCast, stE, wlE, lgt, lpu, lpw, v_c2, va_s, true_and, and_true, Option.toList, List.nil_append, List.cons_append, List.take, List.drop, List.reverse, List.reverseAux, List.length_cons, List.length_nil, reduceCtorEq, false_implies, true_implies, forall_const, not_true_eq_false, not_false_eq_true, ite_true, ite_false, Bool.false_eq_true, I_I, J_J, Nat.add_left_cancel_iff, Nat.reduceEqDiff, Nat.add_eq_left, Nat.left_eq_add, false_and, and_false, Nat.reduceSub, Nat.sub_self, Nat.le_refl, Nat.zero_le, ge_iff_le, Nat.reduceAdd, Nat.reduceLeDiff, Nat.zero_add, Nat.reduceLT, e0, hs3]; rfl
    · simp only [wp_c, wp_n, jj_n, Int.reduceToNat, Int.toNat_natCast, stE, wlE, lgt, lpu, lpw, v_c2, va_s, true_and, and_true, Option.toList, List.nil_append, List.cons_append, List.take, List.drop, List.reverse, List.reverseAux, List.length_cons, List.length_nil, reduceCtorEq, false_implies, true_implies, forall_const, not_true_eq_false, not_false_eq_true, ite_true, ite_false, Bool.false_eq_true, I_I, J_J, Nat.add_left_cancel_iff, Nat.reduceEqDiff, Nat.add_eq_left, Nat.left_eq_add, false_and, and_false, Nat.reduceSub, Nat.sub_self, Nat.le_refl, Nat.zero_le, ge_iff_le, Nat.reduceAdd, Nat.reduceLeDiff, Nat.zero_add, Nat.reduceLT]; congr 1
    · rw [h18] at hi
      by_cases h29 : i = 29
      · have e : ((o + 1) % 30 + i) % 30 * 4 = F := by omega
        rw [hent A _ _ k hk (fun j => by simp only [wp_c, wp_n, jj_n, Int.reduceToNat, Int.toNat_natCast, stE, wlE, lgt, lpu, lpw, v_c2, va_s, true_and, and_true, Option.toList, List.nil_append, List.cons_append, List.take, List.drop, List.reverse, List.reverseAux, List.length_cons, List.length_nil, reduceCtorEq, false_implies, true_implies, forall_const, not_true_eq_false, not_false_eq_true, ite_true, ite_false, Bool.false_eq_true, I_I, J_J, Nat.add_left_cancel_iff, Nat.reduceEqDiff, Nat.add_eq_left, Nat.left_eq_add, false_and, and_false, Nat.reduceSub, Nat.sub_self, Nat.le_refl, Nat.zero_le, ge_iff_le, Nat.reduceAdd, Nat.reduceLeDiff, Nat.zero_add, Nat.reduceLT]) e, show 132 + 4 * i + k = 248 + k by omega, hrow B 248 k hk (by omega)]
      · have e : ((o + 1) % 30 + i) % 30 * 4 = (o + (i + 1)) % 30 * 4 := by omega
        rw [hold _ _ (fun j => by simp only [wp_c, wp_n, jj_n, Int.reduceToNat, Int.toNat_natCast, stE, wlE, lgt, lpu, lpw, v_c2, va_s, true_and, and_true, Option.toList, List.nil_append, List.cons_append, List.take, List.drop, List.reverse, List.reverseAux, List.length_cons, List.length_nil, reduceCtorEq, false_implies, true_implies, forall_const, not_true_eq_false, not_false_eq_true, ite_true, ite_false, Bool.false_eq_true, I_I, J_J, Nat.add_left_cancel_iff, Nat.reduceEqDiff, Nat.add_eq_left, Nat.left_eq_add, false_and, and_false, Nat.reduceSub, Nat.sub_self, Nat.le_refl, Nat.zero_le, ge_iff_le, Nat.reduceAdd, Nat.reduceLeDiff, Nat.zero_add, Nat.reduceLT]) (by omega), hrow2 B 248 _ (by omega) (by omega), hBj _ (by omega) (by omega), e, he (i + 1) k (by omega) hk, show 132 + 4 * (i + 1) + k = 132 + 4 * i + k + 4 by omega]
  · have hs3 : s < 30 := by omega
    refine rt_X8_add_90 ?_
    simp only [wp_c, wp_n, jj_n, Int.reduceToNat, Int.toNat_natCast, stE, wlE, lgt, lpu, lpw, v_c2, va_s, true_and, and_true, Option.toList, List.nil_append, List.cons_append, List.take, List.drop, List.reverse, List.reverseAux, List.length_cons, List.length_nil, reduceCtorEq, false_implies, true_implies, forall_const, not_true_eq_false, not_false_eq_true, ite_true, ite_false, Bool.false_eq_true, I_I, J_J, Nat.add_left_cancel_iff, Nat.reduceEqDiff, Nat.add_eq_left, Nat.left_eq_add, false_and, and_false, Nat.reduceSub, Nat.sub_self, Nat.le_refl, Nat.zero_le, ge_iff_le, Nat.reduceAdd, Nat.reduceLeDiff, Nat.zero_add, Nat.reduceLT]
    refine hq _ ⟨o, ho, ?_⟩ (((((Fr.refl _ _).I (by simp)).I (by simp)).I (by simp)).I (by simp) |>.I (by simp))
    have hA18 : ¬ A 18 = 30 := by omega
    simp only [a_log, if_neg hA18]
    have ht : 132 + 4 * (A 18).toNat = 132 + 4 * s := by omega
    rw [ht]
    have h18 : up (up (up (up (up A (132 + 4 * s) x) (132 + 4 * s + 1) y) (132 + 4 * s + 2) z) (132 + 4 * s + 3) r) 18 (A 18 + 1) 18 = (s : Int) + 1 := by rw [up_eq, if_pos rfl, hs]
    refine ⟨by omega, by omega, ?_, ?_, fun i k hi hk => ?_⟩
    · rw [h18]; simp only [wp_c, wp_n, jj_n, Int.reduceToNat, Int.toNat_natCast, stE, wlE, lgt, lpu, lpw, v_c2, va_s, true_and, and_true, Option.toList, List.nil_append, List.cons_append, List.take, List.drop, List.reverse, List.reverseAux, List.length_cons, List.length_nil, reduceCtorEq, false_implies, true_implies, forall_const, not_true_eq_false, not_false_eq_true, ite_true, ite_false, Bool.false_eq_true, I_I, J_J, Nat.add_left_cancel_iff, Nat.reduceEqDiff, Nat.add_eq_left, Nat.left_eq_add, false_and, and_false, Nat.reduceSub, Nat.sub_self, Nat.le_refl, Nat.zero_le, ge_iff_le, Nat.reduceAdd, Nat.reduceLeDiff, Nat.zero_add, Nat.reduceLT]
    · simp only [wp_c, wp_n, jj_n, Int.reduceToNat, Int.toNat_natCast, stE, wlE, lgt, lpu, lpw, v_c2, va_s, true_and, and_true, Option.toList, List.nil_append, List.cons_append, List.take, List.drop, List.reverse, List.reverseAux, List.length_cons, List.length_nil, reduceCtorEq, false_implies, true_implies, forall_const, not_true_eq_false, not_false_eq_true, ite_true, ite_false, Bool.false_eq_true, I_I, J_J, Nat.add_left_cancel_iff, Nat.reduceEqDiff, Nat.add_eq_left, Nat.left_eq_add, false_and, and_false, Nat.reduceSub, Nat.sub_self, Nat.le_refl, Nat.zero_le, ge_iff_le, Nat.reduceAdd, Nat.reduceLeDiff, Nat.zero_add, Nat.reduceLT, e1]
    · rw [h18] at hi
      by_cases his : i = s
      · have e : (o + i) % 30 * 4 = F := by omega
        rw [hent A _ _ k hk (fun j => by simp only [wp_c, wp_n, jj_n, Int.reduceToNat, Int.toNat_natCast, stE, wlE, lgt, lpu, lpw, v_c2, va_s, true_and, and_true, Option.toList, List.nil_append, List.cons_append, List.take, List.drop, List.reverse, List.reverseAux, List.length_cons, List.length_nil, reduceCtorEq, false_implies, true_implies, forall_const, not_true_eq_false, not_false_eq_true, ite_true, ite_false, Bool.false_eq_true, I_I, J_J, Nat.add_left_cancel_iff, Nat.reduceEqDiff, Nat.add_eq_left, Nat.left_eq_add, false_and, and_false, Nat.reduceSub, Nat.sub_self, Nat.le_refl, Nat.zero_le, ge_iff_le, Nat.reduceAdd, Nat.reduceLeDiff, Nat.zero_add, Nat.reduceLT]) e, show 132 + 4 * i + k = 132 + 4 * s + k by omega, hrow A _ k hk (by omega)]
      · rw [hold _ _ (fun j => by simp only [wp_c, wp_n, jj_n, Int.reduceToNat, Int.toNat_natCast, stE, wlE, lgt, lpu, lpw, v_c2, va_s, true_and, and_true, Option.toList, List.nil_append, List.cons_append, List.take, List.drop, List.reverse, List.reverseAux, List.length_cons, List.length_nil, reduceCtorEq, false_implies, true_implies, forall_const, not_true_eq_false, not_false_eq_true, ite_true, ite_false, Bool.false_eq_true, I_I, J_J, Nat.add_left_cancel_iff, Nat.reduceEqDiff, Nat.add_eq_left, Nat.left_eq_add, false_and, and_false, Nat.reduceSub, Nat.sub_self, Nat.le_refl, Nat.zero_le, ge_iff_le, Nat.reduceAdd, Nat.reduceLeDiff, Nat.zero_add, Nat.reduceLT]) (by omega), hrow2 A _ _ (by omega) (by omega), he i k (by omega) hk]
/-! the library's floorMod -/
def inL (a : Int) : Prop := -9223372036854775808 ≤ a ∧ a ≤ 9223372036854775807
theorem lo_to {a : Int} (h : inL a) : (Int64.ofInt a).toInt = a := Int64.toInt_ofInt_of_le h.1 (by have := h.2; omega)
theorem lo_lt {a b : Int} (ha : inL a) (hb : inL b) : Int64.ofInt a < Int64.ofInt b ↔ a < b := by
  rw [Int64.lt_iff_toInt_lt, lo_to ha, lo_to hb]
theorem lo_eq {a b : Int} (ha : inL a) (hb : inL b) : Int64.ofInt a = Int64.ofInt b ↔ a = b := by
  rw [← Int64.toInt_inj, lo_to ha, lo_to hb]
theorem lo_div {a b : Int} (ha : inL a) (hb : inL b) (h1 : 0 < b) : Int64.ofInt a / Int64.ofInt b = Int64.ofInt (a.tdiv b) := by
  rw [← Int64.toInt_inj, Int64.toInt_div, lo_to ha, lo_to hb, Int64.toInt_ofInt]
theorem msb_l (x : Int64) : x.toBitVec.msb = decide (x < 0) := by
  rw [BitVec.msb_eq_toInt, decide_eq_decide, Int64.lt_iff_toInt_lt]; rfl
theorem xs_l (x y : Int64) : (x ^^^ y) < 0 ↔ ((x < 0) ↔ ¬ (y < 0)) := by
  have h := msb_l (x ^^^ y)
  rw [Int64.toBitVec_xor, BitVec.msb_xor, msb_l, msb_l] at h
  have h' : ((x ^^^ y) < 0) ↔ (Bool.xor (decide (x < 0)) (decide (y < 0)) = true) := by rw [h, decide_eq_true_eq]
  rw [h']
  by_cases h1 : x < 0 <;> by_cases h2 : y < 0 <;> simp only [h1, h2, decide_true, decide_false] <;> decide
theorem msb_i (x : Int32) : x.toBitVec.msb = decide (x < 0) := by
  rw [BitVec.msb_eq_toInt, decide_eq_decide, Int32.lt_iff_toInt_lt]; rfl
theorem xs_i (x y : Int32) : (x ^^^ y) < 0 ↔ ((x < 0) ↔ ¬ (y < 0)) := by
  have h := msb_i (x ^^^ y)
  rw [Int32.toBitVec_xor, BitVec.msb_xor, msb_i, msb_i] at h
  have h' : ((x ^^^ y) < 0) ↔ (Bool.xor (decide (x < 0)) (decide (y < 0)) = true) := by rw [h, decide_eq_true_eq]
  rw [h']
  by_cases h1 : x < 0 <;> by_cases h2 : y < 0 <;> simp only [h1, h2, decide_true, decide_false] <;> decide

theorem lg_0 (x : Int64) : (lg_cmp x 0 ≥ 0) ↔ ¬ x < 0 := by
  unfold lg_cmp
  by_cases h : x > 0
  · rw [if_pos h]
    exact ⟨fun _ => Int64.not_lt.mpr (Int64.le_of_lt h), fun _ => by decide⟩
  · rw [if_neg h]
    by_cases h2 : x = 0
    · rw [if_pos h2, h2]; exact ⟨fun _ => by decide, fun _ => by decide⟩
    · rw [if_neg h2]
      refine ⟨fun q => absurd q (by decide), fun q => absurd (Int64.le_antisymm (Int64.not_lt.mp h) (Int64.not_lt.mp q)) h2⟩
theorem lg_e (x y : Int64) : (lg_cmp x y = 0) ↔ x = y := by
  unfold lg_cmp
  by_cases h : x > y
  · rw [if_pos h]
    refine ⟨fun q => absurd q (by decide), fun q => ?_⟩
    subst q; exact absurd h Int64.lt_irrefl
  · rw [if_neg h]
    by_cases h2 : x = y
    · rw [if_pos h2]; exact ⟨fun _ => h2, fun _ => rfl⟩
    · rw [if_neg h2]; exact ⟨fun q => absurd q (by decide), fun q => absurd q h2⟩
theorem c_fmodL {a m : Int} {w : mW} {Q : mW → mO → Prop} (ha : inL a) (hm : inL m) (h0 : 0 < m) (hq : Q w (.inl (some (.long (Int64.ofInt (a % m)))))) : CT n_J9_floorMod_f86c9 [.long (Int64.ofInt a), .long (Int64.ofInt m)] w Q := by
  have hm0 : ¬ Int64.ofInt m = 0 := by rw [lo_0, lo_eq hm ⟨by omega, by omega⟩]; omega
  have hml : ¬ Int64.ofInt m < 0 := by rw [lo_0, lo_lt hm ⟨by omega, by omega⟩]; omega
  have hal : Int64.ofInt a < 0 ↔ a < 0 := by rw [lo_0, lo_lt ha ⟨by omega, by omega⟩]
  have hr : Int64.ofInt a - Int64.ofInt a / Int64.ofInt m * Int64.ofInt m = Int64.ofInt (a.tmod m) := by
    rw [lo_div ha hm h0, lo_mul, lo_sub, Int.tmod_def, Int.mul_comm m]
  have htm : a.tmod m = if a < 0 ∧ a % m ≠ 0 then a % m - m else a % m := by
    rw [Int.tmod_eq_emod]
    by_cases h1 : 0 ≤ a
    · rw [if_pos (Or.inl h1), if_neg (by omega)]; omega
    · by_cases h2 : a % m = 0
      · rw [if_pos (Or.inr (Int.dvd_of_emod_eq_zero h2)), if_neg (by omega)]; omega
      · have h3 : ¬ (0 ≤ a ∨ m ∣ a) := fun q => q.elim h1 (fun q => h2 (Int.emod_eq_zero_of_dvd q))
        rw [if_neg h3, if_pos ⟨by omega, h2⟩]; omega
  have hrL : inL (a.tmod m) := by
    have h1 := Int.emod_nonneg a (show m ≠ 0 by omega)
    have h2 := Int.emod_lt_of_pos a h0
    have h3 := hm.2
    rw [htm]; split <;> exact ⟨by omega, by omega⟩
  have hre : Int64.ofInt (a.tmod m) = 0 ↔ a.tmod m = 0 := by rw [lo_0, lo_eq hrL ⟨by omega, by omega⟩]
  refine ct_J9_floorMod_f86c9 (rt_J9_floorMod_f86c9_0 ?_)
  simp only [wp_c, wp_n, jj_n, Int.reduceToNat, Int.toNat_natCast, stE, wlE, lgt, lpu, lpw, v_c2, va_s, true_and, and_true, Option.toList, List.nil_append, List.cons_append, List.take, List.drop, List.reverse, List.reverseAux, List.length_cons, List.length_nil, reduceCtorEq, false_implies, true_implies, forall_const, not_true_eq_false, not_false_eq_true, ite_true, ite_false, Bool.false_eq_true, I_I, J_J, Nat.add_left_cancel_iff, Nat.reduceEqDiff, Nat.add_eq_left, Nat.left_eq_add, false_and, and_false, Nat.reduceSub, Nat.sub_self, Nat.le_refl, Nat.zero_le, ge_iff_le, Nat.reduceAdd, Nat.reduceLeDiff, Nat.zero_add, Nat.reduceLT, hr, ← ge_iff_le, lg_0, lg_e, hre, xs_l, hal, hml, lo_add]
  have h25 : a.tmod m = a % m → RT n_J9_floorMod_f86c9 25 [.long (Int64.ofInt a), .null, .long (Int64.ofInt m), .null, .long (Int64.ofInt (a.tmod m)), .null] [] w (0, 0, false) Q := by
    intro e
    refine rt_J9_floorMod_f86c9_25 ?_
    simp only [wp_c, wp_n, jj_n, Int.reduceToNat, Int.toNat_natCast, stE, wlE, lgt, lpu, lpw, v_c2, va_s, true_and, and_true, Option.toList, List.nil_append, List.cons_append, List.take, List.drop, List.reverse, List.reverseAux, List.length_cons, List.length_nil, reduceCtorEq, false_implies, true_implies, forall_const, not_true_eq_false, not_false_eq_true, ite_true, ite_false, Bool.false_eq_true, I_I, J_J, Nat.add_left_cancel_iff, Nat.reduceEqDiff, Nat.add_eq_left, Nat.left_eq_add, false_and, and_false, Nat.reduceSub, Nat.sub_self, Nat.le_refl, Nat.zero_le, ge_iff_le, Nat.reduceAdd, Nat.reduceLeDiff, Nat.zero_add, Nat.reduceLT]
    rw [e]; exact hq
  refine ⟨hm0, fun h => h25 ?_, fun h => ⟨fun h' => h25 ?_, fun h' => ?_⟩⟩
  · have h1 : ¬ a < 0 := fun q => h ⟨fun _ => trivial, fun _ => q⟩
    rw [htm, if_neg (fun q => h1 q.1)]
  · have h1 : a < 0 := by simpa using h
    rw [htm] at h' ⊢
    by_cases hz : a % m = 0
    · rw [if_neg (fun q => q.2 hz)]
    · rw [if_pos ⟨h1, hz⟩] at h'
      have := Int.emod_lt_of_pos a h0
      omega
  · have h1 : a < 0 := by simpa using h
    rw [htm] at h' ⊢
    by_cases hz : a % m = 0
    · rw [if_neg (fun q => q.2 hz)] at h'; exact absurd hz h'
    · rw [if_pos ⟨h1, hz⟩, show a % m - m + m = a % m by omega]; exact hq
/-! a turn is finished -/
theorem cnt_s (way : Int) : ∀ (n : Nat) (A : Row) (wh j : Nat), (j < 44 ∨ 44 + wh + n ≤ j ∨ n = 0) → a_cnt n A wh way j = A j := by
  intro n
  induction n with
  | zero => intro A wh j _; rfl
  | succ n ih =>
    intro A wh j hj
    simp only [a_cnt]
    split
    · rw [ih _ _ _ (by omega), up_eq, if_neg (by omega)]
    · rw [up_eq, if_neg (by omega)]
theorem cnts_TI {way : Int} (hway : way = 1 ∨ way = -1) : ∀ (n : Nat) (A : Row) (wh : Nat), TI A → (wh + n ≤ 8 ∨ n = 0) → TI (a_cnt n A wh way) := by
  intro n
  induction n with
  | zero => intro A wh h _; exact h
  | succ n ih =>
    intro A wh h hn
    have h3 := h.2.2.2.2.1 wh (by omega)
    have g : TI (up A (44 + wh) ((A (44 + wh) + way + 10) % 10)) := h.cnt ⟨by omega, by omega⟩ (by omega)
    simp only [a_cnt]
    split
    · exact ih _ _ g (by omega)
    · exact g
theorem LogA.row {w : mW} {b : Nat} {A B : Row} (h : LogA w b A) (hs : B 18 = A 18) (hr : ∀ j, 132 ≤ j → B j = A j) : LogA w b B := by
  obtain ⟨o, h1, h2, h3, h4, h5, h6⟩ := h
  exact ⟨o, h1, by rw [hs]; exact h2, by rw [hs]; exact h3, by rw [hs]; exact h4, h5, fun i k hi hk => by rw [hs] at hi; rw [hr _ (by omega)]; exact h6 i k hi hk⟩
theorem LogA.fr {l : List Nat} {w w' : mW} {b : Nat} {A : Row} (h : LogA w b A) (f : Fr l w w') (h7 : b + 7 ∉ l) (h8 : b + 8 ∉ l) : LogA w' b A := by
  unfold LogA
  rw [(f.2.2.2 _ h7).1, (f.2.2.2 _ h8).1]
  exact h
theorem T9.fr {l : List Nat} {w w' : mW} {b : Nat} {jm dv d p pl : Int} {c l0 : Int32} (h : T9 w b jm dv d p pl c l0) (f : Fr l w w') (h9 : b + 9 ∉ l) : T9 w' b jm dv d p pl c l0 := by
  unfold T9
  rw [(f.2.2.2 _ h9).1]
  exact h
theorem log_s (A : Row) (x y z r : Int) (h : 0 ≤ A 18) (j : Nat) (hj : j ≠ 18 ∧ j < 132) : a_log A x y z r j = A j := by
  simp only [a_log]
  split
  · have e : (up (fun j => if 132 ≤ j ∧ j < 248 then A (j + 4) else A j) 18 29 18) = 29 := by rw [up_eq, if_pos rfl]
    simp only [up_eq, if_pos rfl]
    rw [if_neg (by omega), if_neg (by omega), if_neg (by omega), if_neg (by omega), if_neg (by omega), if_neg (by omega), if_neg (by omega)]
  · simp only [up_eq]
    rw [if_neg (by omega), if_neg (by omega), if_neg (by omega), if_neg (by omega), if_neg (by omega)]
def p_num (A : Row) : Int := hn (fun i => A (20 + i)) (A 0).toNat 0
theorem hn_b (f : Nat → Int) : ∀ (n : Nat) (v : Int), (∀ i, i < n → 0 ≤ f i ∧ f i ≤ 9) → 0 ≤ v → v * 10 ^ n ≤ hn f n v ∧ hn f n v < (v + 1) * 10 ^ n := by
  intro n
  induction n with
  | zero => intro v _ _; simp only [hn]; omega
  | succ n ih =>
    intro v h hv
    obtain ⟨h1, h2⟩ := h n (by omega)
    obtain ⟨g1, g2⟩ := ih (v * 10 + f n) (fun i hi => h i (by omega)) (by omega)
    simp only [hn]
    have hp : (0 : Int) ≤ 10 ^ n := Int.le_of_lt (Int.pow_pos (by decide))
    refine ⟨Int.le_trans ?_ g1, Int.lt_of_lt_of_le g2 ?_⟩
    · rw [Int.pow_succ, Int.mul_comm (10 ^ n) 10, ← Int.mul_assoc]
      exact Int.mul_le_mul_of_nonneg_right (by omega) hp
    · rw [Int.pow_succ, Int.mul_comm (10 ^ n) 10, ← Int.mul_assoc]
      exact Int.mul_le_mul_of_nonneg_right (by omega) hp
theorem p_b {A : Row} (h : TI A) : 0 ≤ p_num A ∧ p_num A < 10 ^ (A 0).toNat := by
  obtain ⟨h0, h7, h1, -⟩ := h
  have := hn_b (fun i => A (20 + i)) (A 0).toNat 0 (fun i hi => h1 i (by omega)) (by omega)
  simpa [p_num] using this
theorem p10 (n : Nat) (h : n ≤ 8) : (10 : Int) ^ n ≤ 100000000 := by
  have : n = 0 ∨ n = 1 ∨ n = 2 ∨ n = 3 ∨ n = 4 ∨ n = 5 ∨ n = 6 ∨ n = 7 ∨ n = 8 := by omega
  rcases this with rfl | rfl | rfl | rfl | rfl | rfl | rfl | rfl | rfl <;> decide
theorem p16 (n : Nat) (h : n ≤ 16) : 0 < (10 : Int) ^ n ∧ (10 : Int) ^ n ≤ 10000000000000000 := by
  refine ⟨Int.pow_pos (by decide), ?_⟩
  have : n ≤ 8 ∨ n = 9 ∨ n = 10 ∨ n = 11 ∨ n = 12 ∨ n = 13 ∨ n = 14 ∨ n = 15 ∨ n = 16 := by omega
  rcases this with h | rfl | rfl | rfl | rfl | rfl | rfl | rfl | rfl
  · exact Int.le_trans (p10 n h) (by decide)
  all_goals decide
theorem li_o {a : Int} (h : inR a) : (Int64.ofInt a).toInt32 = Int32.ofInt a := by
  rw [Int64.toInt32_ofInt]
theorem pw_o (n : Nat) : pw10 n = Int64.ofInt (10 ^ n) := by
  rw [pw10, lo_nat]; congr 1
theorem c_pinNumber {b : Nat} {w : mW} {A : Row} {Q : mW → mO → Prop} (hM : Mb w b) (hA : MemA w b A) (hI : TI A) (hq : Q w (.inl (some (.int (Int32.ofInt (p_num A)))))) : CT n_X2_pinNumber [.ref b] w Q := by
  obtain ⟨⟨s0, s1, s2, s3, s4, s5, s6, s7, s8, s9, s10, s11⟩, r6, r7, r8, r9, r10, r11, r12, r13, q2, q10, q11⟩ := hM
  have hb := p_b hI
  have h8 := p10 (A 0).toNat (by have := hI.1; omega)
  have e : A 0 = ((A 0).toNat : Int) := by have := hI.1; omega
  refine ct_X2_pinNumber (rt_X2_pinNumber_0 ?_)
  simp only [wp_c, wp_n, jj_n, Int.reduceToNat, Int.toNat_natCast, stE, wlE, lgt, lpu, lpw, v_c2, va_s, true_and, and_true, Option.toList, List.nil_append, List.cons_append, List.take, List.drop, List.reverse, List.reverseAux, List.length_cons, List.length_nil, reduceCtorEq, false_implies, true_implies, forall_const, not_true_eq_false, not_false_eq_true, ite_true, ite_false, Bool.false_eq_true, I_I, J_J, Nat.add_left_cancel_iff, Nat.reduceEqDiff, Nat.add_eq_left, Nat.left_eq_add, false_and, and_false, Nat.reduceSub, Nat.sub_self, Nat.le_refl, Nat.zero_le, ge_iff_le, Nat.reduceAdd, Nat.reduceLeDiff, Nat.zero_add, Nat.reduceLT, s0, r6, hA.1.1, mh_X2_pinNumber, mr_X2_pinNumber]
  rw [e]
  refine c_numOf s1 (by have := hI.1; omega) (by omega) (f := fun i => A (20 + i)) (fun i hi => ⟨hA.2.1 i (by have := hI.1; omega), ?_⟩) ?_
  · have := hI.2.2.1 i (by have := hI.1; omega); exact ⟨by omega, by omega⟩
  · simp only [wp_c, wp_n, jj_n, Int.reduceToNat, Int.toNat_natCast, stE, wlE, lgt, lpu, lpw, v_c2, va_s, true_and, and_true, Option.toList, List.nil_append, List.cons_append, List.take, List.drop, List.reverse, List.reverseAux, List.length_cons, List.length_nil, reduceCtorEq, false_implies, true_implies, forall_const, not_true_eq_false, not_false_eq_true, ite_true, ite_false, Bool.false_eq_true, I_I, J_J, Nat.add_left_cancel_iff, Nat.reduceEqDiff, Nat.add_eq_left, Nat.left_eq_add, false_and, and_false, Nat.reduceSub, Nat.sub_self, Nat.le_refl, Nat.zero_le, ge_iff_le, Nat.reduceAdd, Nat.reduceLeDiff, Nat.zero_add, Nat.reduceLT]
    rw [li_o]
    · exact hq
    · have : hn (fun i => A (20 + i)) (A 0).toNat 0 = p_num A := rfl
      rw [this]; exact ⟨by omega, by omega⟩
theorem c_modulus {b : Nat} {w : mW} {A : Row} {Q : mW → mO → Prop} (hM : Mb w b) (hA : MemA w b A) (hI : 0 ≤ A 1 ∧ A 1 ≤ 16) (hq : Q w (.inl (some (.long (Int64.ofInt (10 ^ (A 1).toNat)))))) : CT n_X2_modulus [.ref b] w Q := by
  have s0 := hM.1.1
  have hR : inR (A 1) := ⟨by omega, by omega⟩
  refine ct_X2_modulus (rt_X2_modulus_0 ?_)
  simp only [wp_c, wp_n, jj_n, Int.reduceToNat, Int.toNat_natCast, stE, wlE, lgt, lpu, lpw, v_c2, va_s, true_and, and_true, Option.toList, List.nil_append, List.cons_append, List.take, List.drop, List.reverse, List.reverseAux, List.length_cons, List.length_nil, reduceCtorEq, false_implies, true_implies, forall_const, not_true_eq_false, not_false_eq_true, ite_true, ite_false, Bool.false_eq_true, I_I, J_J, Nat.add_left_cancel_iff, Nat.reduceEqDiff, Nat.add_eq_left, Nat.left_eq_add, false_and, and_false, Nat.reduceSub, Nat.sub_self, Nat.le_refl, Nat.zero_le, ge_iff_le, Nat.reduceAdd, Nat.reduceLeDiff, Nat.zero_add, Nat.reduceLT, s0, hA.1.2.1, vp_oi hR, oi_nc hR, pw_o]
  exact ⟨by omega, hq⟩
/-- what a finished turn leaves -/
def a_endC (A : Row) : Row :=
  let B := a_cnt (A 2 - A 4).toNat A (A 4).toNat (if 0 < A 8 then -A 7 else A 7)
  let C := up B 12 (B 12 + 1)
  let D := if A 7 = -1 then up C 13 (C 13 + 1) else C
  a_log D (A 7) (A 4) (p_num A) (A 9)
theorem c_finish {b : Nat} {w : mW} {A : Row} {D p pl : Int} {c l : Int32} {Q : mW → mO → Prop} (hM : Mb w b) (hA : MemA w b A) (hI : TI A) (hL : LogA w b A) (hT : T9 w b 0 (if 0 < A 8 then 1 else 0) (A 7) p pl c l) (hD : w_J w b 5 = Int64.ofInt D) (hD0 : 0 ≤ D ∧ D < 10 ^ (A 1).toNat)
  (hq : ∀ w', MemA w' b (a_endC A) → LogA w' b (a_endC A) → w_J w' b 5 = Int64.ofInt ((D + A 7 * (p_num A * 10 ^ (A 4).toNat)) % 10 ^ (A 1).toNat) → Fr [b, b + 3, b + 6, b + 7, b + 8] w w' → Q w' (.inl none)) : CT n_X2_finishTurn [.ref b] w Q := by
  have hM0 := hM
  obtain ⟨⟨s0, s1, s2, s3, s4, s5, s6, s7, s8, s9, s10, s11⟩, r6, r7, r8, r9, r10, r11, r12, r13, q2, q10, q11⟩ := hM
  have hA0 := hA
  obtain ⟨⟨b0, b1, b2, b3, b4⟩, a1, a2, a3, a4, a5, a6, a7, a8, a9⟩ := hA
  have hT0 := hT
  obtain ⟨t0, t1, t2, t3, t4, t8, t9⟩ := hT
  have hI0 := hI
  obtain ⟨h0, h7, h1, h2, h3, h4, h5⟩ := hI
  have hpb := p_b hI0
  have hp8 := p10 (A 0).toNat (by omega)
  have hq16 := p16 (A 4).toNat (by omega)
  have hM16 := p16 (A 1).toNat (by omega)
  have hpR : inR (p_num A) := ⟨by omega, by omega⟩
  have h7R : inR (A 7) := ⟨by omega, by omega⟩
  have h4R : inR (A 4) := ⟨by omega, by omega⟩
  have hprod : 0 ≤ p_num A * 10 ^ (A 4).toNat ∧ p_num A * 10 ^ (A 4).toNat ≤ 10000000000000000 := by
    refine ⟨Int.mul_nonneg hpb.1 (Int.le_of_lt hq16.1), ?_⟩
    have e1 : p_num A * 10 ^ (A 4).toNat ≤ 10 ^ (A 0).toNat * 10 ^ (A 4).toNat := Int.mul_le_mul_of_nonneg_right (by omega) (Int.le_of_lt hq16.1)
    rw [← Int.pow_add] at e1
    exact Int.le_trans e1 (p16 _ (by omega)).2
  have hL1 : inL (D + A 7 * (p_num A * 10 ^ (A 4).toNat)) := by
    rcases h7 with h | h <;> rw [h] <;> exact ⟨by omega, by omega⟩
  refine ct_X2_finishTurn (rt_X2_finishTurn_0 ?_)
  simp only [wp_c, wp_n, jj_n, Int.reduceToNat, Int.toNat_natCast, stE, wlE, lgt, lpu, lpw, v_c2, va_s, true_and, and_true, Option.toList, List.nil_append, List.cons_append, List.take, List.drop, List.reverse, List.reverseAux, List.length_cons, List.length_nil, reduceCtorEq, false_implies, true_implies, forall_const, not_true_eq_false, not_false_eq_true, ite_true, ite_false, Bool.false_eq_true, I_I, J_J, Nat.add_left_cancel_iff, Nat.reduceEqDiff, Nat.add_eq_left, Nat.left_eq_add, false_and, and_false, Nat.reduceSub, Nat.sub_self, Nat.le_refl, Nat.zero_le, ge_iff_le, Nat.reduceAdd, Nat.reduceLeDiff, Nat.zero_add, Nat.reduceLT, s0, mh_X2_finishTurn]
  refine c_pinNumber hM0 hA0 hI0 ?_
  simp only [wp_c, wp_n, jj_n, Int.reduceToNat, Int.toNat_natCast, stE, wlE, lgt, lpu, lpw, v_c2, va_s, true_and, and_true, Option.toList, List.nil_append, List.cons_append, List.take, List.drop, List.reverse, List.reverseAux, List.length_cons, List.length_nil, reduceCtorEq, false_implies, true_implies, forall_const, not_true_eq_false, not_false_eq_true, ite_true, ite_false, Bool.false_eq_true, I_I, J_J, Nat.add_left_cancel_iff, Nat.reduceEqDiff, Nat.add_eq_left, Nat.left_eq_add, false_and, and_false, Nat.reduceSub, Nat.sub_self, Nat.le_refl, Nat.zero_le, ge_iff_le, Nat.reduceAdd, Nat.reduceLeDiff, Nat.zero_add, Nat.reduceLT, s0, s9, r13, t2, hD, b4, lo_i hpR, lo_i h7R, vp_oi h4R, oi_nc h4R, pw_o, lo_mul, lo_add, mh_X2_finishTurn]
  refine ⟨by omega, c_modulus hM0 hA0 (by omega) ?_⟩
  simp only [wp_c, wp_n, jj_n, Int.reduceToNat, Int.toNat_natCast, stE, wlE, lgt, lpu, lpw, v_c2, va_s, true_and, and_true, Option.toList, List.nil_append, List.cons_append, List.take, List.drop, List.reverse, List.reverseAux, List.length_cons, List.length_nil, reduceCtorEq, false_implies, true_implies, forall_const, not_true_eq_false, not_false_eq_true, ite_true, ite_false, Bool.false_eq_true, I_I, J_J, Nat.add_left_cancel_iff, Nat.reduceEqDiff, Nat.add_eq_left, Nat.left_eq_add, false_and, and_false, Nat.reduceSub, Nat.sub_self, Nat.le_refl, Nat.zero_le, ge_iff_le, Nat.reduceAdd, Nat.reduceLeDiff, Nat.zero_add, Nat.reduceLT]
  refine c_fmodL hL1 ⟨by omega, by omega⟩ hM16.1 ?_
  simp only [wp_c, wp_n, jj_n, Int.reduceToNat, Int.toNat_natCast, stE, wlE, lgt, lpu, lpw, v_c2, va_s, true_and, and_true, Option.toList, List.nil_append, List.cons_append, List.take, List.drop, List.reverse, List.reverseAux, List.length_cons, List.length_nil, reduceCtorEq, false_implies, true_implies, forall_const, not_true_eq_false, not_false_eq_true, ite_true, ite_false, Bool.false_eq_true, I_I, J_J, Nat.add_left_cancel_iff, Nat.reduceEqDiff, Nat.add_eq_left, Nat.left_eq_add, false_and, and_false, Nat.reduceSub, Nat.sub_self, Nat.le_refl, Nat.zero_le, ge_iff_le, Nat.reduceAdd, Nat.reduceLeDiff, Nat.zero_add, Nat.reduceLT, s0, s9, r13, t1]
  generalize hE : (D + A 7 * (p_num A * 10 ^ (A 4).toNat)) % 10 ^ (A 1).toNat = E at hq ⊢
  have f1 : Fr [b] w (s_J w b 5 (Int64.ofInt E)) := (Fr.refl _ _).J (by simp)
  have hA1 : MemA (s_J w b 5 (Int64.ofInt E)) b A := hA0
  have hL1' : LogA (s_J w b 5 (Int64.ofInt E)) b A := hL
  have hJ1 : w_J (s_J w b 5 (Int64.ofInt E)) b 5 = Int64.ofInt E := by rw [J_J, if_pos ⟨rfl, rfl⟩]
  have hM1 : Mb (s_J w b 5 (Int64.ofInt E)) b := hM0
  have hT1 : T9 (s_J w b 5 (Int64.ofInt E)) b 0 (if 0 < A 8 then 1 else 0) (A 7) p pl c l := hT0
  have hway : (if 0 < A 8 then -A 7 else A 7) = 1 ∨ (if 0 < A 8 then -A 7 else A 7) = -1 := by split <;> omega
  -- behind the counter's way
  have h70 : RT n_X2_finishTurn 70 [.ref b, .int (Int32.ofInt (p_num A))] [.int (Int32.ofInt (if 0 < A 8 then -A 7 else A 7)), .ref b] (s_J w b 5 (Int64.ofInt E)) (0, 0, false) Q := by
    generalize s_J w b 5 (Int64.ofInt E) = w1 at f1 hA1 hL1' hJ1 hM1 hT1
    refine rt_X2_finishTurn_70 ?_
    simp only [wp_c, wp_n, jj_n, Int.reduceToNat, Int.toNat_natCast, stE, wlE, lgt, lpu, lpw, v_c2, va_s, true_and, and_true, Option.toList, List.nil_append, List.cons_append, List.take, List.drop, List.reverse, List.reverseAux, List.length_cons, List.length_nil, reduceCtorEq, false_implies, true_implies, forall_const, not_true_eq_false, not_false_eq_true, ite_true, ite_false, Bool.false_eq_true, I_I, J_J, Nat.add_left_cancel_iff, Nat.reduceEqDiff, Nat.add_eq_left, Nat.left_eq_add, false_and, and_false, Nat.reduceSub, Nat.sub_self, Nat.le_refl, Nat.zero_le, ge_iff_le, Nat.reduceAdd, Nat.reduceLeDiff, Nat.zero_add, Nat.reduceLT, f1.1, s0, mh_X2_finishTurn]
    refine c_cnt hway hM1 hA1 hI0 fun w2 g2 f2 => ?_
    have hB : ∀ j, (j < 44 ∨ 52 ≤ j) → a_cnt (A 2 - A 4).toNat A (A 4).toNat (if 0 < A 8 then -A 7 else A 7) j = A j := fun j hj => cnt_s _ _ _ _ _ (by omega)
    have hTB := cnts_TI hway (A 2 - A 4).toNat A (A 4).toNat hI0 (by omega)
    have hL2 : LogA w2 b (a_cnt (A 2 - A 4).toNat A (A 4).toNat (if 0 < A 8 then -A 7 else A 7)) := (hL1'.fr f2 (by simp) (by simp)).row (hB _ (by omega)) (fun j hj => hB j (by omega))
    have hT2 := hT1.fr f2 (by simp)
    have hJ2 : w_J w2 b 5 = Int64.ofInt E := by rw [(f2.2.2.2 b (by simp)).2]; exact hJ1
    have hM2 := hM1.fr f2
    have f2' : Fr [b, b + 3, b + 6, b + 7, b + 8] w w2 := f1.trans f2 (by simp) (by simp)
    clear hL1' hJ1 hM1 hT1 hA1 f1 f2
    have hdef : a_endC A = a_log (if A 7 = -1 then up (up (a_cnt (A 2 - A 4).toNat A (A 4).toNat (if 0 < A 8 then -A 7 else A 7)) 12 (a_cnt (A 2 - A 4).toNat A (A 4).toNat (if 0 < A 8 then -A 7 else A 7) 12 + 1)) 13 (up (a_cnt (A 2 - A 4).toNat A (A 4).toNat (if 0 < A 8 then -A 7 else A 7)) 12 (a_cnt (A 2 - A 4).toNat A (A 4).toNat (if 0 < A 8 then -A 7 else A 7) 12 + 1) 13 + 1) else up (a_cnt (A 2 - A 4).toNat A (A 4).toNat (if 0 < A 8 then -A 7 else A 7)) 12 (a_cnt (A 2 - A 4).toNat A (A 4).toNat (if 0 < A 8 then -A 7 else A 7) 12 + 1)) (A 7) (A 4) (p_num A) (A 9) := rfl
    rw [hdef] at hq
    generalize a_cnt (A 2 - A 4).toNat A (A 4).toNat (if 0 < A 8 then -A 7 else A 7) = B at hq hB hTB hL2 g2
    obtain ⟨u0, u1, u2, u3, u4, u8, u9⟩ := hT2
    have g3 := fun v => g2.cts (i := 0) (v := v) (by omega)
    simp only [wp_c, wp_n, jj_n, Int.reduceToNat, Int.toNat_natCast, stE, wlE, lgt, lpu, lpw, v_c2, va_s, true_and, and_true, Option.toList, List.nil_append, List.cons_append, List.take, List.drop, List.reverse, List.reverseAux, List.length_cons, List.length_nil, reduceCtorEq, false_implies, true_implies, forall_const, not_true_eq_false, not_false_eq_true, ite_true, ite_false, Bool.false_eq_true, I_I, J_J, Nat.add_left_cancel_iff, Nat.reduceEqDiff, Nat.add_eq_left, Nat.left_eq_add, false_and, and_false, Nat.reduceSub, Nat.sub_self, Nat.le_refl, Nat.zero_le, ge_iff_le, Nat.reduceAdd, Nat.reduceLeDiff, Nat.zero_add, Nat.reduceLT, f2'.1, f2'.2.1, s0, s6, s9, r11, r13, vp_oi (show inR 0 from ⟨by omega, by omega⟩), oi_nc (show inR 0 from ⟨by omega, by omega⟩), g2.r_cts (show 0 < 6 by omega), oi_add, u2, oi_eq h7R (show inR (-1) from ⟨by omega, by omega⟩)]
    -- the log
    have h104 : ∀ (C : Row) (w3 : mW), MemA w3 b C → LogA w3 b C → Fr [b, b + 3, b + 6, b + 7, b + 8] w w3 → w_J w3 b 5 = Int64.ofInt E → w_I w3 (b + 9) 2 = Int32.ofInt (A 7) → C 4 = A 4 → C 9 = A 9 → 0 ≤ C 18 →
        (∀ w', MemA w' b (a_log C (A 7) (A 4) (p_num A) (A 9)) → LogA w' b (a_log C (A 7) (A 4) (p_num A) (A 9)) → w_J w' b 5 = Int64.ofInt E → Fr [b, b + 3, b + 6, b + 7, b + 8] w w' → Q w' (.inl none)) →
        RT n_X2_finishTurn 104 [.ref b, .int (Int32.ofInt (p_num A))] [] w3 (0, 0, false) Q := by
      intro C w3 k1 k2 k3 k4 k5 k6 k7 k8 kq
      refine rt_X2_finishTurn_104 ?_
      simp only [wp_c, wp_n, jj_n, Int.reduceToNat, Int.toNat_natCast, stE, wlE, lgt, lpu, lpw, v_c2, va_s, true_and, and_true, Option.toList, List.nil_append, List.cons_append, List.take, List.drop, List.reverse, List.reverseAux, List.length_cons, List.length_nil, reduceCtorEq, false_implies, true_implies, forall_const, not_true_eq_false, not_false_eq_true, ite_true, ite_false, Bool.false_eq_true, I_I, J_J, Nat.add_left_cancel_iff, Nat.reduceEqDiff, Nat.add_eq_left, Nat.left_eq_add, false_and, and_false, Nat.reduceSub, Nat.sub_self, Nat.le_refl, Nat.zero_le, ge_iff_le, Nat.reduceAdd, Nat.reduceLeDiff, Nat.zero_add, Nat.reduceLT, k3.1, k3.2.1, s0, s7, s9, r12, r13, k5, k1.1.2.2.2.2, k1.2.2.2.2.2.2.2.1.1, k6, k7, mh_X2_finishTurn]
      refine c_log (hM0.fr k3) k2 fun w4 m1 m2 => ?_
      simp only [wp_c, wp_n, jj_n, Int.reduceToNat, Int.toNat_natCast, stE, wlE, lgt, lpu, lpw, v_c2, va_s, true_and, and_true, Option.toList, List.nil_append, List.cons_append, List.take, List.drop, List.reverse, List.reverseAux, List.length_cons, List.length_nil, reduceCtorEq, false_implies, true_implies, forall_const, not_true_eq_false, not_false_eq_true, ite_true, ite_false, Bool.false_eq_true, I_I, J_J, Nat.add_left_cancel_iff, Nat.reduceEqDiff, Nat.add_eq_left, Nat.left_eq_add, false_and, and_false, Nat.reduceSub, Nat.sub_self, Nat.le_refl, Nat.zero_le, ge_iff_le, Nat.reduceAdd, Nat.reduceLeDiff, Nat.zero_add, Nat.reduceLT]
      refine kq w4 ?_ m1 ?_ (k3.trans m2 (fun _ q => q) (by simp))
      · have m3 := k1.fr m2 (fun c hc c7 c8 => by simp; omega)
        have hls := log_s C (A 7) (A 4) (p_num A) (A 9) k8
        obtain ⟨⟨b0, b1, b2, b3, b4⟩, a1, a2, a3, a4, a5, a6, ⟨c5, c6, c7⟩, a8, a9⟩ := m3
        refine ⟨⟨?_, ?_, ?_, ?_, ?_⟩, fun j hj => ?_, fun j hj => ?_, fun j hj => ?_, fun j hj => ?_, fun j hj => ?_, fun j hj => ?_, ⟨?_, ?_, ?_⟩, fun j hj => ?_, fun j hj => ?_⟩
        all_goals rw [hls _ (by omega)]
        all_goals first | assumption | exact a1 _ hj | exact a2 _ hj | exact a3 _ hj | exact a4 _ hj | exact a5 _ hj | exact a6 _ hj | exact a8 _ hj | exact a9 _ hj
      · rw [(m2.2.2.2 b (by simp)).2]; exact k4
    have hL3 : ∀ v, LogA (s_I w2 (b + 6) 0 (Int32.ofInt v)) b (up B (12 + 0) v) := fun v => (hL2.fr (l := [b + 6]) ((Fr.refl _ _).I (by simp)) (by simp) (by simp)).row (by rw [up_eq, if_neg (by omega)]) (fun j hj => by rw [up_eq, if_neg (by omega)])
    have h18 : 0 ≤ B 18 := by obtain ⟨o, q1, q2, -⟩ := hL2; exact q2
    refine ⟨by omega, by omega, fun hne => ?_, fun heq => ?_⟩
    · rw [if_neg hne] at hq
      refine h104 _ _ (g3 _) (hL3 _) (f2'.I (by simp)) hJ2 ?_ ?_ ?_ ?_ hq
      · simp only [wp_c, wp_n, jj_n, Int.reduceToNat, Int.toNat_natCast, stE, wlE, lgt, lpu, lpw, v_c2, va_s, true_and, and_true, Option.toList, List.nil_append, List.cons_append, List.take, List.drop, List.reverse, List.reverseAux, List.length_cons, List.length_nil, reduceCtorEq, false_implies, true_implies, forall_const, not_true_eq_false, not_false_eq_true, ite_true, ite_false, Bool.false_eq_true, I_I, J_J, Nat.add_left_cancel_iff, Nat.reduceEqDiff, Nat.add_eq_left, Nat.left_eq_add, false_and, and_false, Nat.reduceSub, Nat.sub_self, Nat.le_refl, Nat.zero_le, ge_iff_le, Nat.reduceAdd, Nat.reduceLeDiff, Nat.zero_add, Nat.reduceLT, u2]
      · rw [up_eq, if_neg (by omega)]; exact hB _ (by omega)
      · rw [up_eq, if_neg (by omega)]; exact hB _ (by omega)
      · rw [up_eq, if_neg (by omega)]; exact h18
    · have h1 : A 7 = -1 := by omega
      rw [if_pos h1] at hq
      have e13 : w_I w2 (b + 6) 1 = Int32.ofInt (up B 12 (B 12 + 1) 13) := by rw [g2.r_cts (show 1 < 6 by omega), up_eq, if_neg (by omega)]
      simp only [vp_oi (show inR 1 from ⟨by omega, by omega⟩), oi_nc (show inR 1 from ⟨by omega, by omega⟩), wp_c, wp_n, jj_n, Int.reduceToNat, Int.toNat_natCast, stE, wlE, lgt, lpu, lpw, v_c2, va_s, true_and, and_true, Option.toList, List.nil_append, List.cons_append, List.take, List.drop, List.reverse, List.reverseAux, List.length_cons, List.length_nil, reduceCtorEq, false_implies, true_implies, forall_const, not_true_eq_false, not_false_eq_true, ite_true, ite_false, Bool.false_eq_true, I_I, J_J, Nat.add_left_cancel_iff, Nat.reduceEqDiff, Nat.add_eq_left, Nat.left_eq_add, false_and, and_false, Nat.reduceSub, Nat.sub_self, Nat.le_refl, Nat.zero_le, ge_iff_le, Nat.reduceAdd, Nat.reduceLeDiff, Nat.zero_add, Nat.reduceLT, e13, oi_add]
      refine ⟨by omega, by omega, ?_⟩
      refine h104 _ _ ((g3 _).cts (i := 1) (by omega)) ?_ ((f2'.I (by simp)).I (by simp)) hJ2 ?_ ?_ ?_ ?_ hq
      · exact ((hL3 _).fr (l := [b + 6]) ((Fr.refl _ _).I (by simp)) (by simp) (by simp)).row (by rw [up_eq, if_neg (by omega)]) (fun j hj => by rw [up_eq, if_neg (by omega)])
      · simp only [wp_c, wp_n, jj_n, Int.reduceToNat, Int.toNat_natCast, stE, wlE, lgt, lpu, lpw, v_c2, va_s, true_and, and_true, Option.toList, List.nil_append, List.cons_append, List.take, List.drop, List.reverse, List.reverseAux, List.length_cons, List.length_nil, reduceCtorEq, false_implies, true_implies, forall_const, not_true_eq_false, not_false_eq_true, ite_true, ite_false, Bool.false_eq_true, I_I, J_J, Nat.add_left_cancel_iff, Nat.reduceEqDiff, Nat.add_eq_left, Nat.left_eq_add, false_and, and_false, Nat.reduceSub, Nat.sub_self, Nat.le_refl, Nat.zero_le, ge_iff_le, Nat.reduceAdd, Nat.reduceLeDiff, Nat.zero_add, Nat.reduceLT, u2]
      · rw [up_eq, if_neg (by omega), up_eq, if_neg (by omega)]; exact hB _ (by omega)
      · rw [up_eq, if_neg (by omega), up_eq, if_neg (by omega)]; exact hB _ (by omega)
      · rw [up_eq, if_neg (by omega), up_eq, if_neg (by omega)]; exact h18
  refine ⟨fun h => ?_, fun h => ?_⟩
  · have hn : ¬ 0 < A 8 := fun q => by rw [if_pos q] at h; exact absurd h (by decide)
    rw [if_neg hn] at h70
    refine rt_X2_finishTurn_63 ?_
    simp only [wp_c, wp_n, jj_n, Int.reduceToNat, Int.toNat_natCast, stE, wlE, lgt, lpu, lpw, v_c2, va_s, true_and, and_true, Option.toList, List.nil_append, List.cons_append, List.take, List.drop, List.reverse, List.reverseAux, List.length_cons, List.length_nil, reduceCtorEq, false_implies, true_implies, forall_const, not_true_eq_false, not_false_eq_true, ite_true, ite_false, Bool.false_eq_true, I_I, J_J, Nat.add_left_cancel_iff, Nat.reduceEqDiff, Nat.add_eq_left, Nat.left_eq_add, false_and, and_false, Nat.reduceSub, Nat.sub_self, Nat.le_refl, Nat.zero_le, ge_iff_le, Nat.reduceAdd, Nat.reduceLeDiff, Nat.zero_add, Nat.reduceLT, s0, s9, r13, t2]
    exact h70
  · have hn : 0 < A 8 := by
      by_cases q : 0 < A 8
      · exact q
      · rw [if_neg q] at h; exact absurd rfl h
    rw [if_pos hn] at h70
    rw [t2, oi_neg]
    exact h70
/-! the turn goes on -/
def kp (j : Nat) : Prop := j < 9 ∨ (12 ≤ j ∧ j < 14) ∨ (18 ≤ j ∧ j < 28) ∨ (44 ≤ j ∧ j < 52) ∨ (68 ≤ j ∧ j < 84) ∨ 116 ≤ j
theorem mv_k (A : Row) (i j : Nat) (m : Int) (hi : i < 16) (hj : kp j) : a_mv A i m j = A j := mv_s A i j m hi (by unfold kp at hj; omega)
theorem tal_k (A : Row) (k j : Nat) (hk : k < 3) (hj : kp j) : a_tal A k j = A j := by
  unfold kp at hj
  simp only [a_tal, up_eq]
  rw [if_neg (by omega), if_neg (by omega)]
theorem lev_k : ∀ (n : Nat) (A : Row) (wh : Nat) (c l : Int32) (j : Nat), (wh : Int) + n = A 1 → A 1 ≤ 16 → kp j → (a_lev n A wh c l).1 j = A j := by
  intro n
  induction n with
  | zero => intro A wh c l j _ _ _; rfl
  | succ n ih =>
    intro A wh c l j hn h16 hj
    have hj' := hj
    unfold kp at hj'
    rw [a_lev]
    split
    · exact ih _ _ _ _ _ (by omega) h16 hj
    · split
      · rw [ih _ _ _ _ _ (by rw [up_eq, if_neg (by omega), tal_k _ _ _ (by omega) (by unfold kp; omega)]; omega) (by rw [up_eq, if_neg (by omega), tal_k _ _ _ (by omega) (by unfold kp; omega)]; exact h16) hj, up_eq, if_neg (by omega), tal_k _ _ _ (by omega) hj]
      · split
        · rw [ih _ _ _ _ _ (by rw [up_eq, if_neg (by omega), tal_k _ _ _ (by omega) (by unfold kp; omega)]; omega) (by rw [up_eq, if_neg (by omega), tal_k _ _ _ (by omega) (by unfold kp; omega)]; exact h16) hj, up_eq, if_neg (by omega), tal_k _ _ _ (by omega) hj]
        · split
          · show up A 17 (A 17 + 1) j = A j
            rw [up_eq, if_neg (by omega)]
          · rw [ih _ _ _ _ _ (by rw [up_eq, if_neg (by omega), tal_k _ _ _ (by omega) (by unfold kp; omega), mv_k _ _ _ _ (by omega) (by unfold kp; omega)]; omega) (by rw [up_eq, if_neg (by omega), tal_k _ _ _ (by omega) (by unfold kp; omega), mv_k _ _ _ _ (by omega) (by unfold kp; omega)]; exact h16) hj, up_eq, if_neg (by omega), tal_k _ _ _ (by omega) hj, mv_k _ _ _ _ (by omega) hj]
theorem lev_TI : ∀ (n : Nat) (A : Row) (wh : Nat) (c l : Int32), (wh : Int) + n = A 1 → TI A → TI (a_lev n A wh c l).1 := by
  intro n
  induction n with
  | zero => intro A wh c l _ h; exact h
  | succ n ih =>
    intro A wh c l hn h
    have h16 : A 1 ≤ 16 := by have := h.1; omega
    rw [a_lev]
    split
    · exact ih _ _ _ _ (by omega) h
    · split
      · exact ih _ _ _ _ (by rw [up_eq, if_neg (by omega), tal_k _ _ _ (by omega) (by unfold kp; omega)]; omega) ((h.tal (by omega)).lev ⟨by omega, by omega⟩ (by omega))
      · split
        · exact ih _ _ _ _ (by rw [up_eq, if_neg (by omega), tal_k _ _ _ (by omega) (by unfold kp; omega)]; omega) ((h.tal (by omega)).lev ⟨by omega, by omega⟩ (by omega))
        · split
          · exact h.up (by omega)
          · exact ih _ _ _ _ (by rw [up_eq, if_neg (by omega), tal_k _ _ _ (by omega) (by unfold kp; omega), mv_k _ _ _ _ (by omega) (by unfold kp; omega)]; omega) (((h.mv (by omega) ⟨by omega, by omega⟩).tal (by omega)).lev ⟨by omega, by omega⟩ (by omega))
theorem pins_k : ∀ (n : Nat) (A : Row) (p : Nat) (j : Nat), (p : Int) + n = A 0 → TI A → kp j → (a_pins n A p).1 j = A j ∧ TI (a_pins n A p).1 := by
  intro n
  induction n with
  | zero => intro A p j _ h _; exact ⟨rfl, h⟩
  | succ n ih =>
    intro A p j hn h hj
    have h0 := h.1
    have hp := h.2.2.1 p (by omega)
    have hj' := hj
    unfold kp at hj'
    rw [a_pins]
    split
    · exact ih _ _ _ (by omega) h hj
    · split
      · exact ⟨by show up A 17 (A 17 + 1) j = A j; rw [up_eq, if_neg (by omega)], h.up (by omega)⟩
      · have hl : (A 4).toNat + p < 16 := by omega
        have g := ih (a_mv A ((A 4).toNat + p) (A (20 + p))) (p + 1) j (by rw [mv_k _ _ _ _ hl (by unfold kp; omega)]; omega) (h.mv hl ⟨by omega, by omega⟩) hj
        exact ⟨g.1.trans (mv_k _ _ _ _ hl hj), g.2⟩
def a_go (A : Row) (part pl : Nat) (c l : Int32) : Row × Option (Nat × Nat) × Int32 :=
  let lv := fun (B : Row) (wh : Nat) => match a_lev ((A 1).toNat - wh) B wh c l with
    | (B', none, l') => (a_endC B', none, l')
    | (B', some k, l') => (B', some (1, k), l')
  if part = 0 then match a_pins ((A 0).toNat - pl) A pl with
    | (B, some k) => (B, some (0, k), l)
    | (B, none) => lv B (A 4).toNat
  else lv A pl
def du (A : Row) : Int := hn (fun i => A (116 + i)) (A 1).toNat 0
def GQ (w : mW) (b : Nat) (dv d : Int) (E : Int) (r : Row × Option (Nat × Nat) × Int32) (Q : mW → mO → Prop) : Prop := ∀ w', MemA w' b r.1 → LogA w' b r.1 → Fr [b, b + 2, b + 3, b + 5, b + 6, b + 7, b + 8, b + 9, b + 10, b + 11] w w' → (match r.2.1 with
    | none => (∃ (c' : Int32) (p pl : Int), T9 w' b 0 dv d p pl c' r.2.2) → w_J w' b 5 = Int64.ofInt E → Q w' (.inl (some (.int (Int32.ofInt 1))))
    | some (p, k) => (∃ c' : Int32, T9 w' b 1 dv d p k c' r.2.2) → w_J w' b 5 = w_J w b 5 → Q w' (.inl (some (.int (Int32.ofInt 0)))))
theorem hn_c {f g : Nat → Int} : ∀ (n : Nat) (v : Int), (∀ i, i < n → f i = g i) → hn f n v = hn g n v := by
  intro n
  induction n with
  | zero => intro v _; rfl
  | succ n ih => intro v h; simp only [hn]; rw [h n (by omega)]; exact ih _ (fun i hi => h i (by omega))
theorem num_k {A B : Row} (h : ∀ j, kp j → B j = A j) (h8 : A 0 ≤ 8) : p_num B = p_num A := by
  unfold p_num
  rw [h 0 (by unfold kp; omega)]
  exact hn_c _ _ (fun i hi => h _ (by unfold kp; omega))
theorem c_rel {b : Nat} {w : mW} {A : Row} {dv : Int} {wh : Nat} {c l : Int32} {Q : mW → mO → Prop} (hM : Mb w b) (hA : MemA w b A) (hI : TI A) (hT : T9 w b 0 dv (A 7) 1 wh c l) (hw : (wh : Int) ≤ A 1) (hq : TQ w b dv (a_lev ((A 1).toNat - wh) A wh c l) Q) : CT n_X2_releaseLevers [.ref b] w Q := by
  have s0 := hM.1.1
  refine ct_X2_releaseLevers (rt_X2_releaseLevers_0 ?_)
  obtain ⟨b0, b1, b2, b3, b4⟩ := hA.1
  simp only [wp_c, wp_n, jj_n, Int.reduceToNat, Int.toNat_natCast, stE, wlE, lgt, lpu, lpw, v_c2, va_s, true_and, and_true, Option.toList, List.nil_append, List.cons_append, List.take, List.drop, List.reverse, List.reverseAux, List.length_cons, List.length_nil, reduceCtorEq, false_implies, true_implies, forall_const, not_true_eq_false, not_false_eq_true, ite_true, ite_false, Bool.false_eq_true, I_I, J_J, Nat.add_left_cancel_iff, Nat.reduceEqDiff, Nat.add_eq_left, Nat.left_eq_add, false_and, and_false, Nat.reduceSub, Nat.sub_self, Nat.le_refl, Nat.zero_le, ge_iff_le, Nat.reduceAdd, Nat.reduceLeDiff, Nat.zero_add, Nat.reduceLT, s0, b0, b3, b4, oi_add, oi_sub]
  have h0 := hI.1
  exact c_lev b dv Q _ A wh c l w .null (by omega) hM hA hT hI hq
theorem c_go {b : Nat} {w : mW} {A : Row} {D : Int} {part pl : Nat} {c l : Int32} {Q : mW → mO → Prop} (hM : Mb w b) (hA : MemA w b A) (hI : TI A) (hL : LogA w b A) (hT : T9 w b 0 (if 0 < A 8 then 1 else 0) (A 7) part pl c l) (hp : (part = 0 ∧ (pl : Int) ≤ A 0) ∨ (part = 1 ∧ (pl : Int) ≤ A 1)) (hD : w_J w b 5 = Int64.ofInt D) (hD0 : 0 ≤ D ∧ D < 10 ^ (A 1).toNat)
  (hq : GQ w b (if 0 < A 8 then 1 else 0) (A 7) ((D + A 7 * (p_num A * 10 ^ (A 4).toNat)) % 10 ^ (A 1).toNat) (a_go A part pl c l) Q) : CT n_X2_goOn [.ref b] w Q := by
  have hM0 := hM
  obtain ⟨⟨s0, s1, s2, s3, s4, s5, s6, s7, s8, s9, s10, s11⟩, r6, r7, r8, r9, r10, r11, r12, r13, q2, q10, q11⟩ := hM
  have h0 := hI.1
  obtain ⟨t0, t1, t2, t3, t4, t8, t9⟩ := hT
  -- the levers, and the end
  have h19 : ∀ (B : Row) (w1 : mW) (wh : Nat), (∀ j, kp j → B j = A j) → TI B → MemA w1 b B → T9 w1 b 0 (if 0 < A 8 then 1 else 0) (A 7) 1 wh c l → (wh : Int) ≤ A 1 → Fr [b + 2, b + 5, b + 6, b + 9, b + 10, b + 11] w w1 →
      GQ w b (if 0 < A 8 then 1 else 0) (A 7) ((D + A 7 * (p_num A * 10 ^ (A 4).toNat)) % 10 ^ (A 1).toNat) (match a_lev ((A 1).toNat - wh) B wh c l with | (B', none, l') => (a_endC B', none, l') | (B', some k, l') => (B', some (1, k), l')) Q →
      RT n_X2_goOn 19 [.ref b] [] w1 (0, 0, false) Q := by
    intro B w1 wh hk k1 k2 k3 k4 k5 kq
    have e1 : B 1 = A 1 := hk 1 (by unfold kp; omega)
    have e7 : B 7 = A 7 := hk 7 (by unfold kp; omega)
    refine rt_X2_goOn_19 ?_
    simp only [wp_c, wp_n, jj_n, Int.reduceToNat, Int.toNat_natCast, stE, wlE, lgt, lpu, lpw, v_c2, va_s, true_and, and_true, Option.toList, List.nil_append, List.cons_append, List.take, List.drop, List.reverse, List.reverseAux, List.length_cons, List.length_nil, reduceCtorEq, false_implies, true_implies, forall_const, not_true_eq_false, not_false_eq_true, ite_true, ite_false, Bool.false_eq_true, I_I, J_J, Nat.add_left_cancel_iff, Nat.reduceEqDiff, Nat.add_eq_left, Nat.left_eq_add, false_and, and_false, Nat.reduceSub, Nat.sub_self, Nat.le_refl, Nat.zero_le, ge_iff_le, Nat.reduceAdd, Nat.reduceLeDiff, Nat.zero_add, Nat.reduceLT, k5.1, s0, mh_X2_goOn]
    refine c_rel (hM0.fr k5) k2 k1 (by rw [e7]; exact k3) (by omega) ?_
    intro w2 m1 m2
    rw [e1] at m1 ⊢
    have hlk := lev_k ((A 1).toNat - wh) B wh c l
    have hlT := lev_TI ((A 1).toNat - wh) B wh c l (by omega) k1
    have f2 := k5.trans m2 (fun _ q => q) (fun _ q => q)
    have hL2 : LogA w2 b (a_lev ((A 1).toNat - wh) B wh c l).1 := (hL.fr f2 (by simp) (by simp)).row (by rw [hlk _ (by omega) (by omega) (by unfold kp; omega), hk _ (by unfold kp; omega)]) (fun j hj => by rw [hlk _ (by omega) (by omega) (by unfold kp; omega), hk _ (by unfold kp; omega)])
    have hall : ∀ j, kp j → (a_lev ((A 1).toNat - wh) B wh c l).1 j = A j := fun j hj => by rw [hlk _ (by omega) (by omega) hj, hk j hj]
    have hJ2 : w_J w2 b 5 = Int64.ofInt D := by rw [(f2.2.2.2 b (by simp)).2]; exact hD
    clear hlk
    generalize a_lev ((A 1).toNat - wh) B wh c l = z at kq m1 hlT hL2 hall ⊢
    obtain ⟨B', oj, l'⟩ := z
    cases oj with
    | none =>
      rintro ⟨c', p', hT'⟩
      simp only [wp_c, wp_n, jj_n, Int.reduceToNat, Int.toNat_natCast, stE, wlE, lgt, lpu, lpw, v_c2, va_s, true_and, and_true, Option.toList, List.nil_append, List.cons_append, List.take, List.drop, List.reverse, List.reverseAux, List.length_cons, List.length_nil, reduceCtorEq, false_implies, true_implies, forall_const, not_true_eq_false, not_false_eq_true, ite_true, ite_false, Bool.false_eq_true, I_I, J_J, Nat.add_left_cancel_iff, Nat.reduceEqDiff, Nat.add_eq_left, Nat.left_eq_add, false_and, and_false, Nat.reduceSub, Nat.sub_self, Nat.le_refl, Nat.zero_le, ge_iff_le, Nat.reduceAdd, Nat.reduceLeDiff, Nat.zero_add, Nat.reduceLT] at kq ⊢
      refine ⟨fun _ => ?_, fun h => absurd (by decide) h⟩
      refine rt_X2_goOn_28 ?_
      simp only [wp_c, wp_n, jj_n, Int.reduceToNat, Int.toNat_natCast, stE, wlE, lgt, lpu, lpw, v_c2, va_s, true_and, and_true, Option.toList, List.nil_append, List.cons_append, List.take, List.drop, List.reverse, List.reverseAux, List.length_cons, List.length_nil, reduceCtorEq, false_implies, true_implies, forall_const, not_true_eq_false, not_false_eq_true, ite_true, ite_false, Bool.false_eq_true, I_I, J_J, Nat.add_left_cancel_iff, Nat.reduceEqDiff, Nat.add_eq_left, Nat.left_eq_add, false_and, and_false, Nat.reduceSub, Nat.sub_self, Nat.le_refl, Nat.zero_le, ge_iff_le, Nat.reduceAdd, Nat.reduceLeDiff, Nat.zero_add, Nat.reduceLT, f2.1, s0, mh_X2_goOn]
      have e7' : B' 7 = A 7 := hall 7 (by unfold kp; omega)
      have e8' : B' 8 = A 8 := hall 8 (by unfold kp; omega)
      have e1' : B' 1 = A 1 := hall 1 (by unfold kp; omega)
      have e4' : B' 4 = A 4 := hall 4 (by unfold kp; omega)
      refine c_finish (A := B') (hM0.fr f2) m1 hlT hL2 (D := D) (by rw [e8']; exact hT') hJ2 (by rw [e1']; exact hD0) ?_
      intro w3 n1 n2 n3 n4
      simp only [wp_c, wp_n, jj_n, Int.reduceToNat, Int.toNat_natCast, stE, wlE, lgt, lpu, lpw, v_c2, va_s, true_and, and_true, Option.toList, List.nil_append, List.cons_append, List.take, List.drop, List.reverse, List.reverseAux, List.length_cons, List.length_nil, reduceCtorEq, false_implies, true_implies, forall_const, not_true_eq_false, not_false_eq_true, ite_true, ite_false, Bool.false_eq_true, I_I, J_J, Nat.add_left_cancel_iff, Nat.reduceEqDiff, Nat.add_eq_left, Nat.left_eq_add, false_and, and_false, Nat.reduceSub, Nat.sub_self, Nat.le_refl, Nat.zero_le, ge_iff_le, Nat.reduceAdd, Nat.reduceLeDiff, Nat.zero_add, Nat.reduceLT, mr_X2_goOn]
      refine ⟨Or.inr rfl, ?_⟩
      refine kq w3 n1 n2 (f2.trans n4 (by simp) (by simp)) ?_ ?_
      · rw [← e7']; exact ⟨c', 1, p', hT'.fr n4 (by simp)⟩
      · rw [n3, e7', e4', e1', num_k hall (by omega)]
    | some k =>
      rintro ⟨c', hT'⟩
      simp only [wp_c, wp_n, jj_n, Int.reduceToNat, Int.toNat_natCast, stE, wlE, lgt, lpu, lpw, v_c2, va_s, true_and, and_true, Option.toList, List.nil_append, List.cons_append, List.take, List.drop, List.reverse, List.reverseAux, List.length_cons, List.length_nil, reduceCtorEq, false_implies, true_implies, forall_const, not_true_eq_false, not_false_eq_true, ite_true, ite_false, Bool.false_eq_true, I_I, J_J, Nat.add_left_cancel_iff, Nat.reduceEqDiff, Nat.add_eq_left, Nat.left_eq_add, false_and, and_false, Nat.reduceSub, Nat.sub_self, Nat.le_refl, Nat.zero_le, ge_iff_le, Nat.reduceAdd, Nat.reduceLeDiff, Nat.zero_add, Nat.reduceLT, mr_X2_goOn] at kq ⊢
      refine ⟨fun h => absurd rfl h, fun _ => ⟨Or.inl rfl, ?_⟩⟩
      refine kq w2 m1 hL2 (f2.mono (by simp)) ?_ (by rw [hJ2, hD])
      have e7' : B' 7 = A 7 := hall 7 (by unfold kp; omega)
      rw [← e7']; exact ⟨c', hT'⟩
  refine ct_X2_goOn (rt_X2_goOn_0 ?_)
  have hpR : inR (part : Int) := ⟨by omega, by omega⟩
  simp only [wp_c, wp_n, jj_n, Int.reduceToNat, Int.toNat_natCast, stE, wlE, lgt, lpu, lpw, v_c2, va_s, true_and, and_true, Option.toList, List.nil_append, List.cons_append, List.take, List.drop, List.reverse, List.reverseAux, List.length_cons, List.length_nil, reduceCtorEq, false_implies, true_implies, forall_const, not_true_eq_false, not_false_eq_true, ite_true, ite_false, Bool.false_eq_true, I_I, J_J, Nat.add_left_cancel_iff, Nat.reduceEqDiff, Nat.add_eq_left, Nat.left_eq_add, false_and, and_false, Nat.reduceSub, Nat.sub_self, Nat.le_refl, Nat.zero_le, ge_iff_le, Nat.reduceAdd, Nat.reduceLeDiff, Nat.zero_add, Nat.reduceLT, s0, s9, r13, t3, oi_e0 hpR, mh_X2_goOn, mr_X2_goOn]
  refine ⟨fun h => ?_, fun h => ?_⟩
  · have hp1 : part = 1 ∧ (pl : Int) ≤ A 1 := by omega
    have hne : ¬ part = 0 := by omega
    simp only [a_go, if_neg hne] at hq
    exact h19 A w pl (fun _ _ => rfl) hI hA (by rw [hp1.1] at t3; exact ⟨t0, t1, t2, t3, t4, t8, t9⟩) hp1.2 (Fr.refl _ _) hq
  · have hp0 : part = 0 ∧ (pl : Int) ≤ A 0 := by omega
    simp only [a_go, if_pos hp0.1] at hq
    rw [hp0.1] at t3
    refine ct_X2_movePins (c_pins b (if 0 < A 8 then 1 else 0) (A 4) c l _ ((A 0).toNat - pl) A pl w .null (by omega) rfl hM0 hA ⟨t0, t1, t2, t3, t4, t8, t9⟩ hI ?_)
    intro w1 m1 m2
    have hpk := fun j hj => pins_k ((A 0).toNat - pl) A pl j (by omega) hI hj
    generalize a_pins ((A 0).toNat - pl) A pl = z at hq m1 hpk ⊢
    obtain ⟨B, ok⟩ := z
    have hBT : TI B := (hpk 0 (by unfold kp; omega)).2
    have e7' : B 7 = A 7 := (hpk 7 (by unfold kp; omega)).1
    cases ok with
    | none =>
      intro hT'
      simp only [wp_c, wp_n, jj_n, Int.reduceToNat, Int.toNat_natCast, stE, wlE, lgt, lpu, lpw, v_c2, va_s, true_and, and_true, Option.toList, List.nil_append, List.cons_append, List.take, List.drop, List.reverse, List.reverseAux, List.length_cons, List.length_nil, reduceCtorEq, false_implies, true_implies, forall_const, not_true_eq_false, not_false_eq_true, ite_true, ite_false, Bool.false_eq_true, I_I, J_J, Nat.add_left_cancel_iff, Nat.reduceEqDiff, Nat.add_eq_left, Nat.left_eq_add, false_and, and_false, Nat.reduceSub, Nat.sub_self, Nat.le_refl, Nat.zero_le, ge_iff_le, Nat.reduceAdd, Nat.reduceLeDiff, Nat.zero_add, Nat.reduceLT] at hq ⊢
      refine ⟨fun _ => ?_, fun h => absurd (by decide) h⟩
      have e4 : A 4 = ((A 4).toNat : Int) := by omega
      refine h19 B w1 (A 4).toNat (fun j hj => (hpk j hj).1) hBT m1 ?_ (by omega) m2 hq
      rw [← e4, ← e7']; exact hT'
    | some k =>
      intro hT'
      simp only [wp_c, wp_n, jj_n, Int.reduceToNat, Int.toNat_natCast, stE, wlE, lgt, lpu, lpw, v_c2, va_s, true_and, and_true, Option.toList, List.nil_append, List.cons_append, List.take, List.drop, List.reverse, List.reverseAux, List.length_cons, List.length_nil, reduceCtorEq, false_implies, true_implies, forall_const, not_true_eq_false, not_false_eq_true, ite_true, ite_false, Bool.false_eq_true, I_I, J_J, Nat.add_left_cancel_iff, Nat.reduceEqDiff, Nat.add_eq_left, Nat.left_eq_add, false_and, and_false, Nat.reduceSub, Nat.sub_self, Nat.le_refl, Nat.zero_le, ge_iff_le, Nat.reduceAdd, Nat.reduceLeDiff, Nat.zero_add, Nat.reduceLT] at hq ⊢
      refine ⟨fun h => absurd rfl h, fun _ => ⟨Or.inl rfl, ?_⟩⟩
      refine hq w1 m1 ((hL.fr m2 (by simp) (by simp)).row (hpk _ (by unfold kp; omega)).1 (fun j hj => (hpk _ (by unfold kp; omega)).1)) (m2.mono (by simp)) ⟨c, ?_⟩ ?_
      · rw [← e7']; exact hT'
      · rw [(m2.2.2.2 b (by simp)).2]
/-! a turn begins -/
def zr (A : Row) (k : Nat) : Row := fun j => if (52 ≤ j ∧ j < 52 + k) ∨ (84 ≤ j ∧ j < 84 + k) then 0 else A j
theorem zr_up (A : Row) (k : Nat) (hk : k < 16) : up (up (zr A k) (52 + k) 0) (84 + k) 0 = zr A (k + 1) := by
  funext j
  simp only [up_eq, zr]
  by_cases h1 : j = 84 + k
  · rw [if_pos h1, if_pos (by omega)]
  · rw [if_neg h1]
    by_cases h2 : j = 52 + k
    · rw [if_pos h2, if_pos (by omega)]
    · rw [if_neg h2]
      by_cases h3 : (52 ≤ j ∧ j < 52 + k) ∨ (84 ≤ j ∧ j < 84 + k)
      · rw [if_pos h3, if_pos (by omega)]
      · rw [if_neg h3, if_neg (by omega)]
def a_beg (A : Row) (way : Int) : Row := up (zr (up (up (up A 9 0) 10 0) 11 0) 16) 7 way
theorem c_beg_52 {b : Nat} {x y : Int32} {A : Row} {Q : mW → mO → Prop} : ∀ (n k : Nat) (w : mW), k + n = 16 → Mb w b → MemA w b (zr A k) → (∀ w', MemA w' b (zr A 16) → Fr [b + 10, b + 11] w w' → Q w' (.inl none)) →
    RT n_X4_begin 52 [.ref (b + 9), .int x, .int y, .int (Int32.ofInt k)] [] w (0, 0, false) Q := by
  intro n
  induction n with
  | zero =>
    intro k w hk hM hA hq
    have e : k = 16 := by omega
    have hR : inR (k : Int) := ⟨by omega, by omega⟩
    refine rt_X4_begin_52 ?_
    simp only [wp_c, wp_n, jj_n, Int.reduceToNat, Int.toNat_natCast, stE, wlE, lgt, lpu, lpw, v_c2, va_s, true_and, and_true, Option.toList, List.nil_append, List.cons_append, List.take, List.drop, List.reverse, List.reverseAux, List.length_cons, List.length_nil, reduceCtorEq, false_implies, true_implies, forall_const, not_true_eq_false, not_false_eq_true, ite_true, ite_false, Bool.false_eq_true, I_I, J_J, Nat.add_left_cancel_iff, Nat.reduceEqDiff, Nat.add_eq_left, Nat.left_eq_add, false_and, and_false, Nat.reduceSub, Nat.sub_self, Nat.le_refl, Nat.zero_le, ge_iff_le, Nat.reduceAdd, Nat.reduceLeDiff, Nat.zero_add, Nat.reduceLT, oi_le (show inR 16 from ⟨by omega, by omega⟩) hR]
    refine ⟨fun _ => ?_, fun h => absurd (by omega) h⟩
    refine rt_X4_begin_78 ?_
    simp only [wp_c, wp_n, jj_n, Int.reduceToNat, Int.toNat_natCast, stE, wlE, lgt, lpu, lpw, v_c2, va_s, true_and, and_true, Option.toList, List.nil_append, List.cons_append, List.take, List.drop, List.reverse, List.reverseAux, List.length_cons, List.length_nil, reduceCtorEq, false_implies, true_implies, forall_const, not_true_eq_false, not_false_eq_true, ite_true, ite_false, Bool.false_eq_true, I_I, J_J, Nat.add_left_cancel_iff, Nat.reduceEqDiff, Nat.add_eq_left, Nat.left_eq_add, false_and, and_false, Nat.reduceSub, Nat.sub_self, Nat.le_refl, Nat.zero_le, ge_iff_le, Nat.reduceAdd, Nat.reduceLeDiff, Nat.zero_add, Nat.reduceLT]
    rw [e] at hA
    exact hq w hA (Fr.refl _ _)
  | succ n ih =>
    intro k w hk hM hA hq
    have hM0 := hM
    obtain ⟨⟨s0, s1, s2, s3, s4, s5, s6, s7, s8, s9, s10, s11⟩, r6, r7, r8, r9, r10, r11, r12, r13, q2, q10, q11⟩ := hM
    have hR : inR (k : Int) := ⟨by omega, by omega⟩
    refine rt_X4_begin_52 ?_
    simp only [wp_c, wp_n, jj_n, Int.reduceToNat, Int.toNat_natCast, stE, wlE, lgt, lpu, lpw, v_c2, va_s, true_and, and_true, Option.toList, List.nil_append, List.cons_append, List.take, List.drop, List.reverse, List.reverseAux, List.length_cons, List.length_nil, reduceCtorEq, false_implies, true_implies, forall_const, not_true_eq_false, not_false_eq_true, ite_true, ite_false, Bool.false_eq_true, I_I, J_J, Nat.add_left_cancel_iff, Nat.reduceEqDiff, Nat.add_eq_left, Nat.left_eq_add, false_and, and_false, Nat.reduceSub, Nat.sub_self, Nat.le_refl, Nat.zero_le, ge_iff_le, Nat.reduceAdd, Nat.reduceLeDiff, Nat.zero_add, Nat.reduceLT, s9, s10, s11, q10, q11, vp_oi hR, oi_nc hR, oi_le (show inR 16 from ⟨by omega, by omega⟩) hR, oi_add]
    refine ⟨fun h => absurd h (by omega), fun _ => ⟨by omega, by omega, ?_⟩⟩
    have g : MemA (s_I (s_I w (b + 10) k (Int32.ofInt 0)) (b + 11) k (Int32.ofInt 0)) b (zr A (k + 1)) := by
      rw [← zr_up A k (by omega)]
      exact (hA.lev (by omega)).mov (by omega)
    have f : Fr [b + 10, b + 11] w (s_I (s_I w (b + 10) k (Int32.ofInt 0)) (b + 11) k (Int32.ofInt 0)) := ((Fr.refl _ _).I (by simp)).I (by simp)
    exact ih (k + 1) _ (by omega) (hM0.fr f) g (fun w' k1 k2 => hq w' k1 (f.trans k2 (fun _ q => q) (fun _ q => q)))
theorem zr_0 (A : Row) : zr A 0 = A := by
  funext j; simp only [zr]; rw [if_neg (by omega)]
theorem c_begin {b : Nat} {way dv : Int} {A : Row} {w : mW} {Q : mW → mO → Prop} (hM : Mb w b) (hA : MemA w b A) (hdv : dv = 0 ∨ dv = 1) (hq : ∀ w', MemA w' b (a_beg A way) → T9 w' b 0 dv way 0 0 (Int32.ofInt 0) (Int32.ofInt 0) → Fr [b + 9, b + 10, b + 11] w w' → Q w' (.inl none)) :
    CT n_X4_begin [.ref (b + 9), .int (Int32.ofInt way), .int (Int32.ofInt dv)] w Q := by
  have s9 := hM.1.2.2.2.2.2.2.2.2.2.1
  have hdv' : Int32.ofInt dv = 0 ∨ Int32.ofInt dv = 1 := by rcases hdv with rfl | rfl; exact Or.inl rfl; exact Or.inr rfl
  refine ct_X4_begin (rt_X4_begin_0 ?_)
  simp only [wp_c, wp_n, jj_n, Int.reduceToNat, Int.toNat_natCast, stE, wlE, lgt, lpu, lpw, v_c2, va_s, true_and, and_true, Option.toList, List.nil_append, List.cons_append, List.take, List.drop, List.reverse, List.reverseAux, List.length_cons, List.length_nil, reduceCtorEq, false_implies, true_implies, forall_const, not_true_eq_false, not_false_eq_true, ite_true, ite_false, Bool.false_eq_true, I_I, J_J, Nat.add_left_cancel_iff, Nat.reduceEqDiff, Nat.add_eq_left, Nat.left_eq_add, false_and, and_false, Nat.reduceSub, Nat.sub_self, Nat.le_refl, Nat.zero_le, ge_iff_le, Nat.reduceAdd, Nat.reduceLeDiff, Nat.zero_add, Nat.reduceLT, s9]
  refine ⟨by decide, hdv', ?_⟩
  have g := (((((((((hA.t0 (x := Int32.ofInt 0)).t1 (x := Int32.ofInt dv)).t2 (x := Int32.ofInt way)).t3 (x := Int32.ofInt 0)).t4 (x := Int32.ofInt 0)).o5 (v := 0)).o6 (v := 0)).o7 (v := 0)).t8 (x := Int32.ofInt 0)).t9 (x := Int32.ofInt 0)
  refine c_beg_52 (A := up (up (up A 9 0) 10 0) 11 0) 16 0 _ rfl (hM.fr (l := [b + 9]) ((((((((((Fr.refl _ _).I (by simp)).I (by simp)).I (by simp)).I (by simp)).I (by simp)).I (by simp)).I (by simp)).I (by simp)).I (by simp) |>.I (by simp))) (by rw [zr_0]; exact g) ?_
  intro w' k1 k2
  have f0 : Fr [b + 9] w _ := ((((((((((Fr.refl [b + 9] w).I (a := b + 9) (i := 0) (x := Int32.ofInt 0) (by simp)).I (a := b + 9) (i := 1) (x := Int32.ofInt dv) (by simp)).I (a := b + 9) (i := 2) (x := Int32.ofInt way) (by simp)).I (a := b + 9) (i := 3) (x := Int32.ofInt 0) (by simp)).I (a := b + 9) (i := 4) (x := Int32.ofInt 0) (by simp)).I (a := b + 9) (i := 5) (x := Int32.ofInt 0) (by simp)).I (a := b + 9) (i := 6) (x := Int32.ofInt 0) (by simp)).I (a := b + 9) (i := 7) (x := Int32.ofInt 0) (by simp)).I (a := b + 9) (i := 8) (x := Int32.ofInt 0) (by simp)).I (a := b + 9) (i := 9) (x := Int32.ofInt 0) (by simp)
  refine hq w' (k1.free (by omega)) ?_ (f0.trans k2 (by simp) (by simp))
  refine T9.fr ?_ k2 (by simp)
  simp only [T9, wp_c, wp_n, jj_n, Int.reduceToNat, Int.toNat_natCast, stE, wlE, lgt, lpu, lpw, v_c2, va_s, true_and, and_true, Option.toList, List.nil_append, List.cons_append, List.take, List.drop, List.reverse, List.reverseAux, List.length_cons, List.length_nil, reduceCtorEq, false_implies, true_implies, forall_const, not_true_eq_false, not_false_eq_true, ite_true, ite_false, Bool.false_eq_true, I_I, J_J, Nat.add_left_cancel_iff, Nat.reduceEqDiff, Nat.add_eq_left, Nat.left_eq_add, false_and, and_false, Nat.reduceSub, Nat.sub_self, Nat.le_refl, Nat.zero_le, ge_iff_le, Nat.reduceAdd, Nat.reduceLeDiff, Nat.zero_add, Nat.reduceLT]
/-! the due result, digit by digit -/
def tn (f : Nat → Int) : Nat → Int
  | 0 => 0
  | n + 1 => tn f n + f n * 10 ^ n
theorem tn_first (f : Nat → Int) : ∀ n : Nat, tn f (n + 1) = f 0 + 10 * tn (fun i => f (i + 1)) n := by
  intro n
  induction n with
  | zero => simp [tn]
  | succ n ih =>
    rw [tn, ih, tn, Int.mul_add, Int.pow_succ]
    have : f (n + 1) * (10 ^ n * 10) = 10 * (f (n + 1) * 10 ^ n) := by rw [← Int.mul_assoc, Int.mul_comm]
    omega
theorem tn_c {f g : Nat → Int} : ∀ n : Nat, (∀ i, i < n → f i = g i) → tn f n = tn g n := by
  intro n
  induction n with
  | zero => intro _; rfl
  | succ n ih => intro h; simp only [tn]; rw [ih (fun i hi => h i (by omega)), h n (by omega)]
theorem hn_tn (f : Nat → Int) : ∀ (n : Nat) (v : Int), hn f n v = v * 10 ^ n + tn f n := by
  intro n
  induction n with
  | zero => intro v; simp [hn, tn]
  | succ n ih =>
    intro v
    simp only [hn, tn]
    rw [ih, Int.pow_succ, Int.add_mul, Int.mul_assoc, Int.mul_comm 10 (10 ^ n)]
    omega
theorem tn_add (f : Nat → Int) (m : Nat) : ∀ n : Nat, tn f (m + n) = tn f m + 10 ^ m * tn (fun i => f (m + i)) n := by
  intro n
  induction n with
  | zero => simp [tn]
  | succ n ih =>
    rw [← Nat.add_assoc, tn, ih, tn, Int.mul_add, Int.pow_add]
    have : f (m + n) * (10 ^ m * 10 ^ n) = 10 ^ m * (f (m + n) * 10 ^ n) := by
      rw [← Int.mul_assoc, ← Int.mul_assoc, Int.mul_comm (f (m + n))]
    omega
theorem tn_b (f : Nat → Int) : ∀ n : Nat, (∀ i, i < n → 0 ≤ f i ∧ f i ≤ 9) → 0 ≤ tn f n ∧ tn f n < 10 ^ n := by
  intro n h
  have := hn_b f n 0 h (by omega)
  rw [hn_tn] at this
  simpa using this
def p_at (A : Row) (i : Nat) : Int := if (i : Int) < A 0 then A (20 + i) else 0
def a_owe : Nat → Row → Nat → Int → Row
  | 0, A, _, _ => A
  | n + 1, A, wh, o =>
    let v := A (116 + wh) + A 7 * p_at A (wh - (A 4).toNat) + o
    let o' : Int := if 9 < v then 1 else if v < 0 then -1 else 0
    a_owe n (up A (116 + wh) (v - 10 * o')) (wh + 1) o'
theorem owe_sum : ∀ (n : Nat) (A : Row) (wh : Nat) (o : Int), (o = 0 ∨ o = 1 ∨ o = -1) → TI A → (∀ j, j < 16 → 0 ≤ A (116 + j) ∧ A (116 + j) ≤ 9) → wh + n ≤ 16 → (A 4).toNat ≤ wh →
    (∀ j, j < 16 → 0 ≤ a_owe n A wh o (116 + j) ∧ a_owe n A wh o (116 + j) ≤ 9) ∧ (∀ j, j < 116 + wh ∨ 116 + wh + n ≤ j → a_owe n A wh o j = A j) ∧
    ∃ o', (o' = 0 ∨ o' = 1 ∨ o' = -1) ∧ tn (fun i => a_owe n A wh o (116 + wh + i)) n + o' * 10 ^ n = tn (fun i => A (116 + wh + i)) n + A 7 * tn (fun i => p_at A (wh - (A 4).toNat + i)) n + o := by
  intro n
  induction n with
  | zero =>
    intro A wh o ho hI hd hn hp
    exact ⟨hd, fun _ _ => rfl, o, ho, by simp [tn]⟩
  | succ n ih =>
    intro A wh o ho hI hd hn hp
    have hP : 0 ≤ p_at A (wh - (A 4).toNat) ∧ p_at A (wh - (A 4).toNat) ≤ 9 := by
      unfold p_at; split
      · exact hI.2.2.1 _ (by have := hI.1; omega)
      · omega
    have h7 := hI.2.1
    have hdw := hd wh (by omega)
    obtain ⟨v, hv⟩ : ∃ v, v = A (116 + wh) + A 7 * p_at A (wh - (A 4).toNat) + o := ⟨_, rfl⟩
    have hvb : -10 ≤ v ∧ v ≤ 19 := by rcases h7 with h | h <;> rw [h] at hv <;> omega
    obtain ⟨o1, ho1⟩ : ∃ o1 : Int, o1 = if 9 < v then 1 else if v < 0 then -1 else 0 := ⟨_, rfl⟩
    have ho1' : o1 = 0 ∨ o1 = 1 ∨ o1 = -1 := by rw [ho1]; split; exact Or.inr (Or.inl rfl); split; exact Or.inr (Or.inr rfl); exact Or.inl rfl
    have hvd : 0 ≤ v - 10 * o1 ∧ v - 10 * o1 ≤ 9 := by
      rw [ho1]; split
      · omega
      · split <;> omega
    have hstep : a_owe (n + 1) A wh o = a_owe n (up A (116 + wh) (v - 10 * o1)) (wh + 1) o1 := by rw [a_owe, ← hv, ← ho1]
    have hI' : TI (up A (116 + wh) (v - 10 * o1)) := hI.up (by omega)
    have e4 : up A (116 + wh) (v - 10 * o1) 4 = A 4 := by rw [up_eq, if_neg (by omega)]
    have e7 : up A (116 + wh) (v - 10 * o1) 7 = A 7 := by rw [up_eq, if_neg (by omega)]
    have ep : ∀ i, p_at (up A (116 + wh) (v - 10 * o1)) i = p_at A i := by
      intro i
      have e0 : up A (116 + wh) (v - 10 * o1) 0 = A 0 := by rw [up_eq, if_neg (by omega)]
      unfold p_at
      rw [e0]
      by_cases h : (i : Int) < A 0
      · rw [if_pos h, if_pos h, up_eq, if_neg (by have := hI.1; omega)]
      · rw [if_neg h, if_neg h]
    obtain ⟨g1, g2, o', g3, g4⟩ := ih (up A (116 + wh) (v - 10 * o1)) (wh + 1) o1 ho1' hI' (fun j hj => by
      rw [up_eq]; split
      · exact hvd
      · exact hd j hj) (by omega) (by rw [e4]; omega)
    rw [← hstep] at g1 g2 g4
    refine ⟨g1, fun j hj => ?_, o', g3, ?_⟩
    · rw [g2 j (by omega), up_eq, if_neg (by omega)]
    · rw [tn_first, tn_first, tn_first]
      have q1 : a_owe (n + 1) A wh o (116 + wh + 0) = v - 10 * o1 := by rw [g2 _ (by omega), up_eq, if_pos (by omega)]
      have q2 : tn (fun i => a_owe (n + 1) A wh o (116 + wh + (i + 1))) n = tn (fun i => a_owe (n + 1) A wh o (116 + (wh + 1) + i)) n := tn_c n (fun i _ => by congr 1; omega)
      have q3 : tn (fun i => A (116 + wh + (i + 1))) n = tn (fun i => up A (116 + wh) (v - 10 * o1) (116 + (wh + 1) + i)) n := tn_c n (fun i _ => by rw [up_eq, if_neg (by omega)]; congr 1; omega)
      have q4 : tn (fun i => p_at A (wh - (A 4).toNat + (i + 1))) n = tn (fun i => p_at (up A (116 + wh) (v - 10 * o1)) (wh + 1 - (up A (116 + wh) (v - 10 * o1) 4).toNat + i)) n := tn_c n (fun i _ => by rw [ep, e4]; congr 1; omega)
      rw [q2, q3, q4]
      rw [e7] at g4
      generalize tn (fun i => a_owe (n + 1) A wh o (116 + (wh + 1) + i)) n = t1 at g4 ⊢
      generalize tn (fun i => up A (116 + wh) (v - 10 * o1) (116 + (wh + 1) + i)) n = t2 at g4 ⊢
      generalize tn (fun i => p_at (up A (116 + wh) (v - 10 * o1)) (wh + 1 - (up A (116 + wh) (v - 10 * o1) 4).toNat + i)) n = t3 at g4 ⊢
      simp only [Nat.add_zero] at q1 ⊢
      rw [q1, Int.pow_succ]
      generalize (10 : Int) ^ n = pw at g4 ⊢
      have e1 : o' * (pw * 10) = 10 * (o' * pw) := by rw [← Int.mul_assoc, Int.mul_comm]
      rw [e1]
      generalize o' * pw = op at g4 ⊢
      rcases h7 with h | h <;> rw [h] at hv g4 ⊢ <;> omega

/-- the due result behind a turn -/
theorem owe_du {A : Row} (hI : TI A) (hd : ∀ j, j < 16 → 0 ≤ A (116 + j) ∧ A (116 + j) ≤ 9) :
    (∀ j, j < 16 → 0 ≤ a_owe (A 1 - A 4).toNat A (A 4).toNat 0 (116 + j) ∧ a_owe (A 1 - A 4).toNat A (A 4).toNat 0 (116 + j) ≤ 9) ∧ (∀ j, j < 116 ∨ 132 ≤ j → a_owe (A 1 - A 4).toNat A (A 4).toNat 0 j = A j) ∧
    du (a_owe (A 1 - A 4).toNat A (A 4).toNat 0) = (du A + A 7 * (p_num A * 10 ^ (A 4).toNat)) % 10 ^ (A 1).toNat := by
  have h0 := hI.1
  obtain ⟨g1, g2, o', g3, g4⟩ := owe_sum (A 1 - A 4).toNat A (A 4).toNat 0 (Or.inl rfl) hI hd (by omega) (by omega)
  refine ⟨g1, fun j hj => g2 j (by omega), ?_⟩
  generalize hB : a_owe (A 1 - A 4).toNat A (A 4).toNat 0 = B at g1 g2 g4 ⊢
  have e1 : B 1 = A 1 := g2 1 (by omega)
  obtain ⟨n, hn⟩ : ∃ n : Nat, (A 1 - A 4).toNat = n := ⟨_, rfl⟩
  obtain ⟨p, hp⟩ : ∃ p : Nat, (A 4).toNat = p := ⟨_, rfl⟩
  have hm : (A 1).toNat = p + n := by omega
  rw [hn, hp] at g4
  have k1 : du B = tn (fun i => A (116 + i)) p + 10 ^ p * tn (fun i => B (116 + p + i)) n := by
    unfold du
    rw [e1, hm, hn_tn, tn_add]
    have a1 : tn (fun i => B (116 + i)) p = tn (fun i => A (116 + i)) p := tn_c p (fun i hi => g2 _ (by omega))
    have a2 : tn (fun i => (fun i => B (116 + i)) (p + i)) n = tn (fun i => B (116 + p + i)) n := tn_c n (fun i _ => by show B _ = B _; congr 1; omega)
    rw [a1, a2]; omega
  have k2 : du A = tn (fun i => A (116 + i)) p + 10 ^ p * tn (fun i => A (116 + p + i)) n := by
    unfold du
    rw [hm, hn_tn, tn_add]
    have a2 : tn (fun i => (fun i => A (116 + i)) (p + i)) n = tn (fun i => A (116 + p + i)) n := tn_c n (fun i _ => by show A _ = A _; congr 1; omega)
    rw [a2]; omega
  have k3 : p_num A = tn (fun i => p_at A (p - p + i)) n := by
    obtain ⟨q, hq⟩ : ∃ q : Nat, (A 0).toNat = q := ⟨_, rfl⟩
    have hqn : n = q + (n - q) := by omega
    have z : ∀ k : Nat, tn (fun i => (fun i => p_at A (p - p + i)) (q + i)) k = 0 := by
      intro k
      induction k with
      | zero => rfl
      | succ k ih =>
        have e0 : p_at A (p - p + (q + k)) = 0 := by unfold p_at; rw [if_neg (by omega)]
        rw [tn, ih]
        show 0 + p_at A (p - p + (q + k)) * 10 ^ k = 0
        rw [e0]; simp
    unfold p_num
    rw [hq, hn_tn, hqn, tn_add, z]
    have : tn (fun i => A (20 + i)) q = tn (fun i => p_at A (p - p + i)) q := tn_c q (fun i hi => by unfold p_at; rw [if_pos (by omega)]; congr 1; omega)
    rw [this]; simp
  have b1 := tn_b (fun i => A (116 + i)) p (fun i hi => hd i (by omega))
  have b2 := tn_b (fun i => B (116 + p + i)) n (fun i hi => by have := g1 (p + i) (by omega); rw [show 116 + p + i = 116 + (p + i) by omega]; exact this)
  rw [hp, k1, k2, k3, hm, Int.pow_add]
  generalize tn (fun i => p_at A (p - p + i)) n = P at g4 ⊢
  generalize tn (fun i => A (116 + i)) p = L at b1 ⊢
  generalize tn (fun i => A (116 + p + i)) n = S at g4 ⊢
  generalize tn (fun i => B (116 + p + i)) n = S' at g4 b2 ⊢
  have hpp : (0 : Int) < 10 ^ p := Int.pow_pos (by decide)
  generalize (10 : Int) ^ p = x at b1 hpp ⊢
  generalize (10 : Int) ^ n = y at g4 b2 ⊢
  have e : L + x * S + A 7 * (P * x) = L + x * S' + x * y * o' := by
    have e2 : S + A 7 * P = S' + o' * y := by omega
    have e3 : x * (S + A 7 * P) = x * (S' + o' * y) := by rw [e2]
    rw [Int.mul_add, Int.mul_add] at e3
    have e4 : x * (A 7 * P) = A 7 * (P * x) := by rw [Int.mul_comm x, Int.mul_assoc]
    have e5 : x * (o' * y) = x * y * o' := by rw [Int.mul_comm o' y, Int.mul_assoc]
    omega
  rw [e, Int.add_mul_emod_self_left]
  refine (Int.emod_eq_of_lt ?_ ?_).symm
  · have := Int.mul_nonneg (Int.le_of_lt hpp) b2.1
    omega
  · have h1 : x * S' ≤ x * (y - 1) := Int.mul_le_mul_of_nonneg_left (by omega) (Int.le_of_lt hpp)
    rw [Int.mul_sub] at h1
    omega
