/-! Arrays.fill -/
theorem c_fill_5 {a n : Nat} {x : Int32} {Q : mW → mO → Prop} (hn : n ≤ 1000) : ∀ (m k : Nat) (w : mW), k + m = n → w_sh w a = (1, n) → (∀ i, i < k → w_I w a i = x) → (∀ w', (∀ i, i < n → w_I w' a i = x) → Fr [a] w w' → Q w' (.inl none)) →
    RT n_J7_fill_53178 5 [.ref a, .int x, .int (Int32.ofInt k), .int (Int32.ofInt n)] [] w (0, 0, false) Q := by
  intro m
  induction m with
  | zero =>
    intro k w hk hs hx hq
    have hR : inR (k : Int) := ⟨by omega, by omega⟩
    have hRn : inR (n : Int) := ⟨by omega, by omega⟩
    refine rt_J7_fill_53178_5 ?_
    simp only [wp_c, wp_n, jj_n, Int.reduceToNat, Int.toNat_natCast, stE, wlE, lgt, lpu, lpw, v_c2, va_s, true_and, and_true, Option.toList, List.nil_append, List.cons_append, List.take, List.drop, List.reverse, List.reverseAux, List.length_cons, List.length_nil, reduceCtorEq, false_implies, true_implies, forall_const, not_true_eq_false, not_false_eq_true, ite_true, ite_false, Bool.false_eq_true, I_I, J_J, Nat.add_left_cancel_iff, Nat.reduceEqDiff, Nat.add_eq_left, Nat.left_eq_add, false_and, and_false, Nat.reduceSub, Nat.sub_self, Nat.le_refl, Nat.zero_le, ge_iff_le, Nat.reduceAdd, Nat.reduceLeDiff, Nat.zero_add, Nat.reduceLT, oi_le hRn hR]
    refine ⟨fun _ => ?_, fun h => absurd (by omega) h⟩
    refine rt_J7_fill_53178_20 ?_
    simp only [wp_c, wp_n, jj_n, Int.reduceToNat, Int.toNat_natCast, stE, wlE, lgt, lpu, lpw, v_c2, va_s, true_and, and_true, Option.toList, List.nil_append, List.cons_append, List.take, List.drop, List.reverse, List.reverseAux, List.length_cons, List.length_nil, reduceCtorEq, false_implies, true_implies, forall_const, not_true_eq_false, not_false_eq_true, ite_true, ite_false, Bool.false_eq_true, I_I, J_J, Nat.add_left_cancel_iff, Nat.reduceEqDiff, Nat.add_eq_left, Nat.left_eq_add, false_and, and_false, Nat.reduceSub, Nat.sub_self, Nat.le_refl, Nat.zero_le, ge_iff_le, Nat.reduceAdd, Nat.reduceLeDiff, Nat.zero_add, Nat.reduceLT]
    exact hq w (fun i hi => hx i (by omega)) (Fr.refl _ _)
  | succ m ih =>
    intro k w hk hs hx hq
    have hR : inR (k : Int) := ⟨by omega, by omega⟩
    have hRn : inR (n : Int) := ⟨by omega, by omega⟩
    refine rt_J7_fill_53178_5 ?_
    simp only [wp_c, wp_n, jj_n, Int.reduceToNat, Int.toNat_natCast, stE, wlE, lgt, lpu, lpw, v_c2, va_s, true_and, and_true, Option.toList, List.nil_append, List.cons_append, List.take, List.drop, List.reverse, List.reverseAux, List.length_cons, List.length_nil, reduceCtorEq, false_implies, true_implies, forall_const, not_true_eq_false, not_false_eq_true, ite_true, ite_false, Bool.false_eq_true, I_I, J_J, Nat.add_left_cancel_iff, Nat.reduceEqDiff, Nat.add_eq_left, Nat.left_eq_add, false_and, and_false, Nat.reduceSub, Nat.sub_self, Nat.le_refl, Nat.zero_le, ge_iff_le, Nat.reduceAdd, Nat.reduceLeDiff, Nat.zero_add, Nat.reduceLT, hs, oi_le hRn hR, vp_oi hR, oi_nc hR, oi_add]
    refine ⟨fun h => absurd h (by omega), fun _ => ⟨by omega, ?_⟩⟩
    have f : Fr [a] w (s_I w a k x) := (Fr.refl _ _).I (by simp)
    refine ih (k + 1) (s_I w a k x) (by omega) hs (fun i hi => ?_) (fun w' q1 q2 => hq w' q1 (f.trans q2 (fun _ q => q) (fun _ q => q)))
    rw [I_I]
    by_cases h : i = k
    · rw [if_pos ⟨rfl, h⟩]
    · rw [if_neg (fun q => h q.2)]; exact hx i (by omega)
theorem c_fill {a n : Nat} {x : Int32} {w : mW} {Q : mW → mO → Prop} (hn : n ≤ 1000) (hs : w_sh w a = (1, n)) (hq : ∀ w', (∀ i, i < n → w_I w' a i = x) → Fr [a] w w' → Q w' (.inl none)) : CT n_J7_fill_53178 [.ref a, .int x] w Q := by
  refine ct_J7_fill_53178 (rt_J7_fill_53178_0 ?_)
  simp only [wp_c, wp_n, jj_n, Int.reduceToNat, Int.toNat_natCast, stE, wlE, lgt, lpu, lpw, v_c2, va_s, true_and, and_true, Option.toList, List.nil_append, List.cons_append, List.take, List.drop, List.reverse, List.reverseAux, List.length_cons, List.length_nil, reduceCtorEq, false_implies, true_implies, forall_const, not_true_eq_false, not_false_eq_true, ite_true, ite_false, Bool.false_eq_true, I_I, J_J, Nat.add_left_cancel_iff, Nat.reduceEqDiff, Nat.add_eq_left, Nat.left_eq_add, false_and, and_false, Nat.reduceSub, Nat.sub_self, Nat.le_refl, Nat.zero_le, ge_iff_le, Nat.reduceAdd, Nat.reduceLeDiff, Nat.zero_add, Nat.reduceLT, hs, oi_nat]
  exact c_fill_5 hn n 0 w (by omega) hs (fun i hi => absurd hi (by omega)) hq
/-! a new machine -/
def n_row : Row := fun j => if j = 0 then 4 else if j = 1 then 8 else if j = 2 then 4 else if j = 3 then 16 else 0
theorem n_row0 (j : Nat) (h : 4 ≤ j) : n_row j = 0 := by
  unfold n_row; rw [if_neg (by omega), if_neg (by omega), if_neg (by omega), if_neg (by omega)]
theorem c_makeNew {b : Nat} {w : mW} {Q : mW → mO → Prop} (hM : Mb w b) (hq : ∀ w', MS w' b n_row → FrM b w w' → Q w' (.inl none)) : CT n_X2_makeNew [.ref b] w Q := by
  have hM0 := hM
  obtain ⟨⟨s0, s1, s2, s3, s4, s5, s6, s7, s8, s9, s10, s11⟩, r6, r7, r8, r9, r10, r11, r12, r13, q2, q10, q11⟩ := hM
  refine ct_X2_makeNew (rt_X2_makeNew_0 ?_)
  simp only [wp_c, wp_n, jj_n, Int.reduceToNat, Int.toNat_natCast, stE, wlE, lgt, lpu, lpw, v_c2, va_s, true_and, and_true, Option.toList, List.nil_append, List.cons_append, List.take, List.drop, List.reverse, List.reverseAux, List.length_cons, List.length_nil, reduceCtorEq, false_implies, true_implies, forall_const, not_true_eq_false, not_false_eq_true, ite_true, ite_false, Bool.false_eq_true, I_I, J_J, Nat.add_left_cancel_iff, Nat.reduceEqDiff, Nat.add_eq_left, Nat.left_eq_add, false_and, and_false, Nat.reduceSub, Nat.sub_self, Nat.le_refl, Nat.zero_le, ge_iff_le, Nat.reduceAdd, Nat.reduceLeDiff, Nat.zero_add, Nat.reduceLT, s0, r6, mh_X2_makeNew]
  have f0 : Fr [b] w (s_J (s_I (s_I (s_I (s_I (s_I w b 0 (Int32.ofInt 4)) b 1 (Int32.ofInt 8)) b 2 (Int32.ofInt 4)) b 3 (Int32.ofInt 16)) b 4 (Int32.ofInt 0)) b 5 0) := ((((((Fr.refl _ _).I (by simp)).I (by simp)).I (by simp)).I (by simp)).I (by simp)).J (by simp)
  have v0 : ∀ i, i < 5 → w_I (s_J (s_I (s_I (s_I (s_I (s_I w b 0 (Int32.ofInt 4)) b 1 (Int32.ofInt 8)) b 2 (Int32.ofInt 4)) b 3 (Int32.ofInt 16)) b 4 (Int32.ofInt 0)) b 5 0) b i = Int32.ofInt (n_row i) := by
    intro i hi
    rcases (show i = 0 ∨ i = 1 ∨ i = 2 ∨ i = 3 ∨ i = 4 by omega) with rfl | rfl | rfl | rfl | rfl <;> simp only [wp_c, wp_n, jj_n, Int.reduceToNat, Int.toNat_natCast, stE, wlE, lgt, lpu, lpw, v_c2, va_s, true_and, and_true, Option.toList, List.nil_append, List.cons_append, List.take, List.drop, List.reverse, List.reverseAux, List.length_cons, List.length_nil, reduceCtorEq, false_implies, true_implies, forall_const, not_true_eq_false, not_false_eq_true, ite_true, ite_false, Bool.false_eq_true, I_I, J_J, Nat.add_left_cancel_iff, Nat.reduceEqDiff, Nat.add_eq_left, Nat.left_eq_add, false_and, and_false, Nat.reduceSub, Nat.sub_self, Nat.le_refl, Nat.zero_le, ge_iff_le, Nat.reduceAdd, Nat.reduceLeDiff, Nat.zero_add, Nat.reduceLT] <;> rfl
  have vJ : w_J (s_J (s_I (s_I (s_I (s_I (s_I w b 0 (Int32.ofInt 4)) b 1 (Int32.ofInt 8)) b 2 (Int32.ofInt 4)) b 3 (Int32.ofInt 16)) b 4 (Int32.ofInt 0)) b 5 0) b 5 = Int64.ofInt 0 := by
    rw [J_J, if_pos ⟨rfl, rfl⟩]; rfl
  generalize s_J (s_I (s_I (s_I (s_I (s_I w b 0 (Int32.ofInt 4)) b 1 (Int32.ofInt 8)) b 2 (Int32.ofInt 4)) b 3 (Int32.ofInt 16)) b 4 (Int32.ofInt 0)) b 5 0 = w0 at f0 v0 vJ
  refine c_fill (n := 8) (by omega) (by rw [f0.1]; exact s1) fun w1 g1 f1 => ?_
  have h1 := f0.trans f1 (l'' := [b, b + 1]) (by simp) (by simp)
  simp only [wp_c, wp_n, jj_n, Int.reduceToNat, Int.toNat_natCast, stE, wlE, lgt, lpu, lpw, v_c2, va_s, true_and, and_true, Option.toList, List.nil_append, List.cons_append, List.take, List.drop, List.reverse, List.reverseAux, List.length_cons, List.length_nil, reduceCtorEq, false_implies, true_implies, forall_const, not_true_eq_false, not_false_eq_true, ite_true, ite_false, Bool.false_eq_true, I_I, J_J, Nat.add_left_cancel_iff, Nat.reduceEqDiff, Nat.add_eq_left, Nat.left_eq_add, false_and, and_false, Nat.reduceSub, Nat.sub_self, Nat.le_refl, Nat.zero_le, ge_iff_le, Nat.reduceAdd, Nat.reduceLeDiff, Nat.zero_add, Nat.reduceLT, h1.1, h1.2.1, s0, r7, mh_X2_makeNew]
  refine c_fill (n := 16) (by omega) (by rw [h1.1]; exact s2) fun w2 g2 f2 => ?_
  have h2 := h1.trans f2 (l'' := [b, b + 1, b + 2]) (by simp) (by simp)
  simp only [wp_c, wp_n, jj_n, Int.reduceToNat, Int.toNat_natCast, stE, wlE, lgt, lpu, lpw, v_c2, va_s, true_and, and_true, Option.toList, List.nil_append, List.cons_append, List.take, List.drop, List.reverse, List.reverseAux, List.length_cons, List.length_nil, reduceCtorEq, false_implies, true_implies, forall_const, not_true_eq_false, not_false_eq_true, ite_true, ite_false, Bool.false_eq_true, I_I, J_J, Nat.add_left_cancel_iff, Nat.reduceEqDiff, Nat.add_eq_left, Nat.left_eq_add, false_and, and_false, Nat.reduceSub, Nat.sub_self, Nat.le_refl, Nat.zero_le, ge_iff_le, Nat.reduceAdd, Nat.reduceLeDiff, Nat.zero_add, Nat.reduceLT, h2.1, h2.2.1, s0, r8, mh_X2_makeNew]
  refine c_fill (n := 8) (by omega) (by rw [h2.1]; exact s3) fun w3 g3 f3 => ?_
  have h3 := h2.trans f3 (l'' := [b, b + 1, b + 2, b + 3]) (by simp) (by simp)
  simp only [wp_c, wp_n, jj_n, Int.reduceToNat, Int.toNat_natCast, stE, wlE, lgt, lpu, lpw, v_c2, va_s, true_and, and_true, Option.toList, List.nil_append, List.cons_append, List.take, List.drop, List.reverse, List.reverseAux, List.length_cons, List.length_nil, reduceCtorEq, false_implies, true_implies, forall_const, not_true_eq_false, not_false_eq_true, ite_true, ite_false, Bool.false_eq_true, I_I, J_J, Nat.add_left_cancel_iff, Nat.reduceEqDiff, Nat.add_eq_left, Nat.left_eq_add, false_and, and_false, Nat.reduceSub, Nat.sub_self, Nat.le_refl, Nat.zero_le, ge_iff_le, Nat.reduceAdd, Nat.reduceLeDiff, Nat.zero_add, Nat.reduceLT, h3.1, h3.2.1, s0, r9, mh_X2_makeNew]
  refine c_fill (n := 16) (by omega) (by rw [h3.1]; exact s4) fun w4 g4 f4 => ?_
  have h4 := h3.trans f4 (l'' := [b, b + 1, b + 2, b + 3, b + 4]) (by simp) (by simp)
  simp only [wp_c, wp_n, jj_n, Int.reduceToNat, Int.toNat_natCast, stE, wlE, lgt, lpu, lpw, v_c2, va_s, true_and, and_true, Option.toList, List.nil_append, List.cons_append, List.take, List.drop, List.reverse, List.reverseAux, List.length_cons, List.length_nil, reduceCtorEq, false_implies, true_implies, forall_const, not_true_eq_false, not_false_eq_true, ite_true, ite_false, Bool.false_eq_true, I_I, J_J, Nat.add_left_cancel_iff, Nat.reduceEqDiff, Nat.add_eq_left, Nat.left_eq_add, false_and, and_false, Nat.reduceSub, Nat.sub_self, Nat.le_refl, Nat.zero_le, ge_iff_le, Nat.reduceAdd, Nat.reduceLeDiff, Nat.zero_add, Nat.reduceLT, h4.1, h4.2.1, s0, r10, mh_X2_makeNew]
  refine c_fill (n := 16) (by omega) (by rw [h4.1]; exact s5) fun w5 g5 f5 => ?_
  have h5 := h4.trans f5 (l'' := [b, b + 1, b + 2, b + 3, b + 4, b + 5]) (by simp) (by simp)
  simp only [wp_c, wp_n, jj_n, Int.reduceToNat, Int.toNat_natCast, stE, wlE, lgt, lpu, lpw, v_c2, va_s, true_and, and_true, Option.toList, List.nil_append, List.cons_append, List.take, List.drop, List.reverse, List.reverseAux, List.length_cons, List.length_nil, reduceCtorEq, false_implies, true_implies, forall_const, not_true_eq_false, not_false_eq_true, ite_true, ite_false, Bool.false_eq_true, I_I, J_J, Nat.add_left_cancel_iff, Nat.reduceEqDiff, Nat.add_eq_left, Nat.left_eq_add, false_and, and_false, Nat.reduceSub, Nat.sub_self, Nat.le_refl, Nat.zero_le, ge_iff_le, Nat.reduceAdd, Nat.reduceLeDiff, Nat.zero_add, Nat.reduceLT, h5.1, h5.2.1, s0, r11, mh_X2_makeNew]
  refine c_fill (n := 6) (by omega) (by rw [h5.1]; exact s6) fun w6 g6 f6 => ?_
  have h6 := h5.trans f6 (l'' := [b, b + 1, b + 2, b + 3, b + 4, b + 5, b + 6]) (by simp) (by simp)
  simp only [wp_c, wp_n, jj_n, Int.reduceToNat, Int.toNat_natCast, stE, wlE, lgt, lpu, lpw, v_c2, va_s, true_and, and_true, Option.toList, List.nil_append, List.cons_append, List.take, List.drop, List.reverse, List.reverseAux, List.length_cons, List.length_nil, reduceCtorEq, false_implies, true_implies, forall_const, not_true_eq_false, not_false_eq_true, ite_true, ite_false, Bool.false_eq_true, I_I, J_J, Nat.add_left_cancel_iff, Nat.reduceEqDiff, Nat.add_eq_left, Nat.left_eq_add, false_and, and_false, Nat.reduceSub, Nat.sub_self, Nat.le_refl, Nat.zero_le, ge_iff_le, Nat.reduceAdd, Nat.reduceLeDiff, Nat.zero_add, Nat.reduceLT, h6.1, h6.2.1, s0, s7, r12, mh_X2_makeNew]
  refine ct_X8_forgetAll (rt_X8_forgetAll_0 ?_)
  simp only [wp_c, wp_n, jj_n, Int.reduceToNat, Int.toNat_natCast, stE, wlE, lgt, lpu, lpw, v_c2, va_s, true_and, and_true, Option.toList, List.nil_append, List.cons_append, List.take, List.drop, List.reverse, List.reverseAux, List.length_cons, List.length_nil, reduceCtorEq, false_implies, true_implies, forall_const, not_true_eq_false, not_false_eq_true, ite_true, ite_false, Bool.false_eq_true, I_I, J_J, Nat.add_left_cancel_iff, Nat.reduceEqDiff, Nat.add_eq_left, Nat.left_eq_add, false_and, and_false, Nat.reduceSub, Nat.sub_self, Nat.le_refl, Nat.zero_le, ge_iff_le, Nat.reduceAdd, Nat.reduceLeDiff, Nat.zero_add, Nat.reduceLT, h6.1, h6.2.1, s0, s7, s9, r13, mh_X2_makeNew]
  have h7 : Fr [b, b + 1, b + 2, b + 3, b + 4, b + 5, b + 6, b + 7] w (s_I (s_I w6 (b + 7) 0 (Int32.ofInt 0)) (b + 7) 1 (Int32.ofInt 0)) := ((h6.mono (by simp)).I (by simp)).I (by simp)
  have p7 : Fr [b + 7] w6 (s_I (s_I w6 (b + 7) 0 (Int32.ofInt 0)) (b + 7) 1 (Int32.ofInt 0)) := ((Fr.refl _ _).I (by simp)).I (by simp)
  have l0 : w_I (s_I (s_I w6 (b + 7) 0 (Int32.ofInt 0)) (b + 7) 1 (Int32.ofInt 0)) (b + 7) 0 = Int32.ofInt 0 := by simp only [wp_c, wp_n, jj_n, Int.reduceToNat, Int.toNat_natCast, stE, wlE, lgt, lpu, lpw, v_c2, va_s, true_and, and_true, Option.toList, List.nil_append, List.cons_append, List.take, List.drop, List.reverse, List.reverseAux, List.length_cons, List.length_nil, reduceCtorEq, false_implies, true_implies, forall_const, not_true_eq_false, not_false_eq_true, ite_true, ite_false, Bool.false_eq_true, I_I, J_J, Nat.add_left_cancel_iff, Nat.reduceEqDiff, Nat.add_eq_left, Nat.left_eq_add, false_and, and_false, Nat.reduceSub, Nat.sub_self, Nat.le_refl, Nat.zero_le, ge_iff_le, Nat.reduceAdd, Nat.reduceLeDiff, Nat.zero_add, Nat.reduceLT]
  have l1 : w_I (s_I (s_I w6 (b + 7) 0 (Int32.ofInt 0)) (b + 7) 1 (Int32.ofInt 0)) (b + 7) 1 = Int32.ofInt 0 := by simp only [wp_c, wp_n, jj_n, Int.reduceToNat, Int.toNat_natCast, stE, wlE, lgt, lpu, lpw, v_c2, va_s, true_and, and_true, Option.toList, List.nil_append, List.cons_append, List.take, List.drop, List.reverse, List.reverseAux, List.length_cons, List.length_nil, reduceCtorEq, false_implies, true_implies, forall_const, not_true_eq_false, not_false_eq_true, ite_true, ite_false, Bool.false_eq_true, I_I, J_J, Nat.add_left_cancel_iff, Nat.reduceEqDiff, Nat.add_eq_left, Nat.left_eq_add, false_and, and_false, Nat.reduceSub, Nat.sub_self, Nat.le_refl, Nat.zero_le, ge_iff_le, Nat.reduceAdd, Nat.reduceLeDiff, Nat.zero_add, Nat.reduceLT]
  generalize s_I (s_I w6 (b + 7) 0 (Int32.ofInt 0)) (b + 7) 1 (Int32.ofInt 0) = w7 at h7 p7 l0 l1
  -- what lies where
  have p6 := f6.trans p7 (l'' := [b + 6, b + 7]) (by simp) (by simp)
  have p5 := f5.trans p6 (l'' := [b + 5, b + 6, b + 7]) (by simp) (by simp)
  have p4 := f4.trans p5 (l'' := [b + 4, b + 5, b + 6, b + 7]) (by simp) (by simp)
  have p3 := f3.trans p4 (l'' := [b + 3, b + 4, b + 5, b + 6, b + 7]) (by simp) (by simp)
  have p2 := f2.trans p3 (l'' := [b + 2, b + 3, b + 4, b + 5, b + 6, b + 7]) (by simp) (by simp)
  have p1 := f1.trans p2 (l'' := [b + 1, b + 2, b + 3, b + 4, b + 5, b + 6, b + 7]) (by simp) (by simp)
  have x0 : w_I w7 b = w_I w0 b := (p1.2.2.2 b (by simp)).1
  have xJ : w_J w7 b = w_J w0 b := (p1.2.2.2 b (by simp)).2
  have x1 : w_I w7 (b + 1) = w_I w1 (b + 1) := (p2.2.2.2 _ (by simp)).1
  have x2 : w_I w7 (b + 2) = w_I w2 (b + 2) := (p3.2.2.2 _ (by simp)).1
  have x3 : w_I w7 (b + 3) = w_I w3 (b + 3) := (p4.2.2.2 _ (by simp)).1
  have x4 : w_I w7 (b + 4) = w_I w4 (b + 4) := (p5.2.2.2 _ (by simp)).1
  have x5 : w_I w7 (b + 5) = w_I w5 (b + 5) := (p6.2.2.2 _ (by simp)).1
  have x6 : w_I w7 (b + 6) = w_I w6 (b + 6) := (p7.2.2.2 _ (by simp)).1
  obtain ⟨B, hB⟩ : ∃ B : Row, B = fun j => if 9 ≤ j ∧ j < 12 then (w_I w7 (b + 9) (j - 4)).toInt else if 52 ≤ j ∧ j < 68 then (w_I w7 (b + 10) (j - 52)).toInt else if 84 ≤ j ∧ j < 100 then (w_I w7 (b + 11) (j - 84)).toInt else n_row j := ⟨_, rfl⟩
  have b1 : ∀ j, ¬ (9 ≤ j ∧ j < 12) → ¬ (52 ≤ j ∧ j < 68) → ¬ (84 ≤ j ∧ j < 100) → B j = n_row j := fun j q1 q2 q3 => by rw [hB]; simp only; rw [if_neg q1, if_neg q2, if_neg q3]
  have b2 : ∀ j, j < 3 → B (9 + j) = (w_I w7 (b + 9) (5 + j)).toInt := fun j q => by rw [hB]; simp only; rw [if_pos (by omega)]; congr 2; omega
  have b3 : ∀ j, j < 16 → B (52 + j) = (w_I w7 (b + 10) j).toInt := fun j q => by rw [hB]; simp only; rw [if_neg (by omega), if_pos (by omega)]; congr 2; omega
  have b4 : ∀ j, j < 16 → B (84 + j) = (w_I w7 (b + 11) j).toInt := fun j q => by rw [hB]; simp only; rw [if_neg (by omega), if_neg (by omega), if_pos (by omega)]; congr 2; omega
  have hA : MemA w7 b B := by
    have z : ∀ i, i < 5 → w_I w7 b i = Int32.ofInt (B i) := fun i hi => by rw [x0, v0 i hi, b1 i (by omega) (by omega) (by omega)]
    refine ⟨⟨z 0 (by omega), z 1 (by omega), z 2 (by omega), z 3 (by omega), z 4 (by omega)⟩, fun j hj => ?_, fun j hj => ?_, fun j hj => ?_, fun j hj => ?_, fun j hj => ?_, fun j hj => ?_, ⟨?_, ?_, ?_⟩, fun j hj => ?_, fun j hj => ?_⟩
    · rw [x1, g1 j hj, b1 _ (by omega) (by omega) (by omega), n_row0 _ (by omega)]
    · rw [x2, g2 j hj, b1 _ (by omega) (by omega) (by omega), n_row0 _ (by omega)]
    · rw [x3, g3 j hj, b1 _ (by omega) (by omega) (by omega), n_row0 _ (by omega)]
    · rw [x4, g4 j hj, b1 _ (by omega) (by omega) (by omega), n_row0 _ (by omega)]
    · rw [x5, g5 j hj, b1 _ (by omega) (by omega) (by omega), n_row0 _ (by omega)]
    · rw [x6, g6 j hj, b1 _ (by omega) (by omega) (by omega), n_row0 _ (by omega)]
    · rw [b2 0 (by omega), Int32.ofInt_toInt]
    · rw [b2 1 (by omega), Int32.ofInt_toInt]
    · rw [b2 2 (by omega), Int32.ofInt_toInt]
    · rw [b3 j hj, Int32.ofInt_toInt]
    · rw [b4 j hj, Int32.ofInt_toInt]
  refine c_begin (dv := 0) (way := 1) (hM0.fr h7) hA (Or.inl rfl) fun w8 k1 k2 k3 => ?_
  simp only [wp_c, wp_n, jj_n, Int.reduceToNat, Int.toNat_natCast, stE, wlE, lgt, lpu, lpw, v_c2, va_s, true_and, and_true, Option.toList, List.nil_append, List.cons_append, List.take, List.drop, List.reverse, List.reverseAux, List.length_cons, List.length_nil, reduceCtorEq, false_implies, true_implies, forall_const, not_true_eq_false, not_false_eq_true, ite_true, ite_false, Bool.false_eq_true, I_I, J_J, Nat.add_left_cancel_iff, Nat.reduceEqDiff, Nat.add_eq_left, Nat.left_eq_add, false_and, and_false, Nat.reduceSub, Nat.sub_self, Nat.le_refl, Nat.zero_le, ge_iff_le, Nat.reduceAdd, Nat.reduceLeDiff, Nat.zero_add, Nat.reduceLT]
  have h8 := h7.trans k3 (l'' := [b, b + 1, b + 2, b + 3, b + 4, b + 5, b + 6, b + 7, b + 9, b + 10, b + 11]) (by simp) (by simp)
  have hrow : ∀ j, j < 116 → j ≠ 7 → a_beg B 1 j = n_row j := by
    intro j hj h7'
    by_cases q1 : (9 ≤ j ∧ j < 12) ∨ (52 ≤ j ∧ j < 68) ∨ (84 ≤ j ∧ j < 100)
    · rw [n_row0 j (by omega)]
      simp only [a_beg, up_eq, zr]
      rw [if_neg h7']
      split
      · rfl
      · split
        · rfl
        · split
          · rfl
          · split
            · rfl
            · omega
    · rw [beg_k _ _ _ (by omega), b1 _ (by omega) (by omega) (by omega)]
  refine hq w8 ⟨hM0.fr h8, ?_, ⟨0, by omega, ?_, ?_, ?_, ?_, fun i k hi hk => ?_⟩, ?_, 0, 1, 0, 0, Int32.ofInt 0, Int32.ofInt 0, ?_, Or.inl rfl, by decide, fun h => ?_⟩ (h8.toM (by simp))
  · refine MemA.row (A := up (a_beg B 1) 7 0) (k1.free (by omega)) (fun j hj h5 => ?_)
    rw [up_eq]
    split
    · rename_i e; rw [e, n_row0 _ (by omega)]
    · rename_i e; rw [hrow j hj e]
  · rw [n_row0 _ (by omega)]; omega
  · rw [n_row0 _ (by omega)]; omega
  · rw [(k3.2.2.2 (b + 7) (by simp)).1, l0, n_row0 _ (by omega)]
  · rw [(k3.2.2.2 (b + 7) (by simp)).1, l1]; rfl
  · rw [n_row0 _ (by omega)] at hi; omega
  · rw [(k3.2.2.2 b (by simp)).2, xJ, vJ, du_z (fun j hj => n_row0 _ (by omega)) (by decide)]
  · rw [n_row0 5 (by omega)]; exact k2
  · rw [n_row0 5 (by omega)] at h; omega
/-! Multiplication -/
def Mu (w : mW) (p : Nat) : Prop := w_sh w p = (0, 3) ∧ w_sh w (p + 1) = (1, 7) ∧ w_R w p 1 = some (p + 1)
theorem Mu.fr {l : List Nat} {w w' : mW} {p : Nat} (h : Mu w p) (f : Fr l w w') : Mu w' p := by
  unfold Mu; rw [f.1, f.2.1]; exact h
def a_pl : Nat → Int → Int → Int → List Int
  | 0, _, _, _ => []
  | f + 1, r, c, s => if r + c ≤ 0 then [] else
    (r % 10 + c - 10 * (if ¬ s = 0 ∧ 6 ≤ r % 10 + c then 1 else 0)) :: a_pl f (r / 10) (if ¬ s = 0 ∧ 6 ≤ r % 10 + c then 1 else 0) s
/-- what is planned -/
def PL (w : mW) (p : Nat) (l : List Int) : Prop := w_I w p 0 = Int32.ofInt l.length ∧ ∀ i, i < l.length → w_I w (p + 1) i = Int32.ofInt (l.getD i 0)
theorem c_plan_10 {p : Nat} {x : Int32} {s : Int} {Q : mW → mO → Prop} (hs : s = 0 ∨ s = 1) : ∀ (f : Nat) (r c : Int) (done : List Int) (w : mW) (z : Value), done.length + f = 7 → 0 ≤ r ∧ r ≤ 999999 → (c = 0 ∨ c = 1) → Mu w p → PL w p done → (∀ w', PL w' p (done ++ a_pl f r c s) → Fr [p, p + 1] w w' → Q w' (.inl none)) →
    RT n_X3_plan 10 [.ref p, .int x, .int (Int32.ofInt s), .int (Int32.ofInt r), .int (Int32.ofInt c), z] [] w (0, 0, false) Q := by
  intro f
  induction f with
  | zero =>
    intro r c done w z hf hr hc hM hP hq
    have hR : inR (done.length : Int) := ⟨by omega, by omega⟩
    refine rt_X3_plan_10 ?_
    simp only [wp_c, wp_n, jj_n, Int.reduceToNat, Int.toNat_natCast, stE, wlE, lgt, lpu, lpw, v_c2, va_s, true_and, and_true, Option.toList, List.nil_append, List.cons_append, List.take, List.drop, List.reverse, List.reverseAux, List.length_cons, List.length_nil, reduceCtorEq, false_implies, true_implies, forall_const, not_true_eq_false, not_false_eq_true, ite_true, ite_false, Bool.false_eq_true, I_I, J_J, Nat.add_left_cancel_iff, Nat.reduceEqDiff, Nat.add_eq_left, Nat.left_eq_add, false_and, and_false, Nat.reduceSub, Nat.sub_self, Nat.le_refl, Nat.zero_le, ge_iff_le, Nat.reduceAdd, Nat.reduceLeDiff, Nat.zero_add, Nat.reduceLT, hM.1, hP.1, oi_le (show inR 7 from ⟨by omega, by omega⟩) hR]
    refine ⟨fun _ => ?_, fun h => absurd (by omega) h⟩
    refine rt_X3_plan_88 ?_
    simp only [wp_c, wp_n, jj_n, Int.reduceToNat, Int.toNat_natCast, stE, wlE, lgt, lpu, lpw, v_c2, va_s, true_and, and_true, Option.toList, List.nil_append, List.cons_append, List.take, List.drop, List.reverse, List.reverseAux, List.length_cons, List.length_nil, reduceCtorEq, false_implies, true_implies, forall_const, not_true_eq_false, not_false_eq_true, ite_true, ite_false, Bool.false_eq_true, I_I, J_J, Nat.add_left_cancel_iff, Nat.reduceEqDiff, Nat.add_eq_left, Nat.left_eq_add, false_and, and_false, Nat.reduceSub, Nat.sub_self, Nat.le_refl, Nat.zero_le, ge_iff_le, Nat.reduceAdd, Nat.reduceLeDiff, Nat.zero_add, Nat.reduceLT]
    exact hq w (by simpa [a_pl] using hP) (Fr.refl _ _)
  | succ f ih =>
    intro r c done w z hf hr hc hM hP hq
    have hR : inR (done.length : Int) := ⟨by omega, by omega⟩
    have hrR : inR r := ⟨by omega, by omega⟩
    have h10 : inR (10 : Int) := ⟨by omega, by omega⟩
    have hrc : inR (r + c) := ⟨by omega, by omega⟩
    have hsum : inR (r % 10 + c) := ⟨by omega, by omega⟩
    have hsR : inR s := ⟨by omega, by omega⟩
    have er := oi_rem hrR h10 hr.1 (by omega : (0 : Int) < 10)
    have ed := oi_div hrR h10 hr.1 (by omega : (0 : Int) < 10)
    rw [a_pl] at hq
    -- behind the choice
    have h51 : ¬ r + c ≤ 0 → ∀ c' : Int, c' = (if ¬ s = 0 ∧ 6 ≤ r % 10 + c then 1 else 0) → RT n_X3_plan 51 [.ref p, .int x, .int (Int32.ofInt s), .int (Int32.ofInt r), .int (Int32.ofInt c), .int (Int32.ofInt (r % 10 + c))] [.int (Int32.ofInt c')] w (0, 0, false) Q := by
      intro hpos c' hc'
      have hc01 : c' = 0 ∨ c' = 1 := by rw [hc']; split; exact Or.inr rfl; exact Or.inl rfl
      rw [if_neg hpos, ← hc'] at hq
      refine rt_X3_plan_51 ?_
      simp only [wp_c, wp_n, jj_n, Int.reduceToNat, Int.toNat_natCast, stE, wlE, lgt, lpu, lpw, v_c2, va_s, true_and, and_true, Option.toList, List.nil_append, List.cons_append, List.take, List.drop, List.reverse, List.reverseAux, List.length_cons, List.length_nil, reduceCtorEq, false_implies, true_implies, forall_const, not_true_eq_false, not_false_eq_true, ite_true, ite_false, Bool.false_eq_true, I_I, J_J, Nat.add_left_cancel_iff, Nat.reduceEqDiff, Nat.add_eq_left, Nat.left_eq_add, false_and, and_false, Nat.reduceSub, Nat.sub_self, Nat.le_refl, Nat.zero_le, ge_iff_le, Nat.reduceAdd, Nat.reduceLeDiff, Nat.zero_add, Nat.reduceLT, hM.1, hM.2.1, hM.2.2, hP.1, vp_oi hR, oi_nc hR, oi_mul, oi_sub, ed, oi_add]
      refine ⟨by omega, by decide, ?_⟩
      have f1 : Fr [p, p + 1] w (s_I (s_I w (p + 1) done.length (Int32.ofInt (r % 10 + c - 10 * c'))) p 0 (Int32.ofInt ((done.length : Int) + 1))) := ((Fr.refl _ _).I (by simp)).I (by simp)
      refine ih (r / 10) c' (done ++ [r % 10 + c - 10 * c']) _ _ (by simp; omega) (by omega) hc01 (hM.fr f1) ⟨?_, fun i hi => ?_⟩ (fun w' q1 q2 => ?_)
      · simp only [wp_c, wp_n, jj_n, Int.reduceToNat, Int.toNat_natCast, stE, wlE, lgt, lpu, lpw, v_c2, va_s, true_and, and_true, Option.toList, List.nil_append, List.cons_append, List.take, List.drop, List.reverse, List.reverseAux, List.length_cons, List.length_nil, reduceCtorEq, false_implies, true_implies, forall_const, not_true_eq_false, not_false_eq_true, ite_true, ite_false, Bool.false_eq_true, I_I, J_J, Nat.add_left_cancel_iff, Nat.reduceEqDiff, Nat.add_eq_left, Nat.left_eq_add, false_and, and_false, Nat.reduceSub, Nat.sub_self, Nat.le_refl, Nat.zero_le, ge_iff_le, Nat.reduceAdd, Nat.reduceLeDiff, Nat.zero_add, Nat.reduceLT, List.length_append]; push_cast; rfl
      · simp only [List.length_append, List.length_cons, List.length_nil] at hi
        simp only [wp_c, wp_n, jj_n, Int.reduceToNat, Int.toNat_natCast, stE, wlE, lgt, lpu, lpw, v_c2, va_s, true_and, and_true, Option.toList, List.nil_append, List.cons_append, List.take, List.drop, List.reverse, List.reverseAux, List.length_cons, List.length_nil, reduceCtorEq, false_implies, true_implies, forall_const, not_true_eq_false, not_false_eq_true, ite_true, ite_false, Bool.false_eq_true, I_I, J_J, Nat.add_left_cancel_iff, Nat.reduceEqDiff, Nat.add_eq_left, Nat.left_eq_add, false_and, and_false, Nat.reduceSub, Nat.sub_self, Nat.le_refl, Nat.zero_le, ge_iff_le, Nat.reduceAdd, Nat.reduceLeDiff, Nat.zero_add, Nat.reduceLT]
        by_cases h : i = done.length
        · rw [if_pos h, h]; simp
        · rw [if_neg h, hP.2 i (by omega)]
          congr 1
          simp [List.getD_eq_getElem?_getD, List.getElem?_append_left (show i < done.length by omega)]
      · refine hq w' ?_ (f1.trans q2 (fun _ q => q) (fun _ q => q))
        simpa using q1
    refine rt_X3_plan_10 ?_
    simp only [wp_c, wp_n, jj_n, Int.reduceToNat, Int.toNat_natCast, stE, wlE, lgt, lpu, lpw, v_c2, va_s, true_and, and_true, Option.toList, List.nil_append, List.cons_append, List.take, List.drop, List.reverse, List.reverseAux, List.length_cons, List.length_nil, reduceCtorEq, false_implies, true_implies, forall_const, not_true_eq_false, not_false_eq_true, ite_true, ite_false, Bool.false_eq_true, I_I, J_J, Nat.add_left_cancel_iff, Nat.reduceEqDiff, Nat.add_eq_left, Nat.left_eq_add, false_and, and_false, Nat.reduceSub, Nat.sub_self, Nat.le_refl, Nat.zero_le, ge_iff_le, Nat.reduceAdd, Nat.reduceLeDiff, Nat.zero_add, Nat.reduceLT, hM.1, hP.1, oi_le (show inR 7 from ⟨by omega, by omega⟩) hR, oi_add, oi_le0 hrc, er, oi_e0 hsR, oi_lt hsum (show inR 6 from ⟨by omega, by omega⟩)]
    have h50 : ¬ r + c ≤ 0 → ¬ (¬ s = 0 ∧ 6 ≤ r % 10 + c) → RT n_X3_plan 50 [.ref p, .int x, .int (Int32.ofInt s), .int (Int32.ofInt r), .int (Int32.ofInt c), .int (Int32.ofInt (r % 10 + c))] [] w (0, 0, false) Q := by
      intro h1 h2
      refine rt_X3_plan_50 ?_
      simp only [wp_c, wp_n, jj_n, Int.reduceToNat, Int.toNat_natCast, stE, wlE, lgt, lpu, lpw, v_c2, va_s, true_and, and_true, Option.toList, List.nil_append, List.cons_append, List.take, List.drop, List.reverse, List.reverseAux, List.length_cons, List.length_nil, reduceCtorEq, false_implies, true_implies, forall_const, not_true_eq_false, not_false_eq_true, ite_true, ite_false, Bool.false_eq_true, I_I, J_J, Nat.add_left_cancel_iff, Nat.reduceEqDiff, Nat.add_eq_left, Nat.left_eq_add, false_and, and_false, Nat.reduceSub, Nat.sub_self, Nat.le_refl, Nat.zero_le, ge_iff_le, Nat.reduceAdd, Nat.reduceLeDiff, Nat.zero_add, Nat.reduceLT]
      exact h51 h1 0 (by rw [if_neg h2])
    refine ⟨fun h => absurd h (by omega), fun _ => ⟨fun h => ?_, fun h => ⟨by decide, fun h1 => h50 h (fun q => q.1 h1), fun h1 => ⟨fun h2 => h50 h (fun q => by omega), fun h2 => h51 h 1 (by rw [if_pos ⟨h1, by omega⟩])⟩⟩⟩⟩
    rw [if_pos h] at hq
    refine rt_X3_plan_88 ?_
    simp only [wp_c, wp_n, jj_n, Int.reduceToNat, Int.toNat_natCast, stE, wlE, lgt, lpu, lpw, v_c2, va_s, true_and, and_true, Option.toList, List.nil_append, List.cons_append, List.take, List.drop, List.reverse, List.reverseAux, List.length_cons, List.length_nil, reduceCtorEq, false_implies, true_implies, forall_const, not_true_eq_false, not_false_eq_true, ite_true, ite_false, Bool.false_eq_true, I_I, J_J, Nat.add_left_cancel_iff, Nat.reduceEqDiff, Nat.add_eq_left, Nat.left_eq_add, false_and, and_false, Nat.reduceSub, Nat.sub_self, Nat.le_refl, Nat.zero_le, ge_iff_le, Nat.reduceAdd, Nat.reduceLeDiff, Nat.zero_add, Nat.reduceLT]
    exact hq w (by simpa using hP) (Fr.refl _ _)
theorem c_plan {p : Nat} {v s : Int} {w : mW} {Q : mW → mO → Prop} (hs : s = 0 ∨ s = 1) (hv : 0 ≤ v ∧ v ≤ 999999) (hM : Mu w p) (hq : ∀ w', PL w' p (a_pl 7 v 0 s) → Fr [p, p + 1] w w' → Q w' (.inl none)) : CT n_X3_plan [.ref p, .int (Int32.ofInt v), .int (Int32.ofInt s)] w Q := by
  refine ct_X3_plan (rt_X3_plan_0 ?_)
  simp only [wp_c, wp_n, jj_n, Int.reduceToNat, Int.toNat_natCast, stE, wlE, lgt, lpu, lpw, v_c2, va_s, true_and, and_true, Option.toList, List.nil_append, List.cons_append, List.take, List.drop, List.reverse, List.reverseAux, List.length_cons, List.length_nil, reduceCtorEq, false_implies, true_implies, forall_const, not_true_eq_false, not_false_eq_true, ite_true, ite_false, Bool.false_eq_true, I_I, J_J, Nat.add_left_cancel_iff, Nat.reduceEqDiff, Nat.add_eq_left, Nat.left_eq_add, false_and, and_false, Nat.reduceSub, Nat.sub_self, Nat.le_refl, Nat.zero_le, ge_iff_le, Nat.reduceAdd, Nat.reduceLeDiff, Nat.zero_add, Nat.reduceLT, hM.1]
  have f1 : Fr [p, p + 1] w (s_I w p 0 (Int32.ofInt 0)) := (Fr.refl _ _).I (by simp)
  refine c_plan_10 (s := s) hs 7 v 0 [] _ _ rfl hv (Or.inl rfl) (hM.fr f1) ⟨by simp only [wp_c, wp_n, jj_n, Int.reduceToNat, Int.toNat_natCast, stE, wlE, lgt, lpu, lpw, v_c2, va_s, true_and, and_true, Option.toList, List.nil_append, List.cons_append, List.take, List.drop, List.reverse, List.reverseAux, List.length_cons, List.length_nil, reduceCtorEq, false_implies, true_implies, forall_const, not_true_eq_false, not_false_eq_true, ite_true, ite_false, Bool.false_eq_true, I_I, J_J, Nat.add_left_cancel_iff, Nat.reduceEqDiff, Nat.add_eq_left, Nat.left_eq_add, false_and, and_false, Nat.reduceSub, Nat.sub_self, Nat.le_refl, Nat.zero_le, ge_iff_le, Nat.reduceAdd, Nat.reduceLeDiff, Nat.zero_add, Nat.reduceLT]; rfl, fun i hi => absurd hi (by simp)⟩ (fun w' q1 q2 => ?_)
  exact hq w' (by simpa using q1) (f1.trans q2 (fun _ q => q) (fun _ q => q))
theorem c_fits {p b : Nat} {l : List Int} {A : Row} {w : mW} {Q : mW → mO → Prop} (hl : l.length ≤ 7) (hM : Mu w p) (hP : PL w p l) (hB : Mb w b) (hA : MemA w b A) (hz : 0 ≤ A 1 - A 0 ∧ A 1 ≤ 16 ∧ 0 ≤ A 0) (hq : Q w (.inl (some (.int (Int32.ofInt (if (l.length : Int) - 1 ≤ A 1 - A 0 then 1 else 0)))))) : CT n_X3_fits [.ref p, .ref b] w Q := by
  have h1 : inR ((l.length : Int) - 1) := ⟨by omega, by omega⟩
  have h2 : inR (A 1 - A 0) := ⟨by omega, by omega⟩
  have s0 := hB.1.1
  refine ct_X3_fits (rt_X3_fits_0 ?_)
  simp only [wp_c, wp_n, jj_n, Int.reduceToNat, Int.toNat_natCast, stE, wlE, lgt, lpu, lpw, v_c2, va_s, true_and, and_true, Option.toList, List.nil_append, List.cons_append, List.take, List.drop, List.reverse, List.reverseAux, List.length_cons, List.length_nil, reduceCtorEq, false_implies, true_implies, forall_const, not_true_eq_false, not_false_eq_true, ite_true, ite_false, Bool.false_eq_true, I_I, J_J, Nat.add_left_cancel_iff, Nat.reduceEqDiff, Nat.add_eq_left, Nat.left_eq_add, false_and, and_false, Nat.reduceSub, Nat.sub_self, Nat.le_refl, Nat.zero_le, ge_iff_le, Nat.reduceAdd, Nat.reduceLeDiff, Nat.zero_add, Nat.reduceLT, hM.1, hP.1, s0, oi_sub, mh_X3_fits]
  refine c_highest hB hA ?_
  simp only [wp_c, wp_n, jj_n, Int.reduceToNat, Int.toNat_natCast, stE, wlE, lgt, lpu, lpw, v_c2, va_s, true_and, and_true, Option.toList, List.nil_append, List.cons_append, List.take, List.drop, List.reverse, List.reverseAux, List.length_cons, List.length_nil, reduceCtorEq, false_implies, true_implies, forall_const, not_true_eq_false, not_false_eq_true, ite_true, ite_false, Bool.false_eq_true, I_I, J_J, Nat.add_left_cancel_iff, Nat.reduceEqDiff, Nat.add_eq_left, Nat.left_eq_add, false_and, and_false, Nat.reduceSub, Nat.sub_self, Nat.le_refl, Nat.zero_le, ge_iff_le, Nat.reduceAdd, Nat.reduceLeDiff, Nat.zero_add, Nat.reduceLT, oi_lt h2 h1]
  refine ⟨fun h => ?_, fun h => ?_⟩
  · rw [if_neg (by omega)] at hq
    refine rt_X3_fits_17 ?_
    simp only [wp_c, wp_n, jj_n, Int.reduceToNat, Int.toNat_natCast, stE, wlE, lgt, lpu, lpw, v_c2, va_s, true_and, and_true, Option.toList, List.nil_append, List.cons_append, List.take, List.drop, List.reverse, List.reverseAux, List.length_cons, List.length_nil, reduceCtorEq, false_implies, true_implies, forall_const, not_true_eq_false, not_false_eq_true, ite_true, ite_false, Bool.false_eq_true, I_I, J_J, Nat.add_left_cancel_iff, Nat.reduceEqDiff, Nat.add_eq_left, Nat.left_eq_add, false_and, and_false, Nat.reduceSub, Nat.sub_self, Nat.le_refl, Nat.zero_le, ge_iff_le, Nat.reduceAdd, Nat.reduceLeDiff, Nat.zero_add, Nat.reduceLT]
    refine rt_X3_fits_18 ?_
    simp only [wp_c, wp_n, jj_n, Int.reduceToNat, Int.toNat_natCast, stE, wlE, lgt, lpu, lpw, v_c2, va_s, true_and, and_true, Option.toList, List.nil_append, List.cons_append, List.take, List.drop, List.reverse, List.reverseAux, List.length_cons, List.length_nil, reduceCtorEq, false_implies, true_implies, forall_const, not_true_eq_false, not_false_eq_true, ite_true, ite_false, Bool.false_eq_true, I_I, J_J, Nat.add_left_cancel_iff, Nat.reduceEqDiff, Nat.add_eq_left, Nat.left_eq_add, false_and, and_false, Nat.reduceSub, Nat.sub_self, Nat.le_refl, Nat.zero_le, ge_iff_le, Nat.reduceAdd, Nat.reduceLeDiff, Nat.zero_add, Nat.reduceLT, mr_X3_fits]
    exact ⟨Or.inl rfl, hq⟩
  · rw [if_pos (by omega)] at hq
    refine rt_X3_fits_18 ?_
    simp only [wp_c, wp_n, jj_n, Int.reduceToNat, Int.toNat_natCast, stE, wlE, lgt, lpu, lpw, v_c2, va_s, true_and, and_true, Option.toList, List.nil_append, List.cons_append, List.take, List.drop, List.reverse, List.reverseAux, List.length_cons, List.length_nil, reduceCtorEq, false_implies, true_implies, forall_const, not_true_eq_false, not_false_eq_true, ite_true, ite_false, Bool.false_eq_true, I_I, J_J, Nat.add_left_cancel_iff, Nat.reduceEqDiff, Nat.add_eq_left, Nat.left_eq_add, false_and, and_false, Nat.reduceSub, Nat.sub_self, Nat.le_refl, Nat.zero_le, ge_iff_le, Nat.reduceAdd, Nat.reduceLeDiff, Nat.zero_add, Nat.reduceLT, mr_X3_fits]
    exact ⟨Or.inr rfl, hq⟩
theorem c_abs {x : Int} {w : mW} {Q : mW → mO → Prop} (hx : inR x) (hq : Q w (.inl (some (.int (Int32.ofInt (if x < 0 then -x else x)))))) : CT n_J9_abs_0f7a4 [.int (Int32.ofInt x)] w Q := by
  refine ct_J9_abs_0f7a4 (rt_J9_abs_0f7a4_0 ?_)
  simp only [wp_c, wp_n, jj_n, Int.reduceToNat, Int.toNat_natCast, stE, wlE, lgt, lpu, lpw, v_c2, va_s, true_and, and_true, Option.toList, List.nil_append, List.cons_append, List.take, List.drop, List.reverse, List.reverseAux, List.length_cons, List.length_nil, reduceCtorEq, false_implies, true_implies, forall_const, not_true_eq_false, not_false_eq_true, ite_true, ite_false, Bool.false_eq_true, I_I, J_J, Nat.add_left_cancel_iff, Nat.reduceEqDiff, Nat.add_eq_left, Nat.left_eq_add, false_and, and_false, Nat.reduceSub, Nat.sub_self, Nat.le_refl, Nat.zero_le, ge_iff_le, Nat.reduceAdd, Nat.reduceLeDiff, Nat.zero_add, Nat.reduceLT, oi_ge0 hx, oi_neg]
  refine ⟨fun h => ?_, fun h => ?_⟩
  · rw [if_neg (by omega)] at hq
    refine rt_J9_abs_0f7a4_9 ?_
    simp only [wp_c, wp_n, jj_n, Int.reduceToNat, Int.toNat_natCast, stE, wlE, lgt, lpu, lpw, v_c2, va_s, true_and, and_true, Option.toList, List.nil_append, List.cons_append, List.take, List.drop, List.reverse, List.reverseAux, List.length_cons, List.length_nil, reduceCtorEq, false_implies, true_implies, forall_const, not_true_eq_false, not_false_eq_true, ite_true, ite_false, Bool.false_eq_true, I_I, J_J, Nat.add_left_cancel_iff, Nat.reduceEqDiff, Nat.add_eq_left, Nat.left_eq_add, false_and, and_false, Nat.reduceSub, Nat.sub_self, Nat.le_refl, Nat.zero_le, ge_iff_le, Nat.reduceAdd, Nat.reduceLeDiff, Nat.zero_add, Nat.reduceLT]
    refine rt_J9_abs_0f7a4_10 ?_
    simp only [wp_c, wp_n, jj_n, Int.reduceToNat, Int.toNat_natCast, stE, wlE, lgt, lpu, lpw, v_c2, va_s, true_and, and_true, Option.toList, List.nil_append, List.cons_append, List.take, List.drop, List.reverse, List.reverseAux, List.length_cons, List.length_nil, reduceCtorEq, false_implies, true_implies, forall_const, not_true_eq_false, not_false_eq_true, ite_true, ite_false, Bool.false_eq_true, I_I, J_J, Nat.add_left_cancel_iff, Nat.reduceEqDiff, Nat.add_eq_left, Nat.left_eq_add, false_and, and_false, Nat.reduceSub, Nat.sub_self, Nat.le_refl, Nat.zero_le, ge_iff_le, Nat.reduceAdd, Nat.reduceLeDiff, Nat.zero_add, Nat.reduceLT, mr_J9_abs_0f7a4]
    exact hq
  · rw [if_pos (by omega)] at hq
    refine rt_J9_abs_0f7a4_10 ?_
    simp only [wp_c, wp_n, jj_n, Int.reduceToNat, Int.toNat_natCast, stE, wlE, lgt, lpu, lpw, v_c2, va_s, true_and, and_true, Option.toList, List.nil_append, List.cons_append, List.take, List.drop, List.reverse, List.reverseAux, List.length_cons, List.length_nil, reduceCtorEq, false_implies, true_implies, forall_const, not_true_eq_false, not_false_eq_true, ite_true, ite_false, Bool.false_eq_true, I_I, J_J, Nat.add_left_cancel_iff, Nat.reduceEqDiff, Nat.add_eq_left, Nat.left_eq_add, false_and, and_false, Nat.reduceSub, Nat.sub_self, Nat.le_refl, Nat.zero_le, ge_iff_le, Nat.reduceAdd, Nat.reduceLeDiff, Nat.zero_add, Nat.reduceLT, mr_J9_abs_0f7a4]
    exact hq
def a_tt (l : List Int) : Nat → Int
  | 0 => 0
  | n + 1 => a_tt l n + (if l.getD n 0 < 0 then -(l.getD n 0) else l.getD n 0)
theorem c_tt_4 {p : Nat} {l : List Int} {w : mW} {Q : mW → mO → Prop} (hl : l.length ≤ 7) (hM : Mu w p) (hP : PL w p l) (hr : ∀ i, inR (l.getD i 0)) : ∀ (n j : Nat), j + n = l.length → Q w (.inl (some (.int (Int32.ofInt (a_tt l l.length))))) →
    RT n_X3_turnTotal 4 [.ref p, .int (Int32.ofInt (a_tt l j)), .int (Int32.ofInt j)] [] w (0, 0, false) Q := by
  intro n
  induction n with
  | zero =>
    intro j hn hq
    have h1 : inR (j : Int) := ⟨by omega, by omega⟩
    have h2 : inR (l.length : Int) := ⟨by omega, by omega⟩
    refine rt_X3_turnTotal_4 ?_
    simp only [wp_c, wp_n, jj_n, Int.reduceToNat, Int.toNat_natCast, stE, wlE, lgt, lpu, lpw, v_c2, va_s, true_and, and_true, Option.toList, List.nil_append, List.cons_append, List.take, List.drop, List.reverse, List.reverseAux, List.length_cons, List.length_nil, reduceCtorEq, false_implies, true_implies, forall_const, not_true_eq_false, not_false_eq_true, ite_true, ite_false, Bool.false_eq_true, I_I, J_J, Nat.add_left_cancel_iff, Nat.reduceEqDiff, Nat.add_eq_left, Nat.left_eq_add, false_and, and_false, Nat.reduceSub, Nat.sub_self, Nat.le_refl, Nat.zero_le, ge_iff_le, Nat.reduceAdd, Nat.reduceLeDiff, Nat.zero_add, Nat.reduceLT, hM.1, hP.1, oi_le h2 h1]
    refine ⟨fun _ => ?_, fun h => absurd (by omega) h⟩
    refine rt_X3_turnTotal_30 ?_
    simp only [wp_c, wp_n, jj_n, Int.reduceToNat, Int.toNat_natCast, stE, wlE, lgt, lpu, lpw, v_c2, va_s, true_and, and_true, Option.toList, List.nil_append, List.cons_append, List.take, List.drop, List.reverse, List.reverseAux, List.length_cons, List.length_nil, reduceCtorEq, false_implies, true_implies, forall_const, not_true_eq_false, not_false_eq_true, ite_true, ite_false, Bool.false_eq_true, I_I, J_J, Nat.add_left_cancel_iff, Nat.reduceEqDiff, Nat.add_eq_left, Nat.left_eq_add, false_and, and_false, Nat.reduceSub, Nat.sub_self, Nat.le_refl, Nat.zero_le, ge_iff_le, Nat.reduceAdd, Nat.reduceLeDiff, Nat.zero_add, Nat.reduceLT, mr_X3_turnTotal]
    have e : j = l.length := by omega
    rw [e]; exact hq
  | succ n ih =>
    intro j hn hq
    have h1 : inR (j : Int) := ⟨by omega, by omega⟩
    have h2 : inR (l.length : Int) := ⟨by omega, by omega⟩
    refine rt_X3_turnTotal_4 ?_
    simp only [wp_c, wp_n, jj_n, Int.reduceToNat, Int.toNat_natCast, stE, wlE, lgt, lpu, lpw, v_c2, va_s, true_and, and_true, Option.toList, List.nil_append, List.cons_append, List.take, List.drop, List.reverse, List.reverseAux, List.length_cons, List.length_nil, reduceCtorEq, false_implies, true_implies, forall_const, not_true_eq_false, not_false_eq_true, ite_true, ite_false, Bool.false_eq_true, I_I, J_J, Nat.add_left_cancel_iff, Nat.reduceEqDiff, Nat.add_eq_left, Nat.left_eq_add, false_and, and_false, Nat.reduceSub, Nat.sub_self, Nat.le_refl, Nat.zero_le, ge_iff_le, Nat.reduceAdd, Nat.reduceLeDiff, Nat.zero_add, Nat.reduceLT, hM.1, hM.2.1, hM.2.2, hP.1, oi_le h2 h1, vp_oi h1, oi_nc h1, hP.2 j (by omega), mh_X3_turnTotal]
    refine ⟨fun h => absurd h (by omega), fun _ => ⟨by omega, ?_⟩⟩
    refine c_abs (hr j) ?_
    simp only [wp_c, wp_n, jj_n, Int.reduceToNat, Int.toNat_natCast, stE, wlE, lgt, lpu, lpw, v_c2, va_s, true_and, and_true, Option.toList, List.nil_append, List.cons_append, List.take, List.drop, List.reverse, List.reverseAux, List.length_cons, List.length_nil, reduceCtorEq, false_implies, true_implies, forall_const, not_true_eq_false, not_false_eq_true, ite_true, ite_false, Bool.false_eq_true, I_I, J_J, Nat.add_left_cancel_iff, Nat.reduceEqDiff, Nat.add_eq_left, Nat.left_eq_add, false_and, and_false, Nat.reduceSub, Nat.sub_self, Nat.le_refl, Nat.zero_le, ge_iff_le, Nat.reduceAdd, Nat.reduceLeDiff, Nat.zero_add, Nat.reduceLT, oi_add]
    exact ih (j + 1) (by omega) hq
theorem c_turnTotal {p : Nat} {l : List Int} {w : mW} {Q : mW → mO → Prop} (hl : l.length ≤ 7) (hM : Mu w p) (hP : PL w p l) (hr : ∀ i, inR (l.getD i 0)) (hq : Q w (.inl (some (.int (Int32.ofInt (a_tt l l.length)))))) : CT n_X3_turnTotal [.ref p] w Q := by
  refine ct_X3_turnTotal (rt_X3_turnTotal_0 ?_)
  simp only [wp_c, wp_n, jj_n, Int.reduceToNat, Int.toNat_natCast, stE, wlE, lgt, lpu, lpw, v_c2, va_s, true_and, and_true, Option.toList, List.nil_append, List.cons_append, List.take, List.drop, List.reverse, List.reverseAux, List.length_cons, List.length_nil, reduceCtorEq, false_implies, true_implies, forall_const, not_true_eq_false, not_false_eq_true, ite_true, ite_false, Bool.false_eq_true, I_I, J_J, Nat.add_left_cancel_iff, Nat.reduceEqDiff, Nat.add_eq_left, Nat.left_eq_add, false_and, and_false, Nat.reduceSub, Nat.sub_self, Nat.le_refl, Nat.zero_le, ge_iff_le, Nat.reduceAdd, Nat.reduceLeDiff, Nat.zero_add, Nat.reduceLT]
  exact c_tt_4 hl hM hP hr l.length 0 (by omega) hq
theorem pl_r : ∀ (f : Nat) (r c s : Int), 0 ≤ r → (c = 0 ∨ c = 1) → (a_pl f r c s).length ≤ f ∧ ∀ x ∈ a_pl f r c s, -10 ≤ x ∧ x ≤ 10 := by
  intro f
  induction f with
  | zero => intro r c s _ _; simp [a_pl]
  | succ f ih =>
    intro r c s hr hc
    rw [a_pl]
    split
    · simp
    · obtain ⟨h1, h2⟩ := ih (r / 10) (if ¬ s = 0 ∧ 6 ≤ r % 10 + c then 1 else 0) s (by omega) (by split; exact Or.inr rfl; exact Or.inl rfl)
      refine ⟨by simp only [List.length_cons]; omega, fun x hx => ?_⟩
      rcases List.mem_cons.mp hx with rfl | hx
      · split <;> omega
      · exact h2 x hx
/-! numbers, with side conditions that arithmetic settles -/
theorem z_lt {a b : Int} (h1 : -2147483648 ≤ a) (h2 : a ≤ 2147483647) (h3 : -2147483648 ≤ b) (h4 : b ≤ 2147483647) : (Int32.ofInt a < Int32.ofInt b) = (a < b) := propext (oi_lt ⟨h1, h2⟩ ⟨h3, h4⟩)
theorem z_le {a b : Int} (h1 : -2147483648 ≤ a) (h2 : a ≤ 2147483647) (h3 : -2147483648 ≤ b) (h4 : b ≤ 2147483647) : (Int32.ofInt a ≤ Int32.ofInt b) = (a ≤ b) := propext (oi_le ⟨h1, h2⟩ ⟨h3, h4⟩)
theorem z_eq {a b : Int} (h1 : -2147483648 ≤ a) (h2 : a ≤ 2147483647) (h3 : -2147483648 ≤ b) (h4 : b ≤ 2147483647) : (Int32.ofInt a = Int32.ofInt b) = (a = b) := propext (oi_eq ⟨h1, h2⟩ ⟨h3, h4⟩)
theorem z_l0 {a : Int} (h1 : -2147483648 ≤ a) (h2 : a ≤ 2147483647) : (Int32.ofInt a < 0) = (a < 0) := propext (oi_l0 ⟨h1, h2⟩)
theorem z_g0 {a : Int} (h1 : -2147483648 ≤ a) (h2 : a ≤ 2147483647) : (0 < Int32.ofInt a) = (0 < a) := propext (oi_g0 ⟨h1, h2⟩)
theorem z_le0 {a : Int} (h1 : -2147483648 ≤ a) (h2 : a ≤ 2147483647) : (Int32.ofInt a ≤ 0) = (a ≤ 0) := propext (oi_le0 ⟨h1, h2⟩)
theorem z_ge0 {a : Int} (h1 : -2147483648 ≤ a) (h2 : a ≤ 2147483647) : (0 ≤ Int32.ofInt a) = (0 ≤ a) := propext (oi_ge0 ⟨h1, h2⟩)
theorem z_e0 {a : Int} (h1 : -2147483648 ≤ a) (h2 : a ≤ 2147483647) : (Int32.ofInt a = 0) = (a = 0) := propext (oi_e0 ⟨h1, h2⟩)
theorem z_e1 {a : Int} (h1 : -2147483648 ≤ a) (h2 : a ≤ 2147483647) : (Int32.ofInt a = 1) = (a = 1) := propext (oi_eq (b := 1) ⟨h1, h2⟩ ⟨by omega, by omega⟩)
theorem z_vp {a : Int} {n : Nat} (h1 : -2147483648 ≤ a) (h2 : a ≤ 2147483647) (h3 : 0 ≤ a) (h4 : a < n) : vp_in (Int32.ofInt a) n = True := eq_true ((vp_oi ⟨h1, h2⟩).mpr ⟨h3, h4⟩)
theorem z_nc {a : Int} (h1 : -2147483648 ≤ a) (h2 : a ≤ 2147483647) : (Int32.ofInt a).toNatClampNeg = a.toNat := oi_nc ⟨h1, h2⟩
theorem z_rem {a b : Int} (h1 : -2147483648 ≤ a) (h2 : a ≤ 2147483647) (h3 : -2147483648 ≤ b) (h4 : b ≤ 2147483647) (h5 : 0 ≤ a) (h6 : 0 < b) : Int32.ofInt a - Int32.ofInt a / Int32.ofInt b * Int32.ofInt b = Int32.ofInt (a % b) := oi_rem ⟨h1, h2⟩ ⟨h3, h4⟩ h5 h6
theorem z_div {a b : Int} (h1 : -2147483648 ≤ a) (h2 : a ≤ 2147483647) (h3 : -2147483648 ≤ b) (h4 : b ≤ 2147483647) (h5 : 0 ≤ a) (h6 : 0 < b) : Int32.ofInt a / Int32.ofInt b = Int32.ofInt (a / b) := oi_div ⟨h1, h2⟩ ⟨h3, h4⟩ h5 h6
theorem z_i2l {a : Int} (h1 : -2147483648 ≤ a) (h2 : a ≤ 2147483647) : (Int32.ofInt a).toInt64 = Int64.ofInt a := lo_i ⟨h1, h2⟩
theorem z_l2i (a : Int) : (Int64.ofInt a).toInt32 = Int32.ofInt a := Int64.toInt32_ofInt
theorem e_rem (a b : Int) : a - a / b * b = a % b := by rw [Int.emod_def, Int.mul_comm b]
theorem i_ltT {a b : Int} (h : a < b) : (a < b) = True := eq_true h
theorem i_ltF {a b : Int} (h : ¬ a < b) : (a < b) = False := eq_false h
theorem i_leT {a b : Int} (h : a ≤ b) : (a ≤ b) = True := eq_true h
theorem i_leF {a b : Int} (h : ¬ a ≤ b) : (a ≤ b) = False := eq_false h
theorem i_eqT {a b : Int} (h : a = b) : (a = b) = True := eq_true h
theorem i_eqF {a b : Int} (h : ¬ a = b) : (a = b) = False := eq_false h
theorem n_ltT {a b : Nat} (h : a < b) : (a < b) = True := eq_true h
theorem n_ltF {a b : Nat} (h : ¬ a < b) : (a < b) = False := eq_false h
theorem n_leT {a b : Nat} (h : a ≤ b) : (a ≤ b) = True := eq_true h
theorem n_leF {a b : Nat} (h : ¬ a ≤ b) : (a ≤ b) = False := eq_false h
theorem n_eqT {a b : Nat} (h : a = b) : (a = b) = True := eq_true h
theorem n_eqF {a b : Nat} (h : ¬ a = b) : (a = b) = False := eq_false h
theorem tn_9 (j : Nat) : ((9 : Int) + (j : Int)).toNat = 9 + j := by omega
theorem tn_12 (j : Nat) : ((12 : Int) + (j : Int)).toNat = 12 + j := by omega
theorem tn_14 (j : Nat) : ((14 : Int) + (j : Int)).toNat = 14 + j := by omega
theorem tn_20 (j : Nat) : ((20 : Int) + (j : Int)).toNat = 20 + j := by omega
theorem tn_28 (j : Nat) : ((28 : Int) + (j : Int)).toNat = 28 + j := by omega
theorem tn_44 (j : Nat) : ((44 : Int) + (j : Int)).toNat = 44 + j := by omega
theorem tn_52 (j : Nat) : ((52 : Int) + (j : Int)).toNat = 52 + j := by omega
theorem tn_68 (j : Nat) : ((68 : Int) + (j : Int)).toNat = 68 + j := by omega
theorem tn_84 (j : Nat) : ((84 : Int) + (j : Int)).toNat = 84 + j := by omega
theorem tn_100 (j : Nat) : ((100 : Int) + (j : Int)).toNat = 100 + j := by omega
theorem tn_116 (j : Nat) : ((116 : Int) + (j : Int)).toNat = 116 + j := by omega
theorem tn_132 (j : Nat) : ((132 : Int) + (j : Int)).toNat = 132 + j := by omega
theorem fu_e (F : Nat → Int32) (i : Nat) (x : Int32) (j : Nat) : upd F i x j = if j = i then x else F j := rfl
theorem ob_0 {p : Prop} [Decidable p] : (Int32.ofInt (if p then 1 else 0) = 0) = ¬ p := by
  by_cases h : p
  · rw [if_pos h]; exact propext ⟨fun q => absurd q (by decide), fun q => absurd h q⟩
  · rw [if_neg h]; exact propext ⟨fun _ => h, fun _ => rfl⟩
theorem ob_b {p : Prop} [Decidable p] : (Int32.ofInt (if p then 1 else 0) = 0 ∨ Int32.ofInt (if p then 1 else 0) = 1) = True := by
  by_cases h : p
  · rw [if_pos h]; exact eq_true (Or.inr rfl)
  · rw [if_neg h]; exact eq_true (Or.inl rfl)
theorem nc_1 (n : Nat) : (n : Int) + 1 = ((n + 1 : Nat) : Int) := rfl
/-! the reference: its cells from r on -/
def Rb (w : mW) (r : Nat) : Prop := (w_sh w r = (0, 10) ∧ w_sh w (r + 1) = (1, 252) ∧ w_sh w (r + 2) = (1, 900) ∧ w_sh w (r + 3) = (1, 8) ∧ w_sh w (r + 4) = (1, 252) ∧ w_sh w (r + 5) = (1, 3528) ∧ w_sh w (r + 6) = (2, 2) ∧ w_sh w (r + 7) = (4, 4) ∧ w_sh w (r + 8) = (4, 6) ∧ w_sh w (r + 9) = (4, 7) ∧ w_sh w (r + 10) = (4, 5) ∧ w_sh w (r + 11) = (4, 4) ∧ w_sh w (r + 12) = (4, 5) ∧ w_sh w (r + 13) = (4, 3) ∧ w_sh w (r + 14) = (4, 4) ∧ w_sh w (r + 15) = (4, 5) ∧ w_sh w (r + 16) = (4, 5) ∧ w_sh w (r + 17) = (4, 6) ∧ w_sh w (r + 18) = (4, 5) ∧ w_sh w (r + 19) = (4, 5) ∧ w_sh w (r + 20) = (4, 6) ∧ w_sh w (r + 21) = (2, 4) ∧ w_sh w (r + 22) = (1, 40) ∧ w_sh w (r + 23) = (1, 40) ∧ w_sh w (r + 24) = (2, 40) ∧ w_sh w (r + 25) = (1, 40)) ∧ w_R w r 0 = some (r + 1) ∧ w_R w r 2 = some (r + 2) ∧ w_R w r 6 = some (r + 3) ∧ w_R w r 8 = some (r + 4) ∧ w_R w r 9 = some (r + 5) ∧ w_R w r 10 = some (r + 6) ∧ w_R w r 12 = some (r + 7) ∧ w_R w r 13 = some (r + 8) ∧ w_R w r 14 = some (r + 9) ∧ w_R w r 15 = some (r + 10) ∧ w_R w r 16 = some (r + 11) ∧ w_R w r 17 = some (r + 12) ∧ w_R w r 18 = some (r + 13) ∧ w_R w r 19 = some (r + 14) ∧ w_R w r 20 = some (r + 15) ∧ w_R w r 21 = some (r + 16) ∧ w_R w r 22 = some (r + 17) ∧ w_R w r 23 = some (r + 18) ∧ w_R w r 24 = some (r + 19) ∧ w_R w r 25 = some (r + 20) ∧ w_R w r 35 = some (r + 21) ∧ w_R w r 37 = some (r + 22) ∧ w_R w r 38 = some (r + 23) ∧ w_R w r 39 = some (r + 24) ∧ w_R w r 41 = some (r + 25)
theorem Rb.fr {l : List Nat} {w w' : mW} {r : Nat} (h : Rb w r) (f : Fr l w w') : Rb w' r := by
  unfold Rb; rw [f.1, f.2.1]; exact h
/-- the world with the row A and the fields F -/
def rs (r : Nat) (w : mW) (A : Row) (F : Nat → Int32) : mW := s_A (s_A w (r + 1) (fun j => Int32.ofInt (A j))) r F
theorem rs_sh (r : Nat) (w : mW) (A : Row) (F : Nat → Int32) : w_sh (rs r w A F) = w_sh w := rfl
theorem rs_R (r : Nat) (w : mW) (A : Row) (F : Nat → Int32) : w_R (rs r w A F) = w_R w := rfl
theorem rs_N (r : Nat) (w : mW) (A : Row) (F : Nat → Int32) : w_n (rs r w A F) = w_n w := rfl
theorem rs_J (r : Nat) (w : mW) (A : Row) (F : Nat → Int32) : w_J (rs r w A F) = w_J w := rfl
theorem rs_F (r : Nat) (w : mW) (A : Row) (F : Nat → Int32) : w_I (rs r w A F) r = F := by rw [rs, A_I, if_pos rfl]
theorem rs_A (r : Nat) (w : mW) (A : Row) (F : Nat → Int32) : w_I (rs r w A F) (r + 1) = fun j => Int32.ofInt (A j) := by rw [rs, A_I, if_neg (by omega), A_I, if_pos rfl]
theorem rs_o {r a : Nat} {w : mW} {A : Row} {F : Nat → Int32} (h : ¬ a = r) (h1 : ¬ a = r + 1) : w_I (rs r w A F) a = w_I w a := by rw [rs, A_I, if_neg h, A_I, if_neg h1]
theorem mW_ext {w w' : mW} (h1 : w_sh w = w_sh w') (h2 : w_I w = w_I w') (h3 : w_J w = w_J w') (h4 : w_R w = w_R w') (h5 : w_n w = w_n w') : w = w' := by
  obtain ⟨a, b, c, d, e⟩ := w
  obtain ⟨a', b', c', d', e'⟩ := w'
  simp only [w_sh, w_I, w_J, w_R, w_n] at h1 h2 h3 h4 h5
  subst h1; subst h2; subst h3; subst h4; subst h5; rfl
theorem rs_wA (r : Nat) (w : mW) (A : Row) (F : Nat → Int32) (i : Nat) (v : Int) : s_I (rs r w A F) (r + 1) i (Int32.ofInt v) = rs r w (up A i v) F := by
  refine mW_ext rfl ?_ rfl rfl rfl
  funext a j
  rw [I_I]
  by_cases h : a = r + 1
  · subst h
    rw [rs_A, rs_A]
    show _ = Int32.ofInt (up A i v j)
    by_cases h2 : j = i
    · rw [if_pos ⟨rfl, h2⟩, up_eq, if_pos h2]
    · rw [if_neg (fun q => h2 q.2), up_eq, if_neg h2]
  · rw [if_neg (fun q => h q.1)]
    by_cases h2 : a = r
    · subst h2; rw [rs_F, rs_F]
    · rw [rs_o h2 h, rs_o h2 h]
theorem rs_wF (r : Nat) (w : mW) (A : Row) (F : Nat → Int32) (i : Nat) (x : Int32) : s_I (rs r w A F) r i x = rs r w A (upd F i x) := by
  refine mW_ext rfl ?_ rfl rfl rfl
  funext a j
  rw [I_I]
  by_cases h : a = r
  · subst h
    rw [rs_F, rs_F, fu_e]
    by_cases h2 : j = i
    · rw [if_pos ⟨rfl, h2⟩, if_pos h2]
    · rw [if_neg (fun q => h2 q.2), if_neg h2]
  · rw [if_neg (fun q => h q.1)]
    by_cases h2 : a = r + 1
    · subst h2; rw [rs_A, rs_A]
    · rw [rs_o h h2, rs_o h h2]
theorem rs_w {r a : Nat} {w : mW} {A : Row} {F : Nat → Int32} {i : Nat} {x : Int32} (h : ¬ a = r) (h1 : ¬ a = r + 1) : s_I (rs r w A F) a i x = rs r (s_I w a i x) A F := by
  refine mW_ext rfl ?_ rfl rfl rfl
  funext b j
  rw [I_I]
  by_cases h2 : b = r
  · subst h2; rw [rs_F, rs_F, if_neg (fun q => h q.1.symm)]
  · by_cases h3 : b = r + 1
    · subst h3; rw [rs_A, rs_A, if_neg (fun q => h1 q.1.symm)]
    · rw [rs_o h2 h3, rs_o h2 h3, I_I]
theorem rs_self {r : Nat} {w : mW} {A : Row} (h : w_I w (r + 1) = fun j => Int32.ofInt (A j)) : rs r w A (w_I w r) = w := by
  refine mW_ext rfl ?_ rfl rfl rfl
  funext b j
  by_cases h2 : b = r
  · subst h2; rw [rs_F]
  · by_cases h3 : b = r + 1
    · subst h3; rw [rs_A, h]
    · rw [rs_o h2 h3]
theorem rs_eta {A : Row} {i : Nat} : (fun j => if j = i then A i else A j) = A := by funext j; split; rename_i h; rw [h]; rfl
/-! the reference: small questions -/
theorem c_isBetween {v l h : Int} {w : mW} {Q : mW → mO → Prop} (h1 : -2147483648 ≤ v ∧ v ≤ 2147483647) (h2 : -2147483648 ≤ l ∧ l ≤ 2147483647) (h3 : -2147483648 ≤ h ∧ h ≤ 2147483647) (hq : Q w (.inl (some (.int (Int32.ofInt (if l ≤ v ∧ v ≤ h then 1 else 0)))))) : CT n_X10_isBetween [.int (Int32.ofInt v), .int (Int32.ofInt l), .int (Int32.ofInt h)] w Q := by
  refine ct_X10_isBetween (rt_X10_isBetween_0 ?_)
  simp (disch := omega) only [wp_c, wp_n, jj_n, Int.reduceToNat, Int.toNat_natCast, stE, wlE, lgt, lpu, lpw, v_c2, va_s, true_and, and_true, Option.toList, List.nil_append, List.cons_append, List.take, List.drop, List.reverse, List.reverseAux, List.length_cons, List.length_nil, reduceCtorEq, false_implies, true_implies, forall_const, not_true_eq_false, not_false_eq_true, ite_true, ite_false, Bool.false_eq_true, I_I, J_J, Nat.add_left_cancel_iff, Nat.reduceEqDiff, Nat.add_eq_left, Nat.left_eq_add, false_and, and_false, Nat.reduceSub, Nat.sub_self, Nat.le_refl, Nat.zero_le, ge_iff_le, Nat.reduceAdd, Nat.reduceLeDiff, Nat.zero_add, Nat.reduceLT, z_lt, z_le, z_eq, z_l0, z_g0, z_le0, z_ge0, z_e0, z_e1, z_vp, z_nc, z_rem, z_div, i_ltT, i_ltF, i_leT, i_leF, i_eqT, i_eqF, n_ltT, n_ltF, n_leT, n_leF, n_eqT, n_eqF, tn_9, tn_12, tn_14, tn_20, tn_28, tn_44, tn_52, tn_68, tn_84, tn_100, tn_116, tn_132, fu_e, up_eq, ob_0, ob_b, oi_add, oi_sub, oi_mul, oi_neg, rs_sh, rs_R, rs_N, rs_J, rs_F, rs_A, rs_o, rs_wA, rs_wF, rs_w, Int.add_zero, Int.zero_add, or_true, true_or, or_false, false_or, and_self, z_i2l, z_l2i, lo_nat, lo_add, lo_sub, lo_mul, lo_0, e_rem, mr_X10_isBetween, mh_X10_isBetween]
  repeat' (first | (with_reducible refine And.intro ?_ ?_) | (with_reducible intro _) | ((first | refine rt_X10_isBetween_14 ?_ | refine rt_X10_isBetween_15 ?_); simp (disch := omega) only [wp_c, wp_n, jj_n, Int.reduceToNat, Int.toNat_natCast, stE, wlE, lgt, lpu, lpw, v_c2, va_s, true_and, and_true, Option.toList, List.nil_append, List.cons_append, List.take, List.drop, List.reverse, List.reverseAux, List.length_cons, List.length_nil, reduceCtorEq, false_implies, true_implies, forall_const, not_true_eq_false, not_false_eq_true, ite_true, ite_false, Bool.false_eq_true, I_I, J_J, Nat.add_left_cancel_iff, Nat.reduceEqDiff, Nat.add_eq_left, Nat.left_eq_add, false_and, and_false, Nat.reduceSub, Nat.sub_self, Nat.le_refl, Nat.zero_le, ge_iff_le, Nat.reduceAdd, Nat.reduceLeDiff, Nat.zero_add, Nat.reduceLT, z_lt, z_le, z_eq, z_l0, z_g0, z_le0, z_ge0, z_e0, z_e1, z_vp, z_nc, z_rem, z_div, i_ltT, i_ltF, i_leT, i_leF, i_eqT, i_eqF, n_ltT, n_ltF, n_leT, n_leF, n_eqT, n_eqF, tn_9, tn_12, tn_14, tn_20, tn_28, tn_44, tn_52, tn_68, tn_84, tn_100, tn_116, tn_132, fu_e, up_eq, ob_0, ob_b, oi_add, oi_sub, oi_mul, oi_neg, rs_sh, rs_R, rs_N, rs_J, rs_F, rs_A, rs_o, rs_wA, rs_wF, rs_w, Int.add_zero, Int.zero_add, or_true, true_or, or_false, false_or, and_self, z_i2l, z_l2i, lo_nat, lo_add, lo_sub, lo_mul, lo_0, e_rem, mr_X10_isBetween, mh_X10_isBetween]))
  all_goals first | (rw [if_pos (by omega)] at hq; exact hq) | (rw [if_neg (by omega)] at hq; exact hq)
theorem c_isJammed {r : Nat} {w : mW} {A : Row} {F : Nat → Int32} {Q : mW → mO → Prop} (hR : Rb w r) (h5 : 0 ≤ A 5 ∧ A 5 ≤ 1000) (hq : Q (rs r w A F) (.inl (some (.int (Int32.ofInt (if 0 < A 5 then 1 else 0)))))) : CT n_X10_isJammed [.ref r] (rs r w A F) Q := by
  obtain ⟨sh, rf⟩ := hR
  refine ct_X10_isJammed (rt_X10_isJammed_0 ?_)
  simp (disch := omega) only [wp_c, wp_n, jj_n, Int.reduceToNat, Int.toNat_natCast, stE, wlE, lgt, lpu, lpw, v_c2, va_s, true_and, and_true, Option.toList, List.nil_append, List.cons_append, List.take, List.drop, List.reverse, List.reverseAux, List.length_cons, List.length_nil, reduceCtorEq, false_implies, true_implies, forall_const, not_true_eq_false, not_false_eq_true, ite_true, ite_false, Bool.false_eq_true, I_I, J_J, Nat.add_left_cancel_iff, Nat.reduceEqDiff, Nat.add_eq_left, Nat.left_eq_add, false_and, and_false, Nat.reduceSub, Nat.sub_self, Nat.le_refl, Nat.zero_le, ge_iff_le, Nat.reduceAdd, Nat.reduceLeDiff, Nat.zero_add, Nat.reduceLT, z_lt, z_le, z_eq, z_l0, z_g0, z_le0, z_ge0, z_e0, z_e1, z_vp, z_nc, z_rem, z_div, i_ltT, i_ltF, i_leT, i_leF, i_eqT, i_eqF, n_ltT, n_ltF, n_leT, n_leF, n_eqT, n_eqF, tn_9, tn_12, tn_14, tn_20, tn_28, tn_44, tn_52, tn_68, tn_84, tn_100, tn_116, tn_132, fu_e, up_eq, ob_0, ob_b, oi_add, oi_sub, oi_mul, oi_neg, rs_sh, rs_R, rs_N, rs_J, rs_F, rs_A, rs_o, rs_wA, rs_wF, rs_w, Int.add_zero, Int.zero_add, or_true, true_or, or_false, false_or, and_self, z_i2l, z_l2i, lo_nat, lo_add, lo_sub, lo_mul, lo_0, e_rem, mr_X10_isJammed, mh_X10_isJammed, sh, rf]
  repeat' (first | (with_reducible refine And.intro ?_ ?_) | (with_reducible intro _) | ((first | refine rt_X10_isJammed_13 ?_ | refine rt_X10_isJammed_14 ?_); simp (disch := omega) only [wp_c, wp_n, jj_n, Int.reduceToNat, Int.toNat_natCast, stE, wlE, lgt, lpu, lpw, v_c2, va_s, true_and, and_true, Option.toList, List.nil_append, List.cons_append, List.take, List.drop, List.reverse, List.reverseAux, List.length_cons, List.length_nil, reduceCtorEq, false_implies, true_implies, forall_const, not_true_eq_false, not_false_eq_true, ite_true, ite_false, Bool.false_eq_true, I_I, J_J, Nat.add_left_cancel_iff, Nat.reduceEqDiff, Nat.add_eq_left, Nat.left_eq_add, false_and, and_false, Nat.reduceSub, Nat.sub_self, Nat.le_refl, Nat.zero_le, ge_iff_le, Nat.reduceAdd, Nat.reduceLeDiff, Nat.zero_add, Nat.reduceLT, z_lt, z_le, z_eq, z_l0, z_g0, z_le0, z_ge0, z_e0, z_e1, z_vp, z_nc, z_rem, z_div, i_ltT, i_ltF, i_leT, i_leF, i_eqT, i_eqF, n_ltT, n_ltF, n_leT, n_leF, n_eqT, n_eqF, tn_9, tn_12, tn_14, tn_20, tn_28, tn_44, tn_52, tn_68, tn_84, tn_100, tn_116, tn_132, fu_e, up_eq, ob_0, ob_b, oi_add, oi_sub, oi_mul, oi_neg, rs_sh, rs_R, rs_N, rs_J, rs_F, rs_A, rs_o, rs_wA, rs_wF, rs_w, Int.add_zero, Int.zero_add, or_true, true_or, or_false, false_or, and_self, z_i2l, z_l2i, lo_nat, lo_add, lo_sub, lo_mul, lo_0, e_rem, mr_X10_isJammed, mh_X10_isJammed, sh, rf]))
  all_goals first | (rw [if_pos (by omega)] at hq; exact hq) | (rw [if_neg (by omega)] at hq; exact hq)
theorem c_top {r : Nat} {w : mW} {A : Row} {F : Nat → Int32} {Q : mW → mO → Prop} (hR : Rb w r) (hq : Q (rs r w A F) (.inl (some (.int (Int32.ofInt (A 1 - A 0)))))) : CT n_X10_top [.ref r] (rs r w A F) Q := by
  obtain ⟨sh, rf⟩ := hR
  refine ct_X10_top (rt_X10_top_0 ?_)
  simp (disch := omega) only [wp_c, wp_n, jj_n, Int.reduceToNat, Int.toNat_natCast, stE, wlE, lgt, lpu, lpw, v_c2, va_s, true_and, and_true, Option.toList, List.nil_append, List.cons_append, List.take, List.drop, List.reverse, List.reverseAux, List.length_cons, List.length_nil, reduceCtorEq, false_implies, true_implies, forall_const, not_true_eq_false, not_false_eq_true, ite_true, ite_false, Bool.false_eq_true, I_I, J_J, Nat.add_left_cancel_iff, Nat.reduceEqDiff, Nat.add_eq_left, Nat.left_eq_add, false_and, and_false, Nat.reduceSub, Nat.sub_self, Nat.le_refl, Nat.zero_le, ge_iff_le, Nat.reduceAdd, Nat.reduceLeDiff, Nat.zero_add, Nat.reduceLT, z_lt, z_le, z_eq, z_l0, z_g0, z_le0, z_ge0, z_e0, z_e1, z_vp, z_nc, z_rem, z_div, i_ltT, i_ltF, i_leT, i_leF, i_eqT, i_eqF, n_ltT, n_ltF, n_leT, n_leF, n_eqT, n_eqF, tn_9, tn_12, tn_14, tn_20, tn_28, tn_44, tn_52, tn_68, tn_84, tn_100, tn_116, tn_132, fu_e, up_eq, ob_0, ob_b, oi_add, oi_sub, oi_mul, oi_neg, rs_sh, rs_R, rs_N, rs_J, rs_F, rs_A, rs_o, rs_wA, rs_wF, rs_w, Int.add_zero, Int.zero_add, or_true, true_or, or_false, false_or, and_self, z_i2l, z_l2i, lo_nat, lo_add, lo_sub, lo_mul, lo_0, e_rem, mr_X10_top, mh_X10_top, sh, rf]
  exact hq
theorem b_and2 {v : Int} (h : 0 ≤ v) (h' : v ≤ 3) : Int32.ofInt v &&& Int32.ofInt 2 = Int32.ofInt (if v < 2 then 0 else 2) := by
  have h4 : v = 0 ∨ v = 1 ∨ v = 2 ∨ v = 3 := by omega
  rcases h4 with h | h | h | h <;> rw [h] <;> decide
theorem b_and1 {v : Int} (h : 0 ≤ v) (h' : v ≤ 3) : Int32.ofInt v &&& Int32.ofInt 1 = Int32.ofInt (v % 2) := by
  have h4 : v = 0 ∨ v = 1 ∨ v = 2 ∨ v = 3 := by omega
  rcases h4 with h | h | h | h <;> rw [h] <;> decide
theorem c_isStuck {r j : Nat} {v : Int} {w : mW} {A : Row} {F : Nat → Int32} {Q : mW → mO → Prop} (hR : Rb w r) (hv : v = (j : Int)) (hj : j < 16) (hs : 0 ≤ A (68 + j) ∧ A (68 + j) ≤ 3) (hq : Q (rs r w A F) (.inl (some (.int (Int32.ofInt (if 2 ≤ A (68 + j) then 1 else 0)))))) : CT n_X10_isStuck [.ref r, .int (Int32.ofInt v)] (rs r w A F) Q := by
  subst hv
  obtain ⟨sh, rf⟩ := hR
  obtain ⟨hs1, hs2⟩ := hs
  have hb : -5 ≤ (if A (68 + j) < 2 then (0 : Int) else 2) ∧ (if A (68 + j) < 2 then (0 : Int) else 2) ≤ 5 := by split <;> omega
  refine ct_X10_isStuck (rt_X10_isStuck_0 ?_)
  simp (disch := omega) only [wp_c, wp_n, jj_n, Int.reduceToNat, Int.toNat_natCast, stE, wlE, lgt, lpu, lpw, v_c2, va_s, true_and, and_true, Option.toList, List.nil_append, List.cons_append, List.take, List.drop, List.reverse, List.reverseAux, List.length_cons, List.length_nil, reduceCtorEq, false_implies, true_implies, forall_const, not_true_eq_false, not_false_eq_true, ite_true, ite_false, Bool.false_eq_true, I_I, J_J, Nat.add_left_cancel_iff, Nat.reduceEqDiff, Nat.add_eq_left, Nat.left_eq_add, false_and, and_false, Nat.reduceSub, Nat.sub_self, Nat.le_refl, Nat.zero_le, ge_iff_le, Nat.reduceAdd, Nat.reduceLeDiff, Nat.zero_add, Nat.reduceLT, z_lt, z_le, z_eq, z_l0, z_g0, z_le0, z_ge0, z_e0, z_e1, z_vp, z_nc, z_rem, z_div, i_ltT, i_ltF, i_leT, i_leF, i_eqT, i_eqF, n_ltT, n_ltF, n_leT, n_leF, n_eqT, n_eqF, tn_9, tn_12, tn_14, tn_20, tn_28, tn_44, tn_52, tn_68, tn_84, tn_100, tn_116, tn_132, fu_e, up_eq, ob_0, ob_b, oi_add, oi_sub, oi_mul, oi_neg, rs_sh, rs_R, rs_N, rs_J, rs_F, rs_A, rs_o, rs_wA, rs_wF, rs_w, Int.add_zero, Int.zero_add, or_true, true_or, or_false, false_or, and_self, z_i2l, z_l2i, lo_nat, lo_add, lo_sub, lo_mul, lo_0, e_rem, mr_X10_isStuck, mh_X10_isStuck, sh, rf, b_and2 hs1 hs2]
  repeat' (first | (with_reducible refine And.intro ?_ ?_) | (with_reducible intro _) | ((first | refine rt_X10_isStuck_18 ?_ | refine rt_X10_isStuck_19 ?_); simp (disch := omega) only [wp_c, wp_n, jj_n, Int.reduceToNat, Int.toNat_natCast, stE, wlE, lgt, lpu, lpw, v_c2, va_s, true_and, and_true, Option.toList, List.nil_append, List.cons_append, List.take, List.drop, List.reverse, List.reverseAux, List.length_cons, List.length_nil, reduceCtorEq, false_implies, true_implies, forall_const, not_true_eq_false, not_false_eq_true, ite_true, ite_false, Bool.false_eq_true, I_I, J_J, Nat.add_left_cancel_iff, Nat.reduceEqDiff, Nat.add_eq_left, Nat.left_eq_add, false_and, and_false, Nat.reduceSub, Nat.sub_self, Nat.le_refl, Nat.zero_le, ge_iff_le, Nat.reduceAdd, Nat.reduceLeDiff, Nat.zero_add, Nat.reduceLT, z_lt, z_le, z_eq, z_l0, z_g0, z_le0, z_ge0, z_e0, z_e1, z_vp, z_nc, z_rem, z_div, i_ltT, i_ltF, i_leT, i_leF, i_eqT, i_eqF, n_ltT, n_ltF, n_leT, n_leF, n_eqT, n_eqF, tn_9, tn_12, tn_14, tn_20, tn_28, tn_44, tn_52, tn_68, tn_84, tn_100, tn_116, tn_132, fu_e, up_eq, ob_0, ob_b, oi_add, oi_sub, oi_mul, oi_neg, rs_sh, rs_R, rs_N, rs_J, rs_F, rs_A, rs_o, rs_wA, rs_wF, rs_w, Int.add_zero, Int.zero_add, or_true, true_or, or_false, false_or, and_self, z_i2l, z_l2i, lo_nat, lo_add, lo_sub, lo_mul, lo_0, e_rem, mr_X10_isStuck, mh_X10_isStuck, sh, rf]))
  all_goals first | (rw [if_pos (by omega)] at hq; exact hq) | (rw [if_neg (by omega)] at hq; exact hq)
theorem c_slips {r j : Nat} {v : Int} {w : mW} {A : Row} {F : Nat → Int32} {Q : mW → mO → Prop} (hR : Rb w r) (hv : v = (j : Int)) (hj : j < 16) (hs : 0 ≤ A (68 + j) ∧ A (68 + j) ≤ 3) (hq : Q (rs r w A F) (.inl (some (.int (Int32.ofInt (if A (68 + j) % 2 = 1 then 1 else 0)))))) : CT n_X10_slips [.ref r, .int (Int32.ofInt v)] (rs r w A F) Q := by
  subst hv
  obtain ⟨sh, rf⟩ := hR
  obtain ⟨hs1, hs2⟩ := hs
  refine ct_X10_slips (rt_X10_slips_0 ?_)
  simp (disch := omega) only [wp_c, wp_n, jj_n, Int.reduceToNat, Int.toNat_natCast, stE, wlE, lgt, lpu, lpw, v_c2, va_s, true_and, and_true, Option.toList, List.nil_append, List.cons_append, List.take, List.drop, List.reverse, List.reverseAux, List.length_cons, List.length_nil, reduceCtorEq, false_implies, true_implies, forall_const, not_true_eq_false, not_false_eq_true, ite_true, ite_false, Bool.false_eq_true, I_I, J_J, Nat.add_left_cancel_iff, Nat.reduceEqDiff, Nat.add_eq_left, Nat.left_eq_add, false_and, and_false, Nat.reduceSub, Nat.sub_self, Nat.le_refl, Nat.zero_le, ge_iff_le, Nat.reduceAdd, Nat.reduceLeDiff, Nat.zero_add, Nat.reduceLT, z_lt, z_le, z_eq, z_l0, z_g0, z_le0, z_ge0, z_e0, z_e1, z_vp, z_nc, z_rem, z_div, i_ltT, i_ltF, i_leT, i_leF, i_eqT, i_eqF, n_ltT, n_ltF, n_leT, n_leF, n_eqT, n_eqF, tn_9, tn_12, tn_14, tn_20, tn_28, tn_44, tn_52, tn_68, tn_84, tn_100, tn_116, tn_132, fu_e, up_eq, ob_0, ob_b, oi_add, oi_sub, oi_mul, oi_neg, rs_sh, rs_R, rs_N, rs_J, rs_F, rs_A, rs_o, rs_wA, rs_wF, rs_w, Int.add_zero, Int.zero_add, or_true, true_or, or_false, false_or, and_self, z_i2l, z_l2i, lo_nat, lo_add, lo_sub, lo_mul, lo_0, e_rem, mr_X10_slips, mh_X10_slips, sh, rf, b_and1 hs1 hs2]
  repeat' (first | (with_reducible refine And.intro ?_ ?_) | (with_reducible intro _) | ((first | refine rt_X10_slips_18 ?_ | refine rt_X10_slips_19 ?_); simp (disch := omega) only [wp_c, wp_n, jj_n, Int.reduceToNat, Int.toNat_natCast, stE, wlE, lgt, lpu, lpw, v_c2, va_s, true_and, and_true, Option.toList, List.nil_append, List.cons_append, List.take, List.drop, List.reverse, List.reverseAux, List.length_cons, List.length_nil, reduceCtorEq, false_implies, true_implies, forall_const, not_true_eq_false, not_false_eq_true, ite_true, ite_false, Bool.false_eq_true, I_I, J_J, Nat.add_left_cancel_iff, Nat.reduceEqDiff, Nat.add_eq_left, Nat.left_eq_add, false_and, and_false, Nat.reduceSub, Nat.sub_self, Nat.le_refl, Nat.zero_le, ge_iff_le, Nat.reduceAdd, Nat.reduceLeDiff, Nat.zero_add, Nat.reduceLT, z_lt, z_le, z_eq, z_l0, z_g0, z_le0, z_ge0, z_e0, z_e1, z_vp, z_nc, z_rem, z_div, i_ltT, i_ltF, i_leT, i_leF, i_eqT, i_eqF, n_ltT, n_ltF, n_leT, n_leF, n_eqT, n_eqF, tn_9, tn_12, tn_14, tn_20, tn_28, tn_44, tn_52, tn_68, tn_84, tn_100, tn_116, tn_132, fu_e, up_eq, ob_0, ob_b, oi_add, oi_sub, oi_mul, oi_neg, rs_sh, rs_R, rs_N, rs_J, rs_F, rs_A, rs_o, rs_wA, rs_wF, rs_w, Int.add_zero, Int.zero_add, or_true, true_or, or_false, false_or, and_self, z_i2l, z_l2i, lo_nat, lo_add, lo_sub, lo_mul, lo_0, e_rem, mr_X10_slips, mh_X10_slips, sh, rf]))
  all_goals first | (rw [if_pos (by omega)] at hq; exact hq) | (rw [if_neg (by omega)] at hq; exact hq)
theorem c_isBeyond {r : Nat} {v : Int} {w : mW} {A : Row} {F : Nat → Int32} {Q : mW → mO → Prop} (hR : Rb w r) (hv : 0 ≤ v ∧ v ≤ 100) (hs : 0 ≤ A 4 ∧ A 4 ≤ 100 ∧ 0 ≤ A 0 ∧ A 0 ≤ 100 ∧ 0 ≤ A 3 ∧ A 3 ≤ 100) (hq : Q (rs r w A F) (.inl (some (.int (Int32.ofInt (if A 4 + A 0 - 1 + A 3 < v + 1 then 1 else 0)))))) : CT n_X10_isBeyond [.ref r, .int (Int32.ofInt v)] (rs r w A F) Q := by
  obtain ⟨sh, rf⟩ := hR
  refine ct_X10_isBeyond (rt_X10_isBeyond_0 ?_)
  simp (disch := omega) only [wp_c, wp_n, jj_n, Int.reduceToNat, Int.toNat_natCast, stE, wlE, lgt, lpu, lpw, v_c2, va_s, true_and, and_true, Option.toList, List.nil_append, List.cons_append, List.take, List.drop, List.reverse, List.reverseAux, List.length_cons, List.length_nil, reduceCtorEq, false_implies, true_implies, forall_const, not_true_eq_false, not_false_eq_true, ite_true, ite_false, Bool.false_eq_true, I_I, J_J, Nat.add_left_cancel_iff, Nat.reduceEqDiff, Nat.add_eq_left, Nat.left_eq_add, false_and, and_false, Nat.reduceSub, Nat.sub_self, Nat.le_refl, Nat.zero_le, ge_iff_le, Nat.reduceAdd, Nat.reduceLeDiff, Nat.zero_add, Nat.reduceLT, z_lt, z_le, z_eq, z_l0, z_g0, z_le0, z_ge0, z_e0, z_e1, z_vp, z_nc, z_rem, z_div, i_ltT, i_ltF, i_leT, i_leF, i_eqT, i_eqF, n_ltT, n_ltF, n_leT, n_leF, n_eqT, n_eqF, tn_9, tn_12, tn_14, tn_20, tn_28, tn_44, tn_52, tn_68, tn_84, tn_100, tn_116, tn_132, fu_e, up_eq, ob_0, ob_b, oi_add, oi_sub, oi_mul, oi_neg, rs_sh, rs_R, rs_N, rs_J, rs_F, rs_A, rs_o, rs_wA, rs_wF, rs_w, Int.add_zero, Int.zero_add, or_true, true_or, or_false, false_or, and_self, z_i2l, z_l2i, lo_nat, lo_add, lo_sub, lo_mul, lo_0, e_rem, mr_X10_isBeyond, mh_X10_isBeyond, sh, rf]
  repeat' (first | (with_reducible refine And.intro ?_ ?_) | (with_reducible intro _) | ((first | refine rt_X10_isBeyond_32 ?_ | refine rt_X10_isBeyond_33 ?_); simp (disch := omega) only [wp_c, wp_n, jj_n, Int.reduceToNat, Int.toNat_natCast, stE, wlE, lgt, lpu, lpw, v_c2, va_s, true_and, and_true, Option.toList, List.nil_append, List.cons_append, List.take, List.drop, List.reverse, List.reverseAux, List.length_cons, List.length_nil, reduceCtorEq, false_implies, true_implies, forall_const, not_true_eq_false, not_false_eq_true, ite_true, ite_false, Bool.false_eq_true, I_I, J_J, Nat.add_left_cancel_iff, Nat.reduceEqDiff, Nat.add_eq_left, Nat.left_eq_add, false_and, and_false, Nat.reduceSub, Nat.sub_self, Nat.le_refl, Nat.zero_le, ge_iff_le, Nat.reduceAdd, Nat.reduceLeDiff, Nat.zero_add, Nat.reduceLT, z_lt, z_le, z_eq, z_l0, z_g0, z_le0, z_ge0, z_e0, z_e1, z_vp, z_nc, z_rem, z_div, i_ltT, i_ltF, i_leT, i_leF, i_eqT, i_eqF, n_ltT, n_ltF, n_leT, n_leF, n_eqT, n_eqF, tn_9, tn_12, tn_14, tn_20, tn_28, tn_44, tn_52, tn_68, tn_84, tn_100, tn_116, tn_132, fu_e, up_eq, ob_0, ob_b, oi_add, oi_sub, oi_mul, oi_neg, rs_sh, rs_R, rs_N, rs_J, rs_F, rs_A, rs_o, rs_wA, rs_wF, rs_w, Int.add_zero, Int.zero_add, or_true, true_or, or_false, false_or, and_self, z_i2l, z_l2i, lo_nat, lo_add, lo_sub, lo_mul, lo_0, e_rem, mr_X10_isBeyond, mh_X10_isBeyond, sh, rf]))
  all_goals first | (rw [if_pos (by omega)] at hq; exact hq) | (rw [if_neg (by omega)] at hq; exact hq)
theorem c_tallies {r k : Nat} {v : Int} {w : mW} {A : Row} {F : Nat → Int32} {Q : mW → mO → Prop} (hR : Rb w r) (hv : v = (k : Int)) (hk : k < 3) (hq : Q (rs r w (a_tal A k) F) (.inl none)) : CT n_X10_tallies [.ref r, .int (Int32.ofInt v)] (rs r w A F) Q := by
  subst hv
  obtain ⟨sh, rf⟩ := hR
  refine ct_X10_tallies (rt_X10_tallies_0 ?_)
  simp (disch := omega) only [wp_c, wp_n, jj_n, Int.reduceToNat, Int.toNat_natCast, stE, wlE, lgt, lpu, lpw, v_c2, va_s, true_and, and_true, Option.toList, List.nil_append, List.cons_append, List.take, List.drop, List.reverse, List.reverseAux, List.length_cons, List.length_nil, reduceCtorEq, false_implies, true_implies, forall_const, not_true_eq_false, not_false_eq_true, ite_true, ite_false, Bool.false_eq_true, I_I, J_J, Nat.add_left_cancel_iff, Nat.reduceEqDiff, Nat.add_eq_left, Nat.left_eq_add, false_and, and_false, Nat.reduceSub, Nat.sub_self, Nat.le_refl, Nat.zero_le, ge_iff_le, Nat.reduceAdd, Nat.reduceLeDiff, Nat.zero_add, Nat.reduceLT, z_lt, z_le, z_eq, z_l0, z_g0, z_le0, z_ge0, z_e0, z_e1, z_vp, z_nc, z_rem, z_div, i_ltT, i_ltF, i_leT, i_leF, i_eqT, i_eqF, n_ltT, n_ltF, n_leT, n_leF, n_eqT, n_eqF, tn_9, tn_12, tn_14, tn_20, tn_28, tn_44, tn_52, tn_68, tn_84, tn_100, tn_116, tn_132, fu_e, up_eq, ob_0, ob_b, oi_add, oi_sub, oi_mul, oi_neg, rs_sh, rs_R, rs_N, rs_J, rs_F, rs_A, rs_o, rs_wA, rs_wF, rs_w, Int.add_zero, Int.zero_add, or_true, true_or, or_false, false_or, and_self, z_i2l, z_l2i, lo_nat, lo_add, lo_sub, lo_mul, lo_0, e_rem, mr_X10_tallies, mh_X10_tallies, sh, rf]
  have e : a_tal A k = up (up A (9 + k) (A (9 + k) + 1)) (14 + k) (A (14 + k) + 1) := by
    have : up A (9 + k) (A (9 + k) + 1) (14 + k) = A (14 + k) := by rw [up_eq, if_neg (by omega)]
    simp only [a_tal, this]
  rw [← e]; exact hq
theorem c_jams {r : Nat} {p q : Int} {w : mW} {A : Row} {F : Nat → Int32} {Q : mW → mO → Prop} (hR : Rb w r) (hq : Q (rs r w (up (up (up A 5 p) 6 q) 17 (A 17 + 1)) F) (.inl none)) : CT n_X10_jams [.ref r, .int (Int32.ofInt p), .int (Int32.ofInt q)] (rs r w A F) Q := by
  obtain ⟨sh, rf⟩ := hR
  refine ct_X10_jams (rt_X10_jams_0 ?_)
  simp (disch := omega) only [wp_c, wp_n, jj_n, Int.reduceToNat, Int.toNat_natCast, stE, wlE, lgt, lpu, lpw, v_c2, va_s, true_and, and_true, Option.toList, List.nil_append, List.cons_append, List.take, List.drop, List.reverse, List.reverseAux, List.length_cons, List.length_nil, reduceCtorEq, false_implies, true_implies, forall_const, not_true_eq_false, not_false_eq_true, ite_true, ite_false, Bool.false_eq_true, I_I, J_J, Nat.add_left_cancel_iff, Nat.reduceEqDiff, Nat.add_eq_left, Nat.left_eq_add, false_and, and_false, Nat.reduceSub, Nat.sub_self, Nat.le_refl, Nat.zero_le, ge_iff_le, Nat.reduceAdd, Nat.reduceLeDiff, Nat.zero_add, Nat.reduceLT, z_lt, z_le, z_eq, z_l0, z_g0, z_le0, z_ge0, z_e0, z_e1, z_vp, z_nc, z_rem, z_div, i_ltT, i_ltF, i_leT, i_leF, i_eqT, i_eqF, n_ltT, n_ltF, n_leT, n_leF, n_eqT, n_eqF, tn_9, tn_12, tn_14, tn_20, tn_28, tn_44, tn_52, tn_68, tn_84, tn_100, tn_116, tn_132, fu_e, up_eq, ob_0, ob_b, oi_add, oi_sub, oi_mul, oi_neg, rs_sh, rs_R, rs_N, rs_J, rs_F, rs_A, rs_o, rs_wA, rs_wF, rs_w, Int.add_zero, Int.zero_add, or_true, true_or, or_false, false_or, and_self, z_i2l, z_l2i, lo_nat, lo_add, lo_sub, lo_mul, lo_0, e_rem, mr_X10_jams, mh_X10_jams, sh, rf]
  exact hq
/-! the reference: a wheel moves step by step -/
def a_mk (A : Row) (j : Nat) (k : Int) : Row :=
  let v := A (28 + j) + A 7 * k
  up (if v < 0 ∨ 9 < v then up A (52 + j) 1 else A) (28 + j) ((v + 10) % 10)
theorem mk_0 {A : Row} {j : Nat} (h : 0 ≤ A (28 + j) ∧ A (28 + j) ≤ 9) : a_mk A j 0 = A := by
  simp only [a_mk, Int.mul_zero, Int.add_zero]
  rw [if_neg (by omega)]
  exact up_self (by omega)
theorem mk_mv (A : Row) (j : Nat) (m : Int) : up (up (a_mk A j m) (84 + j) (a_mk A j m (84 + j) + m)) (100 + j) (a_mk A j m (100 + j) + m) = a_mv A j m := by
  have e : up (a_mk A j m) (84 + j) (a_mk A j m (84 + j) + m) (100 + j) = a_mk A j m (100 + j) := by rw [up_eq, if_neg (by omega)]
  show _ = up (up (a_mk A j m) (84 + j) (a_mk A j m (84 + j) + m)) (100 + j) (up (a_mk A j m) (84 + j) (a_mk A j m (84 + j) + m) (100 + j) + m)
  rw [e]
theorem mk_s {A : Row} {j : Nat} {k : Int} (h7 : A 7 = 1 ∨ A 7 = -1) (h : 0 ≤ A (28 + j) ∧ A (28 + j) ≤ 9) (hk : 0 ≤ k ∧ k ≤ 8) :
    a_mk A j (k + 1) = if a_mk A j k (28 + j) + A 7 < 0 ∨ 9 < a_mk A j k (28 + j) + A 7 then up (up (a_mk A j k) (52 + j) 1) (28 + j) (if a_mk A j k (28 + j) + A 7 < 0 then 9 else 0) else up (a_mk A j k) (28 + j) (a_mk A j k (28 + j) + A 7) := by
  have e1 : a_mk A j k (28 + j) = (A (28 + j) + A 7 * k + 10) % 10 := by simp only [a_mk, up_eq]; rw [if_pos trivial]
  rw [e1]
  have hv : A (28 + j) + A 7 * (k + 1) = A (28 + j) + A 7 * k + A 7 := by rw [Int.mul_add, Int.mul_one]; omega
  have hb : -9 ≤ A (28 + j) + A 7 * k ∧ A (28 + j) + A 7 * k ≤ 18 ∧ (A 7 = 1 → A (28 + j) + A 7 * k ≥ 0) ∧ (A 7 = -1 → A (28 + j) + A 7 * k ≤ 9) := by rcases h7 with q | q <;> rw [q] <;> omega
  simp only [a_mk, hv]
  generalize A (28 + j) + A 7 * k = v at hb
  have hfl : ∀ (B : Row) (x y z : Int), up (up (up (up B (52 + j) x) (28 + j) y) (52 + j) x) (28 + j) z = up (up B (52 + j) x) (28 + j) z := by
    intro B x y z; funext i; simp only [up_eq]
    by_cases h1 : i = 28 + j
    · rw [if_pos h1, if_pos h1]
    · rw [if_neg h1, if_neg h1, if_neg h1]; split <;> rfl
  have hfl2 : ∀ (B : Row) (y z : Int), up (up B (28 + j) y) (28 + j) z = up B (28 + j) z := by
    intro B y z; funext i; simp only [up_eq]; split <;> rfl
  have hfl3 : ∀ (B : Row) (x y z : Int), up (up (up B (28 + j) y) (52 + j) x) (28 + j) z = up (up B (52 + j) x) (28 + j) z := by
    intro B x y z; funext i; simp only [up_eq]
    by_cases h1 : i = 28 + j
    · rw [if_pos h1, if_pos h1]
    · rw [if_neg h1, if_neg h1, if_neg h1]
  by_cases p : v < 0 ∨ 9 < v
  · by_cases q : (v + 10) % 10 + A 7 < 0 ∨ 9 < (v + 10) % 10 + A 7
    · rw [if_pos p, if_pos q, if_pos (by omega), hfl]
      congr 1; split <;> omega
    · rw [if_pos p, if_neg q, if_pos (by omega), hfl2]
      congr 1; omega
  · by_cases q : (v + 10) % 10 + A 7 < 0 ∨ 9 < (v + 10) % 10 + A 7
    · rw [if_neg p, if_pos q, if_pos (by omega), hfl3]
      congr 1; split <;> omega
    · rw [if_neg p, if_neg q, if_neg (by omega), hfl2]
      congr 1; omega
theorem mk_o (A : Row) (j : Nat) (k : Int) (i : Nat) (h1 : i ≠ 28 + j) (h2 : i ≠ 52 + j) : a_mk A j k i = A i := by
  simp only [a_mk]
  rw [up_eq, if_neg h1]
  split
  · rw [up_eq, if_neg h2]
  · rfl
theorem c_mvs_2 {r j : Nat} {m : Nat} {w : mW} {A : Row} {F : Nat → Int32} {Q : mW → mO → Prop} (hR : Rb w r) (hj : j < 16) (hm : m ≤ 9) (h7 : A 7 = 1 ∨ A 7 = -1) (h28 : 0 ≤ A (28 + j) ∧ A (28 + j) ≤ 9) (hq : Q (rs r w (a_mv A j m) F) (.inl none)) :
    ∀ (n k : Nat) (x y : Value), k + n = m → RT n_X10_moves 2 [.ref r, .int (Int32.ofInt j), .int (Int32.ofInt m), .int (Int32.ofInt k), x, y] [] (rs r w (a_mk A j k) F) (0, 0, false) Q := by
  obtain ⟨sh, rf⟩ := hR
  intro n
  induction n with
  | zero =>
    intro k x y hk
    have hkm : k = m := by omega
    subst hkm
    refine rt_X10_moves_2 ?_
    simp (disch := omega) only [wp_c, wp_n, jj_n, Int.reduceToNat, Int.toNat_natCast, stE, wlE, lgt, lpu, lpw, v_c2, va_s, true_and, and_true, Option.toList, List.nil_append, List.cons_append, List.take, List.drop, List.reverse, List.reverseAux, List.length_cons, List.length_nil, reduceCtorEq, false_implies, true_implies, forall_const, not_true_eq_false, not_false_eq_true, ite_true, ite_false, Bool.false_eq_true, I_I, J_J, Nat.add_left_cancel_iff, Nat.reduceEqDiff, Nat.add_eq_left, Nat.left_eq_add, false_and, and_false, Nat.reduceSub, Nat.sub_self, Nat.le_refl, Nat.zero_le, ge_iff_le, Nat.reduceAdd, Nat.reduceLeDiff, Nat.zero_add, Nat.reduceLT, z_lt, z_le, z_eq, z_l0, z_g0, z_le0, z_ge0, z_e0, z_e1, z_vp, z_nc, z_rem, z_div, i_ltT, i_ltF, i_leT, i_leF, i_eqT, i_eqF, n_ltT, n_ltF, n_leT, n_leF, n_eqT, n_eqF, tn_9, tn_12, tn_14, tn_20, tn_28, tn_44, tn_52, tn_68, tn_84, tn_100, tn_116, tn_132, fu_e, up_eq, ob_0, ob_b, oi_add, oi_sub, oi_mul, oi_neg, rs_sh, rs_R, rs_N, rs_J, rs_F, rs_A, rs_o, rs_wA, rs_wF, rs_w, Int.add_zero, Int.zero_add, or_true, true_or, or_false, false_or, and_self, z_i2l, z_l2i, lo_nat, lo_add, lo_sub, lo_mul, lo_0, e_rem, mr_X10_moves, mh_X10_moves, sh, rf]
    refine rt_X10_moves_82 ?_
    simp (disch := omega) only [wp_c, wp_n, jj_n, Int.reduceToNat, Int.toNat_natCast, stE, wlE, lgt, lpu, lpw, v_c2, va_s, true_and, and_true, Option.toList, List.nil_append, List.cons_append, List.take, List.drop, List.reverse, List.reverseAux, List.length_cons, List.length_nil, reduceCtorEq, false_implies, true_implies, forall_const, not_true_eq_false, not_false_eq_true, ite_true, ite_false, Bool.false_eq_true, I_I, J_J, Nat.add_left_cancel_iff, Nat.reduceEqDiff, Nat.add_eq_left, Nat.left_eq_add, false_and, and_false, Nat.reduceSub, Nat.sub_self, Nat.le_refl, Nat.zero_le, ge_iff_le, Nat.reduceAdd, Nat.reduceLeDiff, Nat.zero_add, Nat.reduceLT, z_lt, z_le, z_eq, z_l0, z_g0, z_le0, z_ge0, z_e0, z_e1, z_vp, z_nc, z_rem, z_div, i_ltT, i_ltF, i_leT, i_leF, i_eqT, i_eqF, n_ltT, n_ltF, n_leT, n_leF, n_eqT, n_eqF, tn_9, tn_12, tn_14, tn_20, tn_28, tn_44, tn_52, tn_68, tn_84, tn_100, tn_116, tn_132, fu_e, up_eq, ob_0, ob_b, oi_add, oi_sub, oi_mul, oi_neg, rs_sh, rs_R, rs_N, rs_J, rs_F, rs_A, rs_o, rs_wA, rs_wF, rs_w, Int.add_zero, Int.zero_add, or_true, true_or, or_false, false_or, and_self, z_i2l, z_l2i, lo_nat, lo_add, lo_sub, lo_mul, lo_0, e_rem, mr_X10_moves, mh_X10_moves, sh, rf]
    rw [mk_mv]; exact hq
  | succ n ih =>
    intro k x y hk
    have ek : ((k + 1 : Nat) : Int) = (k : Int) + 1 := rfl
    have h1 : a_mk A j k 7 = A 7 := mk_o _ _ _ _ (by omega) (by omega)
    have h2 : 0 ≤ a_mk A j k (28 + j) ∧ a_mk A j k (28 + j) ≤ 9 := by simp only [a_mk, up_eq]; rw [if_pos trivial]; omega
    have hs := mk_s (k := (k : Int)) h7 h28 (by omega)
    have ih' := fun x y => ih (k + 1) x y (by omega)
    rw [ek, hs] at ih'
    refine rt_X10_moves_2 ?_
    simp (disch := omega) only [wp_c, wp_n, jj_n, Int.reduceToNat, Int.toNat_natCast, stE, wlE, lgt, lpu, lpw, v_c2, va_s, true_and, and_true, Option.toList, List.nil_append, List.cons_append, List.take, List.drop, List.reverse, List.reverseAux, List.length_cons, List.length_nil, reduceCtorEq, false_implies, true_implies, forall_const, not_true_eq_false, not_false_eq_true, ite_true, ite_false, Bool.false_eq_true, I_I, J_J, Nat.add_left_cancel_iff, Nat.reduceEqDiff, Nat.add_eq_left, Nat.left_eq_add, false_and, and_false, Nat.reduceSub, Nat.sub_self, Nat.le_refl, Nat.zero_le, ge_iff_le, Nat.reduceAdd, Nat.reduceLeDiff, Nat.zero_add, Nat.reduceLT, z_lt, z_le, z_eq, z_l0, z_g0, z_le0, z_ge0, z_e0, z_e1, z_vp, z_nc, z_rem, z_div, i_ltT, i_ltF, i_leT, i_leF, i_eqT, i_eqF, n_ltT, n_ltF, n_leT, n_leF, n_eqT, n_eqF, tn_9, tn_12, tn_14, tn_20, tn_28, tn_44, tn_52, tn_68, tn_84, tn_100, tn_116, tn_132, fu_e, up_eq, ob_0, ob_b, oi_add, oi_sub, oi_mul, oi_neg, rs_sh, rs_R, rs_N, rs_J, rs_F, rs_A, rs_o, rs_wA, rs_wF, rs_w, Int.add_zero, Int.zero_add, or_true, true_or, or_false, false_or, and_self, z_i2l, z_l2i, lo_nat, lo_add, lo_sub, lo_mul, lo_0, e_rem, mr_X10_moves, mh_X10_moves, sh, rf, h1]
    repeat' (first | (with_reducible refine And.intro ?_ ?_) | (with_reducible intro _) | ((first | refine rt_X10_moves_42 ?_ | refine rt_X10_moves_62 ?_ | refine rt_X10_moves_63 ?_ | refine rt_X10_moves_65 ?_ | refine rt_X10_moves_82 ?_); simp (disch := omega) only [wp_c, wp_n, jj_n, Int.reduceToNat, Int.toNat_natCast, stE, wlE, lgt, lpu, lpw, v_c2, va_s, true_and, and_true, Option.toList, List.nil_append, List.cons_append, List.take, List.drop, List.reverse, List.reverseAux, List.length_cons, List.length_nil, reduceCtorEq, false_implies, true_implies, forall_const, not_true_eq_false, not_false_eq_true, ite_true, ite_false, Bool.false_eq_true, I_I, J_J, Nat.add_left_cancel_iff, Nat.reduceEqDiff, Nat.add_eq_left, Nat.left_eq_add, false_and, and_false, Nat.reduceSub, Nat.sub_self, Nat.le_refl, Nat.zero_le, ge_iff_le, Nat.reduceAdd, Nat.reduceLeDiff, Nat.zero_add, Nat.reduceLT, z_lt, z_le, z_eq, z_l0, z_g0, z_le0, z_ge0, z_e0, z_e1, z_vp, z_nc, z_rem, z_div, i_ltT, i_ltF, i_leT, i_leF, i_eqT, i_eqF, n_ltT, n_ltF, n_leT, n_leF, n_eqT, n_eqF, tn_9, tn_12, tn_14, tn_20, tn_28, tn_44, tn_52, tn_68, tn_84, tn_100, tn_116, tn_132, fu_e, up_eq, ob_0, ob_b, oi_add, oi_sub, oi_mul, oi_neg, rs_sh, rs_R, rs_N, rs_J, rs_F, rs_A, rs_o, rs_wA, rs_wF, rs_w, Int.add_zero, Int.zero_add, or_true, true_or, or_false, false_or, and_self, z_i2l, z_l2i, lo_nat, lo_add, lo_sub, lo_mul, lo_0, e_rem, mr_X10_moves, mh_X10_moves, sh, rf, h1]))
    all_goals first | (rw [if_pos (by omega), if_pos (by omega)] at ih'; exact ih' _ _) | (rw [if_pos (by omega), if_neg (by omega)] at ih'; exact ih' _ _) | (rw [if_neg (by omega)] at ih'; exact ih' _ _)
theorem c_moves {r j : Nat} {u v : Int} {w : mW} {A : Row} {F : Nat → Int32} {Q : mW → mO → Prop} (hR : Rb w r) (hu : u = (j : Int)) (hj : j < 16) (hv : 0 ≤ v ∧ v ≤ 9) (h7 : A 7 = 1 ∨ A 7 = -1) (h28 : 0 ≤ A (28 + j) ∧ A (28 + j) ≤ 9) (hq : Q (rs r w (a_mv A j v) F) (.inl none)) : CT n_X10_moves [.ref r, .int (Int32.ofInt u), .int (Int32.ofInt v)] (rs r w A F) Q := by
  subst hu
  obtain ⟨m, hm⟩ : ∃ m : Nat, v = m := ⟨v.toNat, by omega⟩
  subst hm
  refine ct_X10_moves (rt_X10_moves_0 ?_)
  simp (disch := omega) only [wp_c, wp_n, jj_n, Int.reduceToNat, Int.toNat_natCast, stE, wlE, lgt, lpu, lpw, v_c2, va_s, true_and, and_true, Option.toList, List.nil_append, List.cons_append, List.take, List.drop, List.reverse, List.reverseAux, List.length_cons, List.length_nil, reduceCtorEq, false_implies, true_implies, forall_const, not_true_eq_false, not_false_eq_true, ite_true, ite_false, Bool.false_eq_true, I_I, J_J, Nat.add_left_cancel_iff, Nat.reduceEqDiff, Nat.add_eq_left, Nat.left_eq_add, false_and, and_false, Nat.reduceSub, Nat.sub_self, Nat.le_refl, Nat.zero_le, ge_iff_le, Nat.reduceAdd, Nat.reduceLeDiff, Nat.zero_add, Nat.reduceLT, z_lt, z_le, z_eq, z_l0, z_g0, z_le0, z_ge0, z_e0, z_e1, z_vp, z_nc, z_rem, z_div, i_ltT, i_ltF, i_leT, i_leF, i_eqT, i_eqF, n_ltT, n_ltF, n_leT, n_leF, n_eqT, n_eqF, tn_9, tn_12, tn_14, tn_20, tn_28, tn_44, tn_52, tn_68, tn_84, tn_100, tn_116, tn_132, fu_e, up_eq, ob_0, ob_b, oi_add, oi_sub, oi_mul, oi_neg, rs_sh, rs_R, rs_N, rs_J, rs_F, rs_A, rs_o, rs_wA, rs_wF, rs_w, Int.add_zero, Int.zero_add, or_true, true_or, or_false, false_or, and_self, z_i2l, z_l2i, lo_nat, lo_add, lo_sub, lo_mul, lo_0, e_rem, mr_X10_moves, mh_X10_moves]
  have := c_mvs_2 hR hj (by omega) h7 h28 hq m 0 .null .null (by omega)
  rw [show ((0 : Nat) : Int) = 0 from rfl, mk_0 h28] at this
  exact this
theorem jm_c (A : Row) (p q v : Int) : up (up (up A 5 p) 6 q) 17 v = up (up (up A 17 v) 5 p) 6 q := by
  funext i; simp only [up_eq]
  by_cases h1 : i = 17
  · subst h1; rfl
  · rw [if_neg h1]
    by_cases h2 : i = 6
    · rw [if_pos h2, if_pos h2]
    · rw [if_neg h2, if_neg h2, if_neg h1]
def RPQ (r : Nat) (w : mW) (F : Nat → Int32) (Q : mW → mO → Prop) (z : Row × Option Nat) : Prop := match z.2 with
  | none => Q (rs r w z.1 F) (.inl (some (.int (Int32.ofInt 1))))
  | some k => Q (rs r w (up (up z.1 5 1) 6 k) F) (.inl (some (.int (Int32.ofInt 0))))
theorem c_pinsMove_2 {r : Nat} {w : mW} {F : Nat → Int32} {Q : mW → mO → Prop} {x : Int32} (hR : Rb w r) : ∀ (n : Nat) (A : Row) (p : Nat) (y : Value), (p : Int) + n = A 0 → TI A → RPQ r w F Q (a_pins n A p) →
    RT n_X10_pinsMove 2 [.ref r, .int x, .int (Int32.ofInt p), y] [] (rs r w A F) (0, 0, false) Q := by
  have hR0 := hR
  obtain ⟨sh, rf⟩ := hR
  intro n
  induction n with
  | zero =>
    intro A p y hn hI hq
    have h0 := hI.1
    refine rt_X10_pinsMove_2 ?_
    simp (disch := omega) only [wp_c, wp_n, jj_n, Int.reduceToNat, Int.toNat_natCast, stE, wlE, lgt, lpu, lpw, v_c2, va_s, true_and, and_true, Option.toList, List.nil_append, List.cons_append, List.take, List.drop, List.reverse, List.reverseAux, List.length_cons, List.length_nil, reduceCtorEq, false_implies, true_implies, forall_const, not_true_eq_false, not_false_eq_true, ite_true, ite_false, Bool.false_eq_true, I_I, J_J, Nat.add_left_cancel_iff, Nat.reduceEqDiff, Nat.add_eq_left, Nat.left_eq_add, false_and, and_false, Nat.reduceSub, Nat.sub_self, Nat.le_refl, Nat.zero_le, ge_iff_le, Nat.reduceAdd, Nat.reduceLeDiff, Nat.zero_add, Nat.reduceLT, z_lt, z_le, z_eq, z_l0, z_g0, z_le0, z_ge0, z_e0, z_e1, z_vp, z_nc, z_rem, z_div, i_ltT, i_ltF, i_leT, i_leF, i_eqT, i_eqF, n_ltT, n_ltF, n_leT, n_leF, n_eqT, n_eqF, tn_9, tn_12, tn_14, tn_20, tn_28, tn_44, tn_52, tn_68, tn_84, tn_100, tn_116, tn_132, fu_e, up_eq, ob_0, ob_b, oi_add, oi_sub, oi_mul, oi_neg, rs_sh, rs_R, rs_N, rs_J, rs_F, rs_A, rs_o, rs_wA, rs_wF, rs_w, Int.add_zero, Int.zero_add, or_true, true_or, or_false, false_or, and_self, z_i2l, z_l2i, lo_nat, lo_add, lo_sub, lo_mul, lo_0, e_rem, mr_X10_pinsMove, mh_X10_pinsMove, sh, rf]
    repeat' (first | (with_reducible refine And.intro ?_ ?_) | (with_reducible intro _) | ((first | refine rt_X10_pinsMove_36 ?_ | refine rt_X10_pinsMove_52 ?_ | refine rt_X10_pinsMove_66 ?_ | refine rt_X10_pinsMove_72 ?_); simp (disch := omega) only [wp_c, wp_n, jj_n, Int.reduceToNat, Int.toNat_natCast, stE, wlE, lgt, lpu, lpw, v_c2, va_s, true_and, and_true, Option.toList, List.nil_append, List.cons_append, List.take, List.drop, List.reverse, List.reverseAux, List.length_cons, List.length_nil, reduceCtorEq, false_implies, true_implies, forall_const, not_true_eq_false, not_false_eq_true, ite_true, ite_false, Bool.false_eq_true, I_I, J_J, Nat.add_left_cancel_iff, Nat.reduceEqDiff, Nat.add_eq_left, Nat.left_eq_add, false_and, and_false, Nat.reduceSub, Nat.sub_self, Nat.le_refl, Nat.zero_le, ge_iff_le, Nat.reduceAdd, Nat.reduceLeDiff, Nat.zero_add, Nat.reduceLT, z_lt, z_le, z_eq, z_l0, z_g0, z_le0, z_ge0, z_e0, z_e1, z_vp, z_nc, z_rem, z_div, i_ltT, i_ltF, i_leT, i_leF, i_eqT, i_eqF, n_ltT, n_ltF, n_leT, n_leF, n_eqT, n_eqF, tn_9, tn_12, tn_14, tn_20, tn_28, tn_44, tn_52, tn_68, tn_84, tn_100, tn_116, tn_132, fu_e, up_eq, ob_0, ob_b, oi_add, oi_sub, oi_mul, oi_neg, rs_sh, rs_R, rs_N, rs_J, rs_F, rs_A, rs_o, rs_wA, rs_wF, rs_w, Int.add_zero, Int.zero_add, or_true, true_or, or_false, false_or, and_self, z_i2l, z_l2i, lo_nat, lo_add, lo_sub, lo_mul, lo_0, e_rem, mr_X10_pinsMove, mh_X10_pinsMove, sh, rf]))
    exact hq
  | succ n ih =>
    intro A p y hn hI hq
    have h0 := hI.1
    have h20 := hI.2.2.1 p (by omega)
    obtain ⟨q, hq4⟩ : ∃ q : Nat, A 4 = q := ⟨(A 4).toNat, by omega⟩
    have eq4 : (A 4).toNat = q := by omega
    have e4 : A 4 + (p : Int) = ((q + p : Nat) : Int) := by omega
    have h28 := hI.2.2.2.1 (q + p) (by omega)
    have h68 := hI.2.2.2.2.2.2 (q + p) (by omega)
    refine rt_X10_pinsMove_2 ?_
    simp (disch := omega) only [wp_c, wp_n, jj_n, Int.reduceToNat, Int.toNat_natCast, stE, wlE, lgt, lpu, lpw, v_c2, va_s, true_and, and_true, Option.toList, List.nil_append, List.cons_append, List.take, List.drop, List.reverse, List.reverseAux, List.length_cons, List.length_nil, reduceCtorEq, false_implies, true_implies, forall_const, not_true_eq_false, not_false_eq_true, ite_true, ite_false, Bool.false_eq_true, I_I, J_J, Nat.add_left_cancel_iff, Nat.reduceEqDiff, Nat.add_eq_left, Nat.left_eq_add, false_and, and_false, Nat.reduceSub, Nat.sub_self, Nat.le_refl, Nat.zero_le, ge_iff_le, Nat.reduceAdd, Nat.reduceLeDiff, Nat.zero_add, Nat.reduceLT, z_lt, z_le, z_eq, z_l0, z_g0, z_le0, z_ge0, z_e0, z_e1, z_vp, z_nc, z_rem, z_div, i_ltT, i_ltF, i_leT, i_leF, i_eqT, i_eqF, n_ltT, n_ltF, n_leT, n_leF, n_eqT, n_eqF, tn_9, tn_12, tn_14, tn_20, tn_28, tn_44, tn_52, tn_68, tn_84, tn_100, tn_116, tn_132, fu_e, up_eq, ob_0, ob_b, oi_add, oi_sub, oi_mul, oi_neg, rs_sh, rs_R, rs_N, rs_J, rs_F, rs_A, rs_o, rs_wA, rs_wF, rs_w, Int.add_zero, Int.zero_add, or_true, true_or, or_false, false_or, and_self, z_i2l, z_l2i, lo_nat, lo_add, lo_sub, lo_mul, lo_0, e_rem, mr_X10_pinsMove, mh_X10_pinsMove, sh, rf, e4]
    rw [a_pins, eq4] at hq
    have h66 : ∀ B : Row, B 0 = A 0 → TI B → RPQ r w F Q (a_pins n B (p + 1)) → RT n_X10_pinsMove 66 [.ref r, .int x, .int (Int32.ofInt p), .int (Int32.ofInt ((q + p : Nat) : Int))] [] (rs r w B F) (0, 0, false) Q := by
      intro B hB hIB hqB
      refine rt_X10_pinsMove_66 ?_
      simp (disch := omega) only [wp_c, wp_n, jj_n, Int.reduceToNat, Int.toNat_natCast, stE, wlE, lgt, lpu, lpw, v_c2, va_s, true_and, and_true, Option.toList, List.nil_append, List.cons_append, List.take, List.drop, List.reverse, List.reverseAux, List.length_cons, List.length_nil, reduceCtorEq, false_implies, true_implies, forall_const, not_true_eq_false, not_false_eq_true, ite_true, ite_false, Bool.false_eq_true, I_I, J_J, Nat.add_left_cancel_iff, Nat.reduceEqDiff, Nat.add_eq_left, Nat.left_eq_add, false_and, and_false, Nat.reduceSub, Nat.sub_self, Nat.le_refl, Nat.zero_le, ge_iff_le, Nat.reduceAdd, Nat.reduceLeDiff, Nat.zero_add, Nat.reduceLT, z_lt, z_le, z_eq, z_l0, z_g0, z_le0, z_ge0, z_e0, z_e1, z_vp, z_nc, z_rem, z_div, i_ltT, i_ltF, i_leT, i_leF, i_eqT, i_eqF, n_ltT, n_ltF, n_leT, n_leF, n_eqT, n_eqF, tn_9, tn_12, tn_14, tn_20, tn_28, tn_44, tn_52, tn_68, tn_84, tn_100, tn_116, tn_132, fu_e, up_eq, ob_0, ob_b, oi_add, oi_sub, oi_mul, oi_neg, rs_sh, rs_R, rs_N, rs_J, rs_F, rs_A, rs_o, rs_wA, rs_wF, rs_w, Int.add_zero, Int.zero_add, or_true, true_or, or_false, false_or, and_self, z_i2l, z_l2i, lo_nat, lo_add, lo_sub, lo_mul, lo_0, e_rem, mr_X10_pinsMove, mh_X10_pinsMove, sh, rf]
      exact ih B (p + 1) _ (by omega) hIB hqB
    refine ⟨fun hz => ?_, fun hz => ?_⟩
    · rw [if_neg hz] at hq
      refine rt_X10_pinsMove_36 ?_
      simp (disch := omega) only [wp_c, wp_n, jj_n, Int.reduceToNat, Int.toNat_natCast, stE, wlE, lgt, lpu, lpw, v_c2, va_s, true_and, and_true, Option.toList, List.nil_append, List.cons_append, List.take, List.drop, List.reverse, List.reverseAux, List.length_cons, List.length_nil, reduceCtorEq, false_implies, true_implies, forall_const, not_true_eq_false, not_false_eq_true, ite_true, ite_false, Bool.false_eq_true, I_I, J_J, Nat.add_left_cancel_iff, Nat.reduceEqDiff, Nat.add_eq_left, Nat.left_eq_add, false_and, and_false, Nat.reduceSub, Nat.sub_self, Nat.le_refl, Nat.zero_le, ge_iff_le, Nat.reduceAdd, Nat.reduceLeDiff, Nat.zero_add, Nat.reduceLT, z_lt, z_le, z_eq, z_l0, z_g0, z_le0, z_ge0, z_e0, z_e1, z_vp, z_nc, z_rem, z_div, i_ltT, i_ltF, i_leT, i_leF, i_eqT, i_eqF, n_ltT, n_ltF, n_leT, n_leF, n_eqT, n_eqF, tn_9, tn_12, tn_14, tn_20, tn_28, tn_44, tn_52, tn_68, tn_84, tn_100, tn_116, tn_132, fu_e, up_eq, ob_0, ob_b, oi_add, oi_sub, oi_mul, oi_neg, rs_sh, rs_R, rs_N, rs_J, rs_F, rs_A, rs_o, rs_wA, rs_wF, rs_w, Int.add_zero, Int.zero_add, or_true, true_or, or_false, false_or, and_self, z_i2l, z_l2i, lo_nat, lo_add, lo_sub, lo_mul, lo_0, e_rem, mr_X10_pinsMove, mh_X10_pinsMove, sh, rf, e4]
      refine c_isStuck hR0 rfl (by omega) h68 ?_
      simp (disch := omega) only [wp_c, wp_n, jj_n, Int.reduceToNat, Int.toNat_natCast, stE, wlE, lgt, lpu, lpw, v_c2, va_s, true_and, and_true, Option.toList, List.nil_append, List.cons_append, List.take, List.drop, List.reverse, List.reverseAux, List.length_cons, List.length_nil, reduceCtorEq, false_implies, true_implies, forall_const, not_true_eq_false, not_false_eq_true, ite_true, ite_false, Bool.false_eq_true, I_I, J_J, Nat.add_left_cancel_iff, Nat.reduceEqDiff, Nat.add_eq_left, Nat.left_eq_add, false_and, and_false, Nat.reduceSub, Nat.sub_self, Nat.le_refl, Nat.zero_le, ge_iff_le, Nat.reduceAdd, Nat.reduceLeDiff, Nat.zero_add, Nat.reduceLT, z_lt, z_le, z_eq, z_l0, z_g0, z_le0, z_ge0, z_e0, z_e1, z_vp, z_nc, z_rem, z_div, i_ltT, i_ltF, i_leT, i_leF, i_eqT, i_eqF, n_ltT, n_ltF, n_leT, n_leF, n_eqT, n_eqF, tn_9, tn_12, tn_14, tn_20, tn_28, tn_44, tn_52, tn_68, tn_84, tn_100, tn_116, tn_132, fu_e, up_eq, ob_0, ob_b, oi_add, oi_sub, oi_mul, oi_neg, rs_sh, rs_R, rs_N, rs_J, rs_F, rs_A, rs_o, rs_wA, rs_wF, rs_w, Int.add_zero, Int.zero_add, or_true, true_or, or_false, false_or, and_self, z_i2l, z_l2i, lo_nat, lo_add, lo_sub, lo_mul, lo_0, e_rem, mr_X10_pinsMove, mh_X10_pinsMove, sh, rf, e4]
      refine ⟨fun hs => ?_, fun hs => ?_⟩
      · rw [if_neg hs] at hq
        refine rt_X10_pinsMove_52 ?_
        simp (disch := omega) only [wp_c, wp_n, jj_n, Int.reduceToNat, Int.toNat_natCast, stE, wlE, lgt, lpu, lpw, v_c2, va_s, true_and, and_true, Option.toList, List.nil_append, List.cons_append, List.take, List.drop, List.reverse, List.reverseAux, List.length_cons, List.length_nil, reduceCtorEq, false_implies, true_implies, forall_const, not_true_eq_false, not_false_eq_true, ite_true, ite_false, Bool.false_eq_true, I_I, J_J, Nat.add_left_cancel_iff, Nat.reduceEqDiff, Nat.add_eq_left, Nat.left_eq_add, false_and, and_false, Nat.reduceSub, Nat.sub_self, Nat.le_refl, Nat.zero_le, ge_iff_le, Nat.reduceAdd, Nat.reduceLeDiff, Nat.zero_add, Nat.reduceLT, z_lt, z_le, z_eq, z_l0, z_g0, z_le0, z_ge0, z_e0, z_e1, z_vp, z_nc, z_rem, z_div, i_ltT, i_ltF, i_leT, i_leF, i_eqT, i_eqF, n_ltT, n_ltF, n_leT, n_leF, n_eqT, n_eqF, tn_9, tn_12, tn_14, tn_20, tn_28, tn_44, tn_52, tn_68, tn_84, tn_100, tn_116, tn_132, fu_e, up_eq, ob_0, ob_b, oi_add, oi_sub, oi_mul, oi_neg, rs_sh, rs_R, rs_N, rs_J, rs_F, rs_A, rs_o, rs_wA, rs_wF, rs_w, Int.add_zero, Int.zero_add, or_true, true_or, or_false, false_or, and_self, z_i2l, z_l2i, lo_nat, lo_add, lo_sub, lo_mul, lo_0, e_rem, mr_X10_pinsMove, mh_X10_pinsMove, sh, rf, e4]
        refine c_moves hR0 rfl (by omega) h20 hI.2.1 h28 ?_
        simp (disch := omega) only [wp_c, wp_n, jj_n, Int.reduceToNat, Int.toNat_natCast, stE, wlE, lgt, lpu, lpw, v_c2, va_s, true_and, and_true, Option.toList, List.nil_append, List.cons_append, List.take, List.drop, List.reverse, List.reverseAux, List.length_cons, List.length_nil, reduceCtorEq, false_implies, true_implies, forall_const, not_true_eq_false, not_false_eq_true, ite_true, ite_false, Bool.false_eq_true, I_I, J_J, Nat.add_left_cancel_iff, Nat.reduceEqDiff, Nat.add_eq_left, Nat.left_eq_add, false_and, and_false, Nat.reduceSub, Nat.sub_self, Nat.le_refl, Nat.zero_le, ge_iff_le, Nat.reduceAdd, Nat.reduceLeDiff, Nat.zero_add, Nat.reduceLT, z_lt, z_le, z_eq, z_l0, z_g0, z_le0, z_ge0, z_e0, z_e1, z_vp, z_nc, z_rem, z_div, i_ltT, i_ltF, i_leT, i_leF, i_eqT, i_eqF, n_ltT, n_ltF, n_leT, n_leF, n_eqT, n_eqF, tn_9, tn_12, tn_14, tn_20, tn_28, tn_44, tn_52, tn_68, tn_84, tn_100, tn_116, tn_132, fu_e, up_eq, ob_0, ob_b, oi_add, oi_sub, oi_mul, oi_neg, rs_sh, rs_R, rs_N, rs_J, rs_F, rs_A, rs_o, rs_wA, rs_wF, rs_w, Int.add_zero, Int.zero_add, or_true, true_or, or_false, false_or, and_self, z_i2l, z_l2i, lo_nat, lo_add, lo_sub, lo_mul, lo_0, e_rem, mr_X10_pinsMove, mh_X10_pinsMove, sh, rf, e4]
        exact h66 _ (mv_s _ _ _ _ (by omega) (by omega)) (hI.mv (by omega) h20) hq
      · rw [if_pos (by omega)] at hq
        refine c_jams hR0 ?_
        simp (disch := omega) only [wp_c, wp_n, jj_n, Int.reduceToNat, Int.toNat_natCast, stE, wlE, lgt, lpu, lpw, v_c2, va_s, true_and, and_true, Option.toList, List.nil_append, List.cons_append, List.take, List.drop, List.reverse, List.reverseAux, List.length_cons, List.length_nil, reduceCtorEq, false_implies, true_implies, forall_const, not_true_eq_false, not_false_eq_true, ite_true, ite_false, Bool.false_eq_true, I_I, J_J, Nat.add_left_cancel_iff, Nat.reduceEqDiff, Nat.add_eq_left, Nat.left_eq_add, false_and, and_false, Nat.reduceSub, Nat.sub_self, Nat.le_refl, Nat.zero_le, ge_iff_le, Nat.reduceAdd, Nat.reduceLeDiff, Nat.zero_add, Nat.reduceLT, z_lt, z_le, z_eq, z_l0, z_g0, z_le0, z_ge0, z_e0, z_e1, z_vp, z_nc, z_rem, z_div, i_ltT, i_ltF, i_leT, i_leF, i_eqT, i_eqF, n_ltT, n_ltF, n_leT, n_leF, n_eqT, n_eqF, tn_9, tn_12, tn_14, tn_20, tn_28, tn_44, tn_52, tn_68, tn_84, tn_100, tn_116, tn_132, fu_e, up_eq, ob_0, ob_b, oi_add, oi_sub, oi_mul, oi_neg, rs_sh, rs_R, rs_N, rs_J, rs_F, rs_A, rs_o, rs_wA, rs_wF, rs_w, Int.add_zero, Int.zero_add, or_true, true_or, or_false, false_or, and_self, z_i2l, z_l2i, lo_nat, lo_add, lo_sub, lo_mul, lo_0, e_rem, mr_X10_pinsMove, mh_X10_pinsMove, sh, rf, e4]
        rw [jm_c]; exact hq
    · rw [if_pos (by omega)] at hq
      exact h66 A rfl hI hq
theorem c_pinsMove {r p n : Nat} {v : Int} {w : mW} {A : Row} {F : Nat → Int32} {Q : mW → mO → Prop} (hR : Rb w r) (hv : v = (p : Int)) (hn : (p : Int) + n = A 0) (hI : TI A) (hq : RPQ r w F Q (a_pins n A p)) : CT n_X10_pinsMove [.ref r, .int (Int32.ofInt v)] (rs r w A F) Q := by
  subst hv
  refine ct_X10_pinsMove (rt_X10_pinsMove_0 ?_)
  simp (disch := omega) only [wp_c, wp_n, jj_n, Int.reduceToNat, Int.toNat_natCast, stE, wlE, lgt, lpu, lpw, v_c2, va_s, true_and, and_true, Option.toList, List.nil_append, List.cons_append, List.take, List.drop, List.reverse, List.reverseAux, List.length_cons, List.length_nil, reduceCtorEq, false_implies, true_implies, forall_const, not_true_eq_false, not_false_eq_true, ite_true, ite_false, Bool.false_eq_true, I_I, J_J, Nat.add_left_cancel_iff, Nat.reduceEqDiff, Nat.add_eq_left, Nat.left_eq_add, false_and, and_false, Nat.reduceSub, Nat.sub_self, Nat.le_refl, Nat.zero_le, ge_iff_le, Nat.reduceAdd, Nat.reduceLeDiff, Nat.zero_add, Nat.reduceLT, z_lt, z_le, z_eq, z_l0, z_g0, z_le0, z_ge0, z_e0, z_e1, z_vp, z_nc, z_rem, z_div, i_ltT, i_ltF, i_leT, i_leF, i_eqT, i_eqF, n_ltT, n_ltF, n_leT, n_leF, n_eqT, n_eqF, tn_9, tn_12, tn_14, tn_20, tn_28, tn_44, tn_52, tn_68, tn_84, tn_100, tn_116, tn_132, fu_e, up_eq, ob_0, ob_b, oi_add, oi_sub, oi_mul, oi_neg, rs_sh, rs_R, rs_N, rs_J, rs_F, rs_A, rs_o, rs_wA, rs_wF, rs_w, Int.add_zero, Int.zero_add, or_true, true_or, or_false, false_or, and_self, z_i2l, z_l2i, lo_nat, lo_add, lo_sub, lo_mul, lo_0, e_rem, mr_X10_pinsMove, mh_X10_pinsMove]
  exact c_pinsMove_2 hR n A p _ hn hI hq
def FE (F F' : Nat → Int32) : Prop := ∀ i, i ≠ 4 → i ≠ 5 → F' i = F i
def RLQ (r : Nat) (w : mW) (F : Nat → Int32) (Q : mW → mO → Prop) (z : Row × Option Nat × Int32) : Prop := ∀ F', FE F F' → F' 5 = z.2.2 → (match z.2.1 with
  | none => Q (rs r w z.1 F') (.inl (some (.int (Int32.ofInt 1))))
  | some k => Q (rs r w (up (up z.1 5 2) 6 k) F') (.inl (some (.int (Int32.ofInt 0)))))
theorem c_leversMove_2 {r : Nat} {w : mW} {F : Nat → Int32} {Q : mW → mO → Prop} {x : Int32} (hR : Rb w r) : ∀ (n : Nat) (A : Row) (G : Nat → Int32) (wh : Nat) (y : Value), (wh : Int) + n = A 1 → TI A → FE F G → 0 ≤ G 5 → RLQ r w F Q (a_lev n A wh (G 4) (G 5)) →
    RT n_X10_leversMove 2 [.ref r, .int x, .int (Int32.ofInt wh), y] [] (rs r w A G) (0, 0, false) Q := by
  have hR0 := hR
  obtain ⟨sh, rf⟩ := hR
  intro n
  induction n with
  | zero =>
    intro A G wh y hn hI hG hl hq
    have h0 := hI.1
    refine rt_X10_leversMove_2 ?_
    simp (disch := omega) only [wp_c, wp_n, jj_n, Int.reduceToNat, Int.toNat_natCast, stE, wlE, lgt, lpu, lpw, v_c2, va_s, true_and, and_true, Option.toList, List.nil_append, List.cons_append, List.take, List.drop, List.reverse, List.reverseAux, List.length_cons, List.length_nil, reduceCtorEq, false_implies, true_implies, forall_const, not_true_eq_false, not_false_eq_true, ite_true, ite_false, Bool.false_eq_true, I_I, J_J, Nat.add_left_cancel_iff, Nat.reduceEqDiff, Nat.add_eq_left, Nat.left_eq_add, false_and, and_false, Nat.reduceSub, Nat.sub_self, Nat.le_refl, Nat.zero_le, ge_iff_le, Nat.reduceAdd, Nat.reduceLeDiff, Nat.zero_add, Nat.reduceLT, z_lt, z_le, z_eq, z_l0, z_g0, z_le0, z_ge0, z_e0, z_e1, z_vp, z_nc, z_rem, z_div, i_ltT, i_ltF, i_leT, i_leF, i_eqT, i_eqF, n_ltT, n_ltF, n_leT, n_leF, n_eqT, n_eqF, tn_9, tn_12, tn_14, tn_20, tn_28, tn_44, tn_52, tn_68, tn_84, tn_100, tn_116, tn_132, fu_e, up_eq, ob_0, ob_b, oi_add, oi_sub, oi_mul, oi_neg, rs_sh, rs_R, rs_N, rs_J, rs_F, rs_A, rs_o, rs_wA, rs_wF, rs_w, Int.add_zero, Int.zero_add, or_true, true_or, or_false, false_or, and_self, z_i2l, z_l2i, lo_nat, lo_add, lo_sub, lo_mul, lo_0, e_rem, mr_X10_leversMove, mh_X10_leversMove, sh, rf]
    repeat' (first | (with_reducible refine And.intro ?_ ?_) | (with_reducible intro _) | ((first | refine rt_X10_leversMove_46 ?_ | refine rt_X10_leversMove_62 ?_ | refine rt_X10_leversMove_70 ?_ | refine rt_X10_leversMove_88 ?_ | refine rt_X10_leversMove_103 ?_ | refine rt_X10_leversMove_113 ?_ | refine rt_X10_leversMove_127 ?_ | refine rt_X10_leversMove_128 ?_ | refine rt_X10_leversMove_150 ?_ | refine rt_X10_leversMove_154 ?_ | refine rt_X10_leversMove_163 ?_); simp (disch := omega) only [wp_c, wp_n, jj_n, Int.reduceToNat, Int.toNat_natCast, stE, wlE, lgt, lpu, lpw, v_c2, va_s, true_and, and_true, Option.toList, List.nil_append, List.cons_append, List.take, List.drop, List.reverse, List.reverseAux, List.length_cons, List.length_nil, reduceCtorEq, false_implies, true_implies, forall_const, not_true_eq_false, not_false_eq_true, ite_true, ite_false, Bool.false_eq_true, I_I, J_J, Nat.add_left_cancel_iff, Nat.reduceEqDiff, Nat.add_eq_left, Nat.left_eq_add, false_and, and_false, Nat.reduceSub, Nat.sub_self, Nat.le_refl, Nat.zero_le, ge_iff_le, Nat.reduceAdd, Nat.reduceLeDiff, Nat.zero_add, Nat.reduceLT, z_lt, z_le, z_eq, z_l0, z_g0, z_le0, z_ge0, z_e0, z_e1, z_vp, z_nc, z_rem, z_div, i_ltT, i_ltF, i_leT, i_leF, i_eqT, i_eqF, n_ltT, n_ltF, n_leT, n_leF, n_eqT, n_eqF, tn_9, tn_12, tn_14, tn_20, tn_28, tn_44, tn_52, tn_68, tn_84, tn_100, tn_116, tn_132, fu_e, up_eq, ob_0, ob_b, oi_add, oi_sub, oi_mul, oi_neg, rs_sh, rs_R, rs_N, rs_J, rs_F, rs_A, rs_o, rs_wA, rs_wF, rs_w, Int.add_zero, Int.zero_add, or_true, true_or, or_false, false_or, and_self, z_i2l, z_l2i, lo_nat, lo_add, lo_sub, lo_mul, lo_0, e_rem, mr_X10_leversMove, mh_X10_leversMove, sh, rf]))
    exact hq G hG rfl
  | succ n ih =>
    intro A G wh y hn hI hG hl hq
    have h0 := hI.1
    have h52 := hI.2.2.2.2.2.1 wh (by omega)
    have h68 := hI.2.2.2.2.2.2 wh (by omega)
    -- behind the choice: nothing carried
    have h113 : ∀ B : Row, B 1 = A 1 → TI B → RLQ r w F Q (a_lev n B (wh + 1) (Int32.ofInt 0) (G 5)) → RT n_X10_leversMove 113 [.ref r, .int x, .int (Int32.ofInt wh), .int (Int32.ofInt 0)] [] (rs r w B G) (0, 0, false) Q := by
      intro B hB hIB hqB
      have hl' : ¬ G 5 < Int32.ofInt 0 := Int32.not_lt.mpr hl
      refine rt_X10_leversMove_113 ?_
      simp (disch := omega) only [wp_c, wp_n, jj_n, Int.reduceToNat, Int.toNat_natCast, stE, wlE, lgt, lpu, lpw, v_c2, va_s, true_and, and_true, Option.toList, List.nil_append, List.cons_append, List.take, List.drop, List.reverse, List.reverseAux, List.length_cons, List.length_nil, reduceCtorEq, false_implies, true_implies, forall_const, not_true_eq_false, not_false_eq_true, ite_true, ite_false, Bool.false_eq_true, I_I, J_J, Nat.add_left_cancel_iff, Nat.reduceEqDiff, Nat.add_eq_left, Nat.left_eq_add, false_and, and_false, Nat.reduceSub, Nat.sub_self, Nat.le_refl, Nat.zero_le, ge_iff_le, Nat.reduceAdd, Nat.reduceLeDiff, Nat.zero_add, Nat.reduceLT, z_lt, z_le, z_eq, z_l0, z_g0, z_le0, z_ge0, z_e0, z_e1, z_vp, z_nc, z_rem, z_div, i_ltT, i_ltF, i_leT, i_leF, i_eqT, i_eqF, n_ltT, n_ltF, n_leT, n_leF, n_eqT, n_eqF, tn_9, tn_12, tn_14, tn_20, tn_28, tn_44, tn_52, tn_68, tn_84, tn_100, tn_116, tn_132, fu_e, up_eq, ob_0, ob_b, oi_add, oi_sub, oi_mul, oi_neg, rs_sh, rs_R, rs_N, rs_J, rs_F, rs_A, rs_o, rs_wA, rs_wF, rs_w, Int.add_zero, Int.zero_add, or_true, true_or, or_false, false_or, and_self, z_i2l, z_l2i, lo_nat, lo_add, lo_sub, lo_mul, lo_0, e_rem, mr_X10_leversMove, mh_X10_leversMove, sh, rf]
      refine rt_X10_leversMove_127 ?_
      simp (disch := omega) only [wp_c, wp_n, jj_n, Int.reduceToNat, Int.toNat_natCast, stE, wlE, lgt, lpu, lpw, v_c2, va_s, true_and, and_true, Option.toList, List.nil_append, List.cons_append, List.take, List.drop, List.reverse, List.reverseAux, List.length_cons, List.length_nil, reduceCtorEq, false_implies, true_implies, forall_const, not_true_eq_false, not_false_eq_true, ite_true, ite_false, Bool.false_eq_true, I_I, J_J, Nat.add_left_cancel_iff, Nat.reduceEqDiff, Nat.add_eq_left, Nat.left_eq_add, false_and, and_false, Nat.reduceSub, Nat.sub_self, Nat.le_refl, Nat.zero_le, ge_iff_le, Nat.reduceAdd, Nat.reduceLeDiff, Nat.zero_add, Nat.reduceLT, z_lt, z_le, z_eq, z_l0, z_g0, z_le0, z_ge0, z_e0, z_e1, z_vp, z_nc, z_rem, z_div, i_ltT, i_ltF, i_leT, i_leF, i_eqT, i_eqF, n_ltT, n_ltF, n_leT, n_leF, n_eqT, n_eqF, tn_9, tn_12, tn_14, tn_20, tn_28, tn_44, tn_52, tn_68, tn_84, tn_100, tn_116, tn_132, fu_e, up_eq, ob_0, ob_b, oi_add, oi_sub, oi_mul, oi_neg, rs_sh, rs_R, rs_N, rs_J, rs_F, rs_A, rs_o, rs_wA, rs_wF, rs_w, Int.add_zero, Int.zero_add, or_true, true_or, or_false, false_or, and_self, z_i2l, z_l2i, lo_nat, lo_add, lo_sub, lo_mul, lo_0, e_rem, mr_X10_leversMove, mh_X10_leversMove, sh, rf]
      refine rt_X10_leversMove_128 ?_
      simp (disch := omega) only [wp_c, wp_n, jj_n, Int.reduceToNat, Int.toNat_natCast, stE, wlE, lgt, lpu, lpw, v_c2, va_s, true_and, and_true, Option.toList, List.nil_append, List.cons_append, List.take, List.drop, List.reverse, List.reverseAux, List.length_cons, List.length_nil, reduceCtorEq, false_implies, true_implies, forall_const, not_true_eq_false, not_false_eq_true, ite_true, ite_false, Bool.false_eq_true, I_I, J_J, Nat.add_left_cancel_iff, Nat.reduceEqDiff, Nat.add_eq_left, Nat.left_eq_add, false_and, and_false, Nat.reduceSub, Nat.sub_self, Nat.le_refl, Nat.zero_le, ge_iff_le, Nat.reduceAdd, Nat.reduceLeDiff, Nat.zero_add, Nat.reduceLT, z_lt, z_le, z_eq, z_l0, z_g0, z_le0, z_ge0, z_e0, z_e1, z_vp, z_nc, z_rem, z_div, i_ltT, i_ltF, i_leT, i_leF, i_eqT, i_eqF, n_ltT, n_ltF, n_leT, n_leF, n_eqT, n_eqF, tn_9, tn_12, tn_14, tn_20, tn_28, tn_44, tn_52, tn_68, tn_84, tn_100, tn_116, tn_132, fu_e, up_eq, ob_0, ob_b, oi_add, oi_sub, oi_mul, oi_neg, rs_sh, rs_R, rs_N, rs_J, rs_F, rs_A, rs_o, rs_wA, rs_wF, rs_w, Int.add_zero, Int.zero_add, or_true, true_or, or_false, false_or, and_self, z_i2l, z_l2i, lo_nat, lo_add, lo_sub, lo_mul, lo_0, e_rem, mr_X10_leversMove, mh_X10_leversMove, sh, rf]
      refine ⟨fun _ => ?_, fun h => absurd (Int32.not_le.mp h) hl'⟩
      refine rt_X10_leversMove_150 ?_
      simp (disch := omega) only [wp_c, wp_n, jj_n, Int.reduceToNat, Int.toNat_natCast, stE, wlE, lgt, lpu, lpw, v_c2, va_s, true_and, and_true, Option.toList, List.nil_append, List.cons_append, List.take, List.drop, List.reverse, List.reverseAux, List.length_cons, List.length_nil, reduceCtorEq, false_implies, true_implies, forall_const, not_true_eq_false, not_false_eq_true, ite_true, ite_false, Bool.false_eq_true, I_I, J_J, Nat.add_left_cancel_iff, Nat.reduceEqDiff, Nat.add_eq_left, Nat.left_eq_add, false_and, and_false, Nat.reduceSub, Nat.sub_self, Nat.le_refl, Nat.zero_le, ge_iff_le, Nat.reduceAdd, Nat.reduceLeDiff, Nat.zero_add, Nat.reduceLT, z_lt, z_le, z_eq, z_l0, z_g0, z_le0, z_ge0, z_e0, z_e1, z_vp, z_nc, z_rem, z_div, i_ltT, i_ltF, i_leT, i_leF, i_eqT, i_eqF, n_ltT, n_ltF, n_leT, n_leF, n_eqT, n_eqF, tn_9, tn_12, tn_14, tn_20, tn_28, tn_44, tn_52, tn_68, tn_84, tn_100, tn_116, tn_132, fu_e, up_eq, ob_0, ob_b, oi_add, oi_sub, oi_mul, oi_neg, rs_sh, rs_R, rs_N, rs_J, rs_F, rs_A, rs_o, rs_wA, rs_wF, rs_w, Int.add_zero, Int.zero_add, or_true, true_or, or_false, false_or, and_self, z_i2l, z_l2i, lo_nat, lo_add, lo_sub, lo_mul, lo_0, e_rem, mr_X10_leversMove, mh_X10_leversMove, sh, rf]
      refine rt_X10_leversMove_154 ?_
      simp (disch := omega) only [wp_c, wp_n, jj_n, Int.reduceToNat, Int.toNat_natCast, stE, wlE, lgt, lpu, lpw, v_c2, va_s, true_and, and_true, Option.toList, List.nil_append, List.cons_append, List.take, List.drop, List.reverse, List.reverseAux, List.length_cons, List.length_nil, reduceCtorEq, false_implies, true_implies, forall_const, not_true_eq_false, not_false_eq_true, ite_true, ite_false, Bool.false_eq_true, I_I, J_J, Nat.add_left_cancel_iff, Nat.reduceEqDiff, Nat.add_eq_left, Nat.left_eq_add, false_and, and_false, Nat.reduceSub, Nat.sub_self, Nat.le_refl, Nat.zero_le, ge_iff_le, Nat.reduceAdd, Nat.reduceLeDiff, Nat.zero_add, Nat.reduceLT, z_lt, z_le, z_eq, z_l0, z_g0, z_le0, z_ge0, z_e0, z_e1, z_vp, z_nc, z_rem, z_div, i_ltT, i_ltF, i_leT, i_leF, i_eqT, i_eqF, n_ltT, n_ltF, n_leT, n_leF, n_eqT, n_eqF, tn_9, tn_12, tn_14, tn_20, tn_28, tn_44, tn_52, tn_68, tn_84, tn_100, tn_116, tn_132, fu_e, up_eq, ob_0, ob_b, oi_add, oi_sub, oi_mul, oi_neg, rs_sh, rs_R, rs_N, rs_J, rs_F, rs_A, rs_o, rs_wA, rs_wF, rs_w, Int.add_zero, Int.zero_add, or_true, true_or, or_false, false_or, and_self, z_i2l, z_l2i, lo_nat, lo_add, lo_sub, lo_mul, lo_0, e_rem, mr_X10_leversMove, mh_X10_leversMove, sh, rf]
      refine ih B (upd (upd G 4 (Int32.ofInt 0)) 5 (G 5)) (wh + 1) _ (by omega) hIB (fun i h1 h2 => ?_) ?_ ?_
      · rw [fu_e, if_neg h2, fu_e, if_neg h1]; exact hG i h1 h2
      · exact hl
      · exact hqB
    have h103 : ∀ B : Row, B 1 = A 1 → TI B → RLQ r w F Q (a_lev n (up B (52 + wh) 0) (wh + 1) (Int32.ofInt 0) (G 5)) → RT n_X10_leversMove 103 [.ref r, .int x, .int (Int32.ofInt wh), .int (Int32.ofInt 0)] [] (rs r w B G) (0, 0, false) Q := by
      intro B hB hIB hqB
      refine rt_X10_leversMove_103 ?_
      simp (disch := omega) only [wp_c, wp_n, jj_n, Int.reduceToNat, Int.toNat_natCast, stE, wlE, lgt, lpu, lpw, v_c2, va_s, true_and, and_true, Option.toList, List.nil_append, List.cons_append, List.take, List.drop, List.reverse, List.reverseAux, List.length_cons, List.length_nil, reduceCtorEq, false_implies, true_implies, forall_const, not_true_eq_false, not_false_eq_true, ite_true, ite_false, Bool.false_eq_true, I_I, J_J, Nat.add_left_cancel_iff, Nat.reduceEqDiff, Nat.add_eq_left, Nat.left_eq_add, false_and, and_false, Nat.reduceSub, Nat.sub_self, Nat.le_refl, Nat.zero_le, ge_iff_le, Nat.reduceAdd, Nat.reduceLeDiff, Nat.zero_add, Nat.reduceLT, z_lt, z_le, z_eq, z_l0, z_g0, z_le0, z_ge0, z_e0, z_e1, z_vp, z_nc, z_rem, z_div, i_ltT, i_ltF, i_leT, i_leF, i_eqT, i_eqF, n_ltT, n_ltF, n_leT, n_leF, n_eqT, n_eqF, tn_9, tn_12, tn_14, tn_20, tn_28, tn_44, tn_52, tn_68, tn_84, tn_100, tn_116, tn_132, fu_e, up_eq, ob_0, ob_b, oi_add, oi_sub, oi_mul, oi_neg, rs_sh, rs_R, rs_N, rs_J, rs_F, rs_A, rs_o, rs_wA, rs_wF, rs_w, Int.add_zero, Int.zero_add, or_true, true_or, or_false, false_or, and_self, z_i2l, z_l2i, lo_nat, lo_add, lo_sub, lo_mul, lo_0, e_rem, mr_X10_leversMove, mh_X10_leversMove, sh, rf]
      exact h113 _ (by rw [up_eq, if_neg (by omega)]; exact hB) (hIB.lev ⟨by omega, by omega⟩ (by omega)) hqB
    rw [a_lev] at hq
    refine rt_X10_leversMove_2 ?_
    simp (disch := omega) only [wp_c, wp_n, jj_n, Int.reduceToNat, Int.toNat_natCast, stE, wlE, lgt, lpu, lpw, v_c2, va_s, true_and, and_true, Option.toList, List.nil_append, List.cons_append, List.take, List.drop, List.reverse, List.reverseAux, List.length_cons, List.length_nil, reduceCtorEq, false_implies, true_implies, forall_const, not_true_eq_false, not_false_eq_true, ite_true, ite_false, Bool.false_eq_true, I_I, J_J, Nat.add_left_cancel_iff, Nat.reduceEqDiff, Nat.add_eq_left, Nat.left_eq_add, false_and, and_false, Nat.reduceSub, Nat.sub_self, Nat.le_refl, Nat.zero_le, ge_iff_le, Nat.reduceAdd, Nat.reduceLeDiff, Nat.zero_add, Nat.reduceLT, z_lt, z_le, z_eq, z_l0, z_g0, z_le0, z_ge0, z_e0, z_e1, z_vp, z_nc, z_rem, z_div, i_ltT, i_ltF, i_leT, i_leF, i_eqT, i_eqF, n_ltT, n_ltF, n_leT, n_leF, n_eqT, n_eqF, tn_9, tn_12, tn_14, tn_20, tn_28, tn_44, tn_52, tn_68, tn_84, tn_100, tn_116, tn_132, fu_e, up_eq, ob_0, ob_b, oi_add, oi_sub, oi_mul, oi_neg, rs_sh, rs_R, rs_N, rs_J, rs_F, rs_A, rs_o, rs_wA, rs_wF, rs_w, Int.add_zero, Int.zero_add, or_true, true_or, or_false, false_or, and_self, z_i2l, z_l2i, lo_nat, lo_add, lo_sub, lo_mul, lo_0, e_rem, mr_X10_leversMove, mh_X10_leversMove, sh, rf]
    refine ⟨fun hz => ?_, fun hz => ?_⟩
    · rw [if_pos (by omega)] at hq
      exact h113 A rfl hI hq
    · rw [if_neg (by omega)] at hq
      refine ⟨fun hlast => ?_, fun hlast => ?_⟩
      · rw [if_neg hlast] at hq
        have h68' := hI.2.2.2.2.2.2 (wh + 1) (by omega)
        have h28' := hI.2.2.2.1 (wh + 1) (by omega)
        have h62 : (A (68 + wh) % 2 = 1 ∨ A 4 + A 0 - 1 + A 3 < wh + 1) → RT n_X10_leversMove 62 [.ref r, .int x, .int (Int32.ofInt wh), .int (Int32.ofInt 0)] [] (rs r w A G) (0, 0, false) Q := by
          intro hc
          rw [if_pos hc] at hq
          refine rt_X10_leversMove_62 ?_
          simp (disch := omega) only [wp_c, wp_n, jj_n, Int.reduceToNat, Int.toNat_natCast, stE, wlE, lgt, lpu, lpw, v_c2, va_s, true_and, and_true, Option.toList, List.nil_append, List.cons_append, List.take, List.drop, List.reverse, List.reverseAux, List.length_cons, List.length_nil, reduceCtorEq, false_implies, true_implies, forall_const, not_true_eq_false, not_false_eq_true, ite_true, ite_false, Bool.false_eq_true, I_I, J_J, Nat.add_left_cancel_iff, Nat.reduceEqDiff, Nat.add_eq_left, Nat.left_eq_add, false_and, and_false, Nat.reduceSub, Nat.sub_self, Nat.le_refl, Nat.zero_le, ge_iff_le, Nat.reduceAdd, Nat.reduceLeDiff, Nat.zero_add, Nat.reduceLT, z_lt, z_le, z_eq, z_l0, z_g0, z_le0, z_ge0, z_e0, z_e1, z_vp, z_nc, z_rem, z_div, i_ltT, i_ltF, i_leT, i_leF, i_eqT, i_eqF, n_ltT, n_ltF, n_leT, n_leF, n_eqT, n_eqF, tn_9, tn_12, tn_14, tn_20, tn_28, tn_44, tn_52, tn_68, tn_84, tn_100, tn_116, tn_132, fu_e, up_eq, ob_0, ob_b, oi_add, oi_sub, oi_mul, oi_neg, rs_sh, rs_R, rs_N, rs_J, rs_F, rs_A, rs_o, rs_wA, rs_wF, rs_w, Int.add_zero, Int.zero_add, or_true, true_or, or_false, false_or, and_self, z_i2l, z_l2i, lo_nat, lo_add, lo_sub, lo_mul, lo_0, e_rem, mr_X10_leversMove, mh_X10_leversMove, sh, rf]
          refine c_tallies (k := 2) hR0 rfl (by omega) ?_
          simp (disch := omega) only [wp_c, wp_n, jj_n, Int.reduceToNat, Int.toNat_natCast, stE, wlE, lgt, lpu, lpw, v_c2, va_s, true_and, and_true, Option.toList, List.nil_append, List.cons_append, List.take, List.drop, List.reverse, List.reverseAux, List.length_cons, List.length_nil, reduceCtorEq, false_implies, true_implies, forall_const, not_true_eq_false, not_false_eq_true, ite_true, ite_false, Bool.false_eq_true, I_I, J_J, Nat.add_left_cancel_iff, Nat.reduceEqDiff, Nat.add_eq_left, Nat.left_eq_add, false_and, and_false, Nat.reduceSub, Nat.sub_self, Nat.le_refl, Nat.zero_le, ge_iff_le, Nat.reduceAdd, Nat.reduceLeDiff, Nat.zero_add, Nat.reduceLT, z_lt, z_le, z_eq, z_l0, z_g0, z_le0, z_ge0, z_e0, z_e1, z_vp, z_nc, z_rem, z_div, i_ltT, i_ltF, i_leT, i_leF, i_eqT, i_eqF, n_ltT, n_ltF, n_leT, n_leF, n_eqT, n_eqF, tn_9, tn_12, tn_14, tn_20, tn_28, tn_44, tn_52, tn_68, tn_84, tn_100, tn_116, tn_132, fu_e, up_eq, ob_0, ob_b, oi_add, oi_sub, oi_mul, oi_neg, rs_sh, rs_R, rs_N, rs_J, rs_F, rs_A, rs_o, rs_wA, rs_wF, rs_w, Int.add_zero, Int.zero_add, or_true, true_or, or_false, false_or, and_self, z_i2l, z_l2i, lo_nat, lo_add, lo_sub, lo_mul, lo_0, e_rem, mr_X10_leversMove, mh_X10_leversMove, sh, rf]
          exact h103 _ (tal_s _ _ _ (by omega) (by omega)) (hI.tal (by omega)) hq
        refine rt_X10_leversMove_46 ?_
        simp (disch := omega) only [wp_c, wp_n, jj_n, Int.reduceToNat, Int.toNat_natCast, stE, wlE, lgt, lpu, lpw, v_c2, va_s, true_and, and_true, Option.toList, List.nil_append, List.cons_append, List.take, List.drop, List.reverse, List.reverseAux, List.length_cons, List.length_nil, reduceCtorEq, false_implies, true_implies, forall_const, not_true_eq_false, not_false_eq_true, ite_true, ite_false, Bool.false_eq_true, I_I, J_J, Nat.add_left_cancel_iff, Nat.reduceEqDiff, Nat.add_eq_left, Nat.left_eq_add, false_and, and_false, Nat.reduceSub, Nat.sub_self, Nat.le_refl, Nat.zero_le, ge_iff_le, Nat.reduceAdd, Nat.reduceLeDiff, Nat.zero_add, Nat.reduceLT, z_lt, z_le, z_eq, z_l0, z_g0, z_le0, z_ge0, z_e0, z_e1, z_vp, z_nc, z_rem, z_div, i_ltT, i_ltF, i_leT, i_leF, i_eqT, i_eqF, n_ltT, n_ltF, n_leT, n_leF, n_eqT, n_eqF, tn_9, tn_12, tn_14, tn_20, tn_28, tn_44, tn_52, tn_68, tn_84, tn_100, tn_116, tn_132, fu_e, up_eq, ob_0, ob_b, oi_add, oi_sub, oi_mul, oi_neg, rs_sh, rs_R, rs_N, rs_J, rs_F, rs_A, rs_o, rs_wA, rs_wF, rs_w, Int.add_zero, Int.zero_add, or_true, true_or, or_false, false_or, and_self, z_i2l, z_l2i, lo_nat, lo_add, lo_sub, lo_mul, lo_0, e_rem, mr_X10_leversMove, mh_X10_leversMove, sh, rf]
        refine c_slips hR0 rfl (by omega) h68 ?_
        simp (disch := omega) only [wp_c, wp_n, jj_n, Int.reduceToNat, Int.toNat_natCast, stE, wlE, lgt, lpu, lpw, v_c2, va_s, true_and, and_true, Option.toList, List.nil_append, List.cons_append, List.take, List.drop, List.reverse, List.reverseAux, List.length_cons, List.length_nil, reduceCtorEq, false_implies, true_implies, forall_const, not_true_eq_false, not_false_eq_true, ite_true, ite_false, Bool.false_eq_true, I_I, J_J, Nat.add_left_cancel_iff, Nat.reduceEqDiff, Nat.add_eq_left, Nat.left_eq_add, false_and, and_false, Nat.reduceSub, Nat.sub_self, Nat.le_refl, Nat.zero_le, ge_iff_le, Nat.reduceAdd, Nat.reduceLeDiff, Nat.zero_add, Nat.reduceLT, z_lt, z_le, z_eq, z_l0, z_g0, z_le0, z_ge0, z_e0, z_e1, z_vp, z_nc, z_rem, z_div, i_ltT, i_ltF, i_leT, i_leF, i_eqT, i_eqF, n_ltT, n_ltF, n_leT, n_leF, n_eqT, n_eqF, tn_9, tn_12, tn_14, tn_20, tn_28, tn_44, tn_52, tn_68, tn_84, tn_100, tn_116, tn_132, fu_e, up_eq, ob_0, ob_b, oi_add, oi_sub, oi_mul, oi_neg, rs_sh, rs_R, rs_N, rs_J, rs_F, rs_A, rs_o, rs_wA, rs_wF, rs_w, Int.add_zero, Int.zero_add, or_true, true_or, or_false, false_or, and_self, z_i2l, z_l2i, lo_nat, lo_add, lo_sub, lo_mul, lo_0, e_rem, mr_X10_leversMove, mh_X10_leversMove, sh, rf]
        refine ⟨fun h => h62 (Or.inl (by omega)), fun hns => ?_⟩
        refine c_isBeyond hR0 (by omega) (by omega) ?_
        simp (disch := omega) only [wp_c, wp_n, jj_n, Int.reduceToNat, Int.toNat_natCast, stE, wlE, lgt, lpu, lpw, v_c2, va_s, true_and, and_true, Option.toList, List.nil_append, List.cons_append, List.take, List.drop, List.reverse, List.reverseAux, List.length_cons, List.length_nil, reduceCtorEq, false_implies, true_implies, forall_const, not_true_eq_false, not_false_eq_true, ite_true, ite_false, Bool.false_eq_true, I_I, J_J, Nat.add_left_cancel_iff, Nat.reduceEqDiff, Nat.add_eq_left, Nat.left_eq_add, false_and, and_false, Nat.reduceSub, Nat.sub_self, Nat.le_refl, Nat.zero_le, ge_iff_le, Nat.reduceAdd, Nat.reduceLeDiff, Nat.zero_add, Nat.reduceLT, z_lt, z_le, z_eq, z_l0, z_g0, z_le0, z_ge0, z_e0, z_e1, z_vp, z_nc, z_rem, z_div, i_ltT, i_ltF, i_leT, i_leF, i_eqT, i_eqF, n_ltT, n_ltF, n_leT, n_leF, n_eqT, n_eqF, tn_9, tn_12, tn_14, tn_20, tn_28, tn_44, tn_52, tn_68, tn_84, tn_100, tn_116, tn_132, fu_e, up_eq, ob_0, ob_b, oi_add, oi_sub, oi_mul, oi_neg, rs_sh, rs_R, rs_N, rs_J, rs_F, rs_A, rs_o, rs_wA, rs_wF, rs_w, Int.add_zero, Int.zero_add, or_true, true_or, or_false, false_or, and_self, z_i2l, z_l2i, lo_nat, lo_add, lo_sub, lo_mul, lo_0, e_rem, mr_X10_leversMove, mh_X10_leversMove, sh, rf]
        refine ⟨fun hb => ?_, fun hb => h62 (Or.inr (by omega))⟩
        rw [if_neg (by omega)] at hq
        refine rt_X10_leversMove_70 ?_
        simp (disch := omega) only [wp_c, wp_n, jj_n, Int.reduceToNat, Int.toNat_natCast, stE, wlE, lgt, lpu, lpw, v_c2, va_s, true_and, and_true, Option.toList, List.nil_append, List.cons_append, List.take, List.drop, List.reverse, List.reverseAux, List.length_cons, List.length_nil, reduceCtorEq, false_implies, true_implies, forall_const, not_true_eq_false, not_false_eq_true, ite_true, ite_false, Bool.false_eq_true, I_I, J_J, Nat.add_left_cancel_iff, Nat.reduceEqDiff, Nat.add_eq_left, Nat.left_eq_add, false_and, and_false, Nat.reduceSub, Nat.sub_self, Nat.le_refl, Nat.zero_le, ge_iff_le, Nat.reduceAdd, Nat.reduceLeDiff, Nat.zero_add, Nat.reduceLT, z_lt, z_le, z_eq, z_l0, z_g0, z_le0, z_ge0, z_e0, z_e1, z_vp, z_nc, z_rem, z_div, i_ltT, i_ltF, i_leT, i_leF, i_eqT, i_eqF, n_ltT, n_ltF, n_leT, n_leF, n_eqT, n_eqF, tn_9, tn_12, tn_14, tn_20, tn_28, tn_44, tn_52, tn_68, tn_84, tn_100, tn_116, tn_132, fu_e, up_eq, ob_0, ob_b, oi_add, oi_sub, oi_mul, oi_neg, rs_sh, rs_R, rs_N, rs_J, rs_F, rs_A, rs_o, rs_wA, rs_wF, rs_w, Int.add_zero, Int.zero_add, or_true, true_or, or_false, false_or, and_self, z_i2l, z_l2i, lo_nat, lo_add, lo_sub, lo_mul, lo_0, e_rem, mr_X10_leversMove, mh_X10_leversMove, sh, rf]
        refine c_isStuck (j := wh + 1) hR0 rfl (by omega) h68' ?_
        simp (disch := omega) only [wp_c, wp_n, jj_n, Int.reduceToNat, Int.toNat_natCast, stE, wlE, lgt, lpu, lpw, v_c2, va_s, true_and, and_true, Option.toList, List.nil_append, List.cons_append, List.take, List.drop, List.reverse, List.reverseAux, List.length_cons, List.length_nil, reduceCtorEq, false_implies, true_implies, forall_const, not_true_eq_false, not_false_eq_true, ite_true, ite_false, Bool.false_eq_true, I_I, J_J, Nat.add_left_cancel_iff, Nat.reduceEqDiff, Nat.add_eq_left, Nat.left_eq_add, false_and, and_false, Nat.reduceSub, Nat.sub_self, Nat.le_refl, Nat.zero_le, ge_iff_le, Nat.reduceAdd, Nat.reduceLeDiff, Nat.zero_add, Nat.reduceLT, z_lt, z_le, z_eq, z_l0, z_g0, z_le0, z_ge0, z_e0, z_e1, z_vp, z_nc, z_rem, z_div, i_ltT, i_ltF, i_leT, i_leF, i_eqT, i_eqF, n_ltT, n_ltF, n_leT, n_leF, n_eqT, n_eqF, tn_9, tn_12, tn_14, tn_20, tn_28, tn_44, tn_52, tn_68, tn_84, tn_100, tn_116, tn_132, fu_e, up_eq, ob_0, ob_b, oi_add, oi_sub, oi_mul, oi_neg, rs_sh, rs_R, rs_N, rs_J, rs_F, rs_A, rs_o, rs_wA, rs_wF, rs_w, Int.add_zero, Int.zero_add, or_true, true_or, or_false, false_or, and_self, z_i2l, z_l2i, lo_nat, lo_add, lo_sub, lo_mul, lo_0, e_rem, mr_X10_leversMove, mh_X10_leversMove, sh, rf]
        refine ⟨fun hs => ?_, fun hs => ?_⟩
        · rw [if_neg hs] at hq
          refine rt_X10_leversMove_88 ?_
          simp (disch := omega) only [wp_c, wp_n, jj_n, Int.reduceToNat, Int.toNat_natCast, stE, wlE, lgt, lpu, lpw, v_c2, va_s, true_and, and_true, Option.toList, List.nil_append, List.cons_append, List.take, List.drop, List.reverse, List.reverseAux, List.length_cons, List.length_nil, reduceCtorEq, false_implies, true_implies, forall_const, not_true_eq_false, not_false_eq_true, ite_true, ite_false, Bool.false_eq_true, I_I, J_J, Nat.add_left_cancel_iff, Nat.reduceEqDiff, Nat.add_eq_left, Nat.left_eq_add, false_and, and_false, Nat.reduceSub, Nat.sub_self, Nat.le_refl, Nat.zero_le, ge_iff_le, Nat.reduceAdd, Nat.reduceLeDiff, Nat.zero_add, Nat.reduceLT, z_lt, z_le, z_eq, z_l0, z_g0, z_le0, z_ge0, z_e0, z_e1, z_vp, z_nc, z_rem, z_div, i_ltT, i_ltF, i_leT, i_leF, i_eqT, i_eqF, n_ltT, n_ltF, n_leT, n_leF, n_eqT, n_eqF, tn_9, tn_12, tn_14, tn_20, tn_28, tn_44, tn_52, tn_68, tn_84, tn_100, tn_116, tn_132, fu_e, up_eq, ob_0, ob_b, oi_add, oi_sub, oi_mul, oi_neg, rs_sh, rs_R, rs_N, rs_J, rs_F, rs_A, rs_o, rs_wA, rs_wF, rs_w, Int.add_zero, Int.zero_add, or_true, true_or, or_false, false_or, and_self, z_i2l, z_l2i, lo_nat, lo_add, lo_sub, lo_mul, lo_0, e_rem, mr_X10_leversMove, mh_X10_leversMove, sh, rf]
          refine c_moves (j := wh + 1) hR0 rfl (by omega) (by omega) hI.2.1 h28' ?_
          simp (disch := omega) only [wp_c, wp_n, jj_n, Int.reduceToNat, Int.toNat_natCast, stE, wlE, lgt, lpu, lpw, v_c2, va_s, true_and, and_true, Option.toList, List.nil_append, List.cons_append, List.take, List.drop, List.reverse, List.reverseAux, List.length_cons, List.length_nil, reduceCtorEq, false_implies, true_implies, forall_const, not_true_eq_false, not_false_eq_true, ite_true, ite_false, Bool.false_eq_true, I_I, J_J, Nat.add_left_cancel_iff, Nat.reduceEqDiff, Nat.add_eq_left, Nat.left_eq_add, false_and, and_false, Nat.reduceSub, Nat.sub_self, Nat.le_refl, Nat.zero_le, ge_iff_le, Nat.reduceAdd, Nat.reduceLeDiff, Nat.zero_add, Nat.reduceLT, z_lt, z_le, z_eq, z_l0, z_g0, z_le0, z_ge0, z_e0, z_e1, z_vp, z_nc, z_rem, z_div, i_ltT, i_ltF, i_leT, i_leF, i_eqT, i_eqF, n_ltT, n_ltF, n_leT, n_leF, n_eqT, n_eqF, tn_9, tn_12, tn_14, tn_20, tn_28, tn_44, tn_52, tn_68, tn_84, tn_100, tn_116, tn_132, fu_e, up_eq, ob_0, ob_b, oi_add, oi_sub, oi_mul, oi_neg, rs_sh, rs_R, rs_N, rs_J, rs_F, rs_A, rs_o, rs_wA, rs_wF, rs_w, Int.add_zero, Int.zero_add, or_true, true_or, or_false, false_or, and_self, z_i2l, z_l2i, lo_nat, lo_add, lo_sub, lo_mul, lo_0, e_rem, mr_X10_leversMove, mh_X10_leversMove, sh, rf]
          refine c_tallies (k := 1) hR0 rfl (by omega) ?_
          simp (disch := omega) only [wp_c, wp_n, jj_n, Int.reduceToNat, Int.toNat_natCast, stE, wlE, lgt, lpu, lpw, v_c2, va_s, true_and, and_true, Option.toList, List.nil_append, List.cons_append, List.take, List.drop, List.reverse, List.reverseAux, List.length_cons, List.length_nil, reduceCtorEq, false_implies, true_implies, forall_const, not_true_eq_false, not_false_eq_true, ite_true, ite_false, Bool.false_eq_true, I_I, J_J, Nat.add_left_cancel_iff, Nat.reduceEqDiff, Nat.add_eq_left, Nat.left_eq_add, false_and, and_false, Nat.reduceSub, Nat.sub_self, Nat.le_refl, Nat.zero_le, ge_iff_le, Nat.reduceAdd, Nat.reduceLeDiff, Nat.zero_add, Nat.reduceLT, z_lt, z_le, z_eq, z_l0, z_g0, z_le0, z_ge0, z_e0, z_e1, z_vp, z_nc, z_rem, z_div, i_ltT, i_ltF, i_leT, i_leF, i_eqT, i_eqF, n_ltT, n_ltF, n_leT, n_leF, n_eqT, n_eqF, tn_9, tn_12, tn_14, tn_20, tn_28, tn_44, tn_52, tn_68, tn_84, tn_100, tn_116, tn_132, fu_e, up_eq, ob_0, ob_b, oi_add, oi_sub, oi_mul, oi_neg, rs_sh, rs_R, rs_N, rs_J, rs_F, rs_A, rs_o, rs_wA, rs_wF, rs_w, Int.add_zero, Int.zero_add, or_true, true_or, or_false, false_or, and_self, z_i2l, z_l2i, lo_nat, lo_add, lo_sub, lo_mul, lo_0, e_rem, mr_X10_leversMove, mh_X10_leversMove, sh, rf]
          refine rt_X10_leversMove_103 ?_
          simp (disch := omega) only [wp_c, wp_n, jj_n, Int.reduceToNat, Int.toNat_natCast, stE, wlE, lgt, lpu, lpw, v_c2, va_s, true_and, and_true, Option.toList, List.nil_append, List.cons_append, List.take, List.drop, List.reverse, List.reverseAux, List.length_cons, List.length_nil, reduceCtorEq, false_implies, true_implies, forall_const, not_true_eq_false, not_false_eq_true, ite_true, ite_false, Bool.false_eq_true, I_I, J_J, Nat.add_left_cancel_iff, Nat.reduceEqDiff, Nat.add_eq_left, Nat.left_eq_add, false_and, and_false, Nat.reduceSub, Nat.sub_self, Nat.le_refl, Nat.zero_le, ge_iff_le, Nat.reduceAdd, Nat.reduceLeDiff, Nat.zero_add, Nat.reduceLT, z_lt, z_le, z_eq, z_l0, z_g0, z_le0, z_ge0, z_e0, z_e1, z_vp, z_nc, z_rem, z_div, i_ltT, i_ltF, i_leT, i_leF, i_eqT, i_eqF, n_ltT, n_ltF, n_leT, n_leF, n_eqT, n_eqF, tn_9, tn_12, tn_14, tn_20, tn_28, tn_44, tn_52, tn_68, tn_84, tn_100, tn_116, tn_132, fu_e, up_eq, ob_0, ob_b, oi_add, oi_sub, oi_mul, oi_neg, rs_sh, rs_R, rs_N, rs_J, rs_F, rs_A, rs_o, rs_wA, rs_wF, rs_w, Int.add_zero, Int.zero_add, or_true, true_or, or_false, false_or, and_self, z_i2l, z_l2i, lo_nat, lo_add, lo_sub, lo_mul, lo_0, e_rem, mr_X10_leversMove, mh_X10_leversMove, sh, rf]
          refine rt_X10_leversMove_113 ?_
          simp (disch := omega) only [wp_c, wp_n, jj_n, Int.reduceToNat, Int.toNat_natCast, stE, wlE, lgt, lpu, lpw, v_c2, va_s, true_and, and_true, Option.toList, List.nil_append, List.cons_append, List.take, List.drop, List.reverse, List.reverseAux, List.length_cons, List.length_nil, reduceCtorEq, false_implies, true_implies, forall_const, not_true_eq_false, not_false_eq_true, ite_true, ite_false, Bool.false_eq_true, I_I, J_J, Nat.add_left_cancel_iff, Nat.reduceEqDiff, Nat.add_eq_left, Nat.left_eq_add, false_and, and_false, Nat.reduceSub, Nat.sub_self, Nat.le_refl, Nat.zero_le, ge_iff_le, Nat.reduceAdd, Nat.reduceLeDiff, Nat.zero_add, Nat.reduceLT, z_lt, z_le, z_eq, z_l0, z_g0, z_le0, z_ge0, z_e0, z_e1, z_vp, z_nc, z_rem, z_div, i_ltT, i_ltF, i_leT, i_leF, i_eqT, i_eqF, n_ltT, n_ltF, n_leT, n_leF, n_eqT, n_eqF, tn_9, tn_12, tn_14, tn_20, tn_28, tn_44, tn_52, tn_68, tn_84, tn_100, tn_116, tn_132, fu_e, up_eq, ob_0, ob_b, oi_add, oi_sub, oi_mul, oi_neg, rs_sh, rs_R, rs_N, rs_J, rs_F, rs_A, rs_o, rs_wA, rs_wF, rs_w, Int.add_zero, Int.zero_add, or_true, true_or, or_false, false_or, and_self, z_i2l, z_l2i, lo_nat, lo_add, lo_sub, lo_mul, lo_0, e_rem, mr_X10_leversMove, mh_X10_leversMove, sh, rf]
          refine rt_X10_leversMove_128 ?_
          simp (disch := omega) only [wp_c, wp_n, jj_n, Int.reduceToNat, Int.toNat_natCast, stE, wlE, lgt, lpu, lpw, v_c2, va_s, true_and, and_true, Option.toList, List.nil_append, List.cons_append, List.take, List.drop, List.reverse, List.reverseAux, List.length_cons, List.length_nil, reduceCtorEq, false_implies, true_implies, forall_const, not_true_eq_false, not_false_eq_true, ite_true, ite_false, Bool.false_eq_true, I_I, J_J, Nat.add_left_cancel_iff, Nat.reduceEqDiff, Nat.add_eq_left, Nat.left_eq_add, false_and, and_false, Nat.reduceSub, Nat.sub_self, Nat.le_refl, Nat.zero_le, ge_iff_le, Nat.reduceAdd, Nat.reduceLeDiff, Nat.zero_add, Nat.reduceLT, z_lt, z_le, z_eq, z_l0, z_g0, z_le0, z_ge0, z_e0, z_e1, z_vp, z_nc, z_rem, z_div, i_ltT, i_ltF, i_leT, i_leF, i_eqT, i_eqF, n_ltT, n_ltF, n_leT, n_leF, n_eqT, n_eqF, tn_9, tn_12, tn_14, tn_20, tn_28, tn_44, tn_52, tn_68, tn_84, tn_100, tn_116, tn_132, fu_e, up_eq, ob_0, ob_b, oi_add, oi_sub, oi_mul, oi_neg, rs_sh, rs_R, rs_N, rs_J, rs_F, rs_A, rs_o, rs_wA, rs_wF, rs_w, Int.add_zero, Int.zero_add, or_true, true_or, or_false, false_or, and_self, z_i2l, z_l2i, lo_nat, lo_add, lo_sub, lo_mul, lo_0, e_rem, mr_X10_leversMove, mh_X10_leversMove, sh, rf]
          have hB1 : up (a_tal (a_mv A (wh + 1) 1) 1) (52 + wh) 0 1 = A 1 := by rw [up_eq, if_neg (by omega), tal_s _ _ _ (by omega) (by omega), mv_s _ _ _ _ (by omega) (by omega)]
          have hBI : TI (up (a_tal (a_mv A (wh + 1) 1) 1) (52 + wh) 0) := ((hI.mv (by omega) ⟨by omega, by omega⟩).tal (by omega)).lev ⟨by omega, by omega⟩ (by omega)
          have hend : ∀ z : Int32, 0 ≤ z → RLQ r w F Q (a_lev n (up (a_tal (a_mv A (wh + 1) 1) 1) (52 + wh) 0) (wh + 1) (G 4 + Int32.ofInt 1) z) → RT n_X10_leversMove 154 [.ref r, .int x, .int (Int32.ofInt wh), .int (Int32.ofInt 1)] [.int z, .ref r] (rs r w (up (a_tal (a_mv A (wh + 1) 1) 1) (52 + wh) 0) (upd G 4 (G 4 + Int32.ofInt 1))) (0, 0, false) Q := by
            intro z hz hqz
            refine rt_X10_leversMove_154 ?_
            simp (disch := omega) only [wp_c, wp_n, jj_n, Int.reduceToNat, Int.toNat_natCast, stE, wlE, lgt, lpu, lpw, v_c2, va_s, true_and, and_true, Option.toList, List.nil_append, List.cons_append, List.take, List.drop, List.reverse, List.reverseAux, List.length_cons, List.length_nil, reduceCtorEq, false_implies, true_implies, forall_const, not_true_eq_false, not_false_eq_true, ite_true, ite_false, Bool.false_eq_true, I_I, J_J, Nat.add_left_cancel_iff, Nat.reduceEqDiff, Nat.add_eq_left, Nat.left_eq_add, false_and, and_false, Nat.reduceSub, Nat.sub_self, Nat.le_refl, Nat.zero_le, ge_iff_le, Nat.reduceAdd, Nat.reduceLeDiff, Nat.zero_add, Nat.reduceLT, z_lt, z_le, z_eq, z_l0, z_g0, z_le0, z_ge0, z_e0, z_e1, z_vp, z_nc, z_rem, z_div, i_ltT, i_ltF, i_leT, i_leF, i_eqT, i_eqF, n_ltT, n_ltF, n_leT, n_leF, n_eqT, n_eqF, tn_9, tn_12, tn_14, tn_20, tn_28, tn_44, tn_52, tn_68, tn_84, tn_100, tn_116, tn_132, fu_e, up_eq, ob_0, ob_b, oi_add, oi_sub, oi_mul, oi_neg, rs_sh, rs_R, rs_N, rs_J, rs_F, rs_A, rs_o, rs_wA, rs_wF, rs_w, Int.add_zero, Int.zero_add, or_true, true_or, or_false, false_or, and_self, z_i2l, z_l2i, lo_nat, lo_add, lo_sub, lo_mul, lo_0, e_rem, mr_X10_leversMove, mh_X10_leversMove, sh, rf]
            refine ih _ (upd (upd G 4 (G 4 + Int32.ofInt 1)) 5 z) (wh + 1) _ (by omega) hBI (fun i h1 h2 => ?_) hz hqz
            rw [fu_e, if_neg h2, fu_e, if_neg h1]; exact hG i h1 h2
          refine ⟨fun hle => ?_, fun hle => ?_⟩
          · rw [if_neg (Int32.not_lt.mpr hle)] at hq
            refine rt_X10_leversMove_150 ?_
            simp (disch := omega) only [wp_c, wp_n, jj_n, Int.reduceToNat, Int.toNat_natCast, stE, wlE, lgt, lpu, lpw, v_c2, va_s, true_and, and_true, Option.toList, List.nil_append, List.cons_append, List.take, List.drop, List.reverse, List.reverseAux, List.length_cons, List.length_nil, reduceCtorEq, false_implies, true_implies, forall_const, not_true_eq_false, not_false_eq_true, ite_true, ite_false, Bool.false_eq_true, I_I, J_J, Nat.add_left_cancel_iff, Nat.reduceEqDiff, Nat.add_eq_left, Nat.left_eq_add, false_and, and_false, Nat.reduceSub, Nat.sub_self, Nat.le_refl, Nat.zero_le, ge_iff_le, Nat.reduceAdd, Nat.reduceLeDiff, Nat.zero_add, Nat.reduceLT, z_lt, z_le, z_eq, z_l0, z_g0, z_le0, z_ge0, z_e0, z_e1, z_vp, z_nc, z_rem, z_div, i_ltT, i_ltF, i_leT, i_leF, i_eqT, i_eqF, n_ltT, n_ltF, n_leT, n_leF, n_eqT, n_eqF, tn_9, tn_12, tn_14, tn_20, tn_28, tn_44, tn_52, tn_68, tn_84, tn_100, tn_116, tn_132, fu_e, up_eq, ob_0, ob_b, oi_add, oi_sub, oi_mul, oi_neg, rs_sh, rs_R, rs_N, rs_J, rs_F, rs_A, rs_o, rs_wA, rs_wF, rs_w, Int.add_zero, Int.zero_add, or_true, true_or, or_false, false_or, and_self, z_i2l, z_l2i, lo_nat, lo_add, lo_sub, lo_mul, lo_0, e_rem, mr_X10_leversMove, mh_X10_leversMove, sh, rf]
            exact hend _ hl hq
          · rw [if_pos (Int32.not_le.mp hle)] at hq
            exact hend _ (Int32.le_trans hl (Int32.le_of_lt (Int32.not_le.mp hle))) hq
        · rw [if_pos (by omega)] at hq
          refine c_jams hR0 ?_
          simp (disch := omega) only [wp_c, wp_n, jj_n, Int.reduceToNat, Int.toNat_natCast, stE, wlE, lgt, lpu, lpw, v_c2, va_s, true_and, and_true, Option.toList, List.nil_append, List.cons_append, List.take, List.drop, List.reverse, List.reverseAux, List.length_cons, List.length_nil, reduceCtorEq, false_implies, true_implies, forall_const, not_true_eq_false, not_false_eq_true, ite_true, ite_false, Bool.false_eq_true, I_I, J_J, Nat.add_left_cancel_iff, Nat.reduceEqDiff, Nat.add_eq_left, Nat.left_eq_add, false_and, and_false, Nat.reduceSub, Nat.sub_self, Nat.le_refl, Nat.zero_le, ge_iff_le, Nat.reduceAdd, Nat.reduceLeDiff, Nat.zero_add, Nat.reduceLT, z_lt, z_le, z_eq, z_l0, z_g0, z_le0, z_ge0, z_e0, z_e1, z_vp, z_nc, z_rem, z_div, i_ltT, i_ltF, i_leT, i_leF, i_eqT, i_eqF, n_ltT, n_ltF, n_leT, n_leF, n_eqT, n_eqF, tn_9, tn_12, tn_14, tn_20, tn_28, tn_44, tn_52, tn_68, tn_84, tn_100, tn_116, tn_132, fu_e, up_eq, ob_0, ob_b, oi_add, oi_sub, oi_mul, oi_neg, rs_sh, rs_R, rs_N, rs_J, rs_F, rs_A, rs_o, rs_wA, rs_wF, rs_w, Int.add_zero, Int.zero_add, or_true, true_or, or_false, false_or, and_self, z_i2l, z_l2i, lo_nat, lo_add, lo_sub, lo_mul, lo_0, e_rem, mr_X10_leversMove, mh_X10_leversMove, sh, rf]
          rw [jm_c]; exact hq G hG rfl
      · rw [if_pos (by omega)] at hq
        refine c_tallies (k := 0) hR0 rfl (by omega) ?_
        simp (disch := omega) only [wp_c, wp_n, jj_n, Int.reduceToNat, Int.toNat_natCast, stE, wlE, lgt, lpu, lpw, v_c2, va_s, true_and, and_true, Option.toList, List.nil_append, List.cons_append, List.take, List.drop, List.reverse, List.reverseAux, List.length_cons, List.length_nil, reduceCtorEq, false_implies, true_implies, forall_const, not_true_eq_false, not_false_eq_true, ite_true, ite_false, Bool.false_eq_true, I_I, J_J, Nat.add_left_cancel_iff, Nat.reduceEqDiff, Nat.add_eq_left, Nat.left_eq_add, false_and, and_false, Nat.reduceSub, Nat.sub_self, Nat.le_refl, Nat.zero_le, ge_iff_le, Nat.reduceAdd, Nat.reduceLeDiff, Nat.zero_add, Nat.reduceLT, z_lt, z_le, z_eq, z_l0, z_g0, z_le0, z_ge0, z_e0, z_e1, z_vp, z_nc, z_rem, z_div, i_ltT, i_ltF, i_leT, i_leF, i_eqT, i_eqF, n_ltT, n_ltF, n_leT, n_leF, n_eqT, n_eqF, tn_9, tn_12, tn_14, tn_20, tn_28, tn_44, tn_52, tn_68, tn_84, tn_100, tn_116, tn_132, fu_e, up_eq, ob_0, ob_b, oi_add, oi_sub, oi_mul, oi_neg, rs_sh, rs_R, rs_N, rs_J, rs_F, rs_A, rs_o, rs_wA, rs_wF, rs_w, Int.add_zero, Int.zero_add, or_true, true_or, or_false, false_or, and_self, z_i2l, z_l2i, lo_nat, lo_add, lo_sub, lo_mul, lo_0, e_rem, mr_X10_leversMove, mh_X10_leversMove, sh, rf]
        have hn0 : n = 0 := by omega
        subst hn0
        exact h103 _ (tal_s _ _ _ (by omega) (by omega)) (hI.tal (by omega)) hq
theorem c_leversMove {r wh n : Nat} {v : Int} {w : mW} {A : Row} {F : Nat → Int32} {Q : mW → mO → Prop} (hR : Rb w r) (hv : v = (wh : Int)) (hn : (wh : Int) + n = A 1) (hI : TI A) (hl : 0 ≤ F 5) (hq : RLQ r w F Q (a_lev n A wh (F 4) (F 5))) : CT n_X10_leversMove [.ref r, .int (Int32.ofInt v)] (rs r w A F) Q := by
  subst hv
  refine ct_X10_leversMove (rt_X10_leversMove_0 ?_)
  simp (disch := omega) only [wp_c, wp_n, jj_n, Int.reduceToNat, Int.toNat_natCast, stE, wlE, lgt, lpu, lpw, v_c2, va_s, true_and, and_true, Option.toList, List.nil_append, List.cons_append, List.take, List.drop, List.reverse, List.reverseAux, List.length_cons, List.length_nil, reduceCtorEq, false_implies, true_implies, forall_const, not_true_eq_false, not_false_eq_true, ite_true, ite_false, Bool.false_eq_true, I_I, J_J, Nat.add_left_cancel_iff, Nat.reduceEqDiff, Nat.add_eq_left, Nat.left_eq_add, false_and, and_false, Nat.reduceSub, Nat.sub_self, Nat.le_refl, Nat.zero_le, ge_iff_le, Nat.reduceAdd, Nat.reduceLeDiff, Nat.zero_add, Nat.reduceLT, z_lt, z_le, z_eq, z_l0, z_g0, z_le0, z_ge0, z_e0, z_e1, z_vp, z_nc, z_rem, z_div, i_ltT, i_ltF, i_leT, i_leF, i_eqT, i_eqF, n_ltT, n_ltF, n_leT, n_leF, n_eqT, n_eqF, tn_9, tn_12, tn_14, tn_20, tn_28, tn_44, tn_52, tn_68, tn_84, tn_100, tn_116, tn_132, fu_e, up_eq, ob_0, ob_b, oi_add, oi_sub, oi_mul, oi_neg, rs_sh, rs_R, rs_N, rs_J, rs_F, rs_A, rs_o, rs_wA, rs_wF, rs_w, Int.add_zero, Int.zero_add, or_true, true_or, or_false, false_or, and_self, z_i2l, z_l2i, lo_nat, lo_add, lo_sub, lo_mul, lo_0, e_rem, mr_X10_leversMove, mh_X10_leversMove]
  exact c_leversMove_2 hR n A F wh _ hn hI (fun _ _ _ => rfl) hl hq
