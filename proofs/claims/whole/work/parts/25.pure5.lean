/-! Arrays.fill -/
theorem c_fill_5 {a n : Nat} {x : Int32} {Q : mW → mO → Prop} (hn : n ≤ 1000) : ∀ (m k : Nat) (w : mW), k + m = n → w_sh w a = (1, n) → (∀ i, i < k → w_I w a i = x) → (∀ w', (∀ i, i < n → w_I w' a i = x) → Fr [a] w w' → Q w' (.inl none)) →
    RT n_J7_fill_53178 5 [.ref a, .int x, .int (Int32.ofInt k), .int (Int32.ofInt n)] [] w (0, 0, false) Q := by
  intro m
  induction m with
  | zero =>
    intro k w hk hs hx hq
    have hR : inR (k : Int) := ⟨by omega, by omega⟩
    have hRn : inR (n : Int) := ⟨by omega, by omega⟩
    refine rt_J7_fill_53178_5 ?_
    simp only [wp_c, wp_n, jj_n, Int.reduceToNat, Int.toNat_natCast, stE, wlE, lgt, lpu, lpw, v_c2, va_s, true_and, and_true, Option.toList, List.nil_append, List.cons_append, List.take, List.drop, List.reverse, List.reverseAux, List.length_cons, List.length_nil, reduceCtorEq, false_implies, true_implies, forall_const, not_true_eq_false, not_false_eq_true, ite_true, ite_false, Bool.false_eq_true, I_I, J_J, Nat.add_left_cancel_iff, Nat.reduceEqDiff, Nat.add_eq_left, Nat.left_eq_add, false_and, and_false, Nat.reduceSub, Nat.sub_self, Nat.le_refl, Nat.zero_le, ge_iff_le, Nat.reduceAdd, Nat.reduceLeDiff, Nat.zero_add, Nat.reduceLT, oi_le hRn hR]
    refine ⟨fun _ => ?_, fun h => absurd (by omega) h⟩
    refine rt_J7_fill_53178_20 ?_
    simp only [wp_c, wp_n, jj_n, Int.reduceToNat, Int.toNat_natCast, stE, wlE, lgt, lpu, lpw, v_c2, va_s, true_and, and_true, Option.toList, List.nil_append, List.cons_append, List.take, List.drop, List.reverse, List.reverseAux, List.length_cons, List.length_nil, reduceCtorEq, false_implies, true_implies, forall_const, not_true_eq_false, not_false_eq_true, ite_true, ite_false, Bool.false_eq_true, I_I, J_J, Nat.add_left_cancel_iff, Nat.reduceEqDiff, Nat.add_eq_left, Nat.left_eq_add, false_and, and_false, Nat.reduceSub, Nat.sub_self, Nat.le_refl, Nat.zero_le, ge_iff_le, Nat.reduceAdd, Nat.reduceLeDiff, Nat.zero_add, Nat.reduceLT]
    exact hq w (fun i hi => hx i (by omega)) (Fr.refl _ _)
  | succ m ih =>
    intro k w hk hs hx hq
    have hR : inR (k : Int) := ⟨by omega, by omega⟩
    have hRn : inR (n : Int) := ⟨by omega, by omega⟩
    refine rt_J7_fill_53178_5 ?_
    simp only [wp_c, wp_n, jj_n, Int.reduceToNat, Int.toNat_natCast, stE, wlE, lgt, lpu, lpw, v_c2, va_s, true_and, and_true, Option.toList, List.nil_append, List.cons_append, List.take, List.drop, List.reverse, List.reverseAux, List.length_cons, List.length_nil, reduceCtorEq, false_implies, true_implies, forall_const, not_true_eq_false, not_false_eq_true, ite_true, ite_false, Bool.false_eq_true, I_I, J_J, Nat.add_left_cancel_iff, Nat.reduceEqDiff, Nat.add_eq_left, Nat.left_eq_add, false_and, and_false, Nat.reduceSub, Nat.sub_self, Nat.le_refl, Nat.zero_le, ge_iff_le, Nat.reduceAdd, Nat.reduceLeDiff, Nat.zero_add, Nat.reduceLT, hs, oi_le hRn hR, vp_oi hR, oi_nc hR, oi_add]
    refine ⟨fun h => absurd h (by omega), fun _ => ⟨by omega, ?_⟩⟩
    have f : Fr [a] w (s_I w a k x) := (Fr.refl _ _).I (by simp)
    refine ih (k + 1) (s_I w a k x) (by omega) hs (fun i hi => ?_) (fun w' q1 q2 => hq w' q1 (f.trans q2 (fun _ q => q) (fun _ q => q)))
    rw [I_I]
    by_cases h : i = k
    · rw [if_pos ⟨rfl, h⟩]
    · rw [if_neg (fun q => h q.2)]; exact hx i (by omega)
theorem c_fill {a n : Nat} {x : Int32} {w : mW} {Q : mW → mO → Prop} (hn : n ≤ 1000) (hs : w_sh w a = (1, n)) (hq : ∀ w', (∀ i, i < n → w_I w' a i = x) → Fr [a] w w' → Q w' (.inl none)) : CT n_J7_fill_53178 [.ref a, .int x] w Q := by
  refine ct_J7_fill_53178 (rt_J7_fill_53178_0 ?_)
  simp only [wp_c, wp_n, jj_n, Int.reduceToNat, Int.toNat_natCast, stE, wlE, lgt, lpu, lpw, v_c2, va_s, true_and, and_true, Option.toList, List.nil_append, List.cons_append, List.take, List.drop, List.reverse, List.reverseAux, List.length_cons, List.length_nil, reduceCtorEq, false_implies, true_implies, forall_const, not_true_eq_false, not_false_eq_true, ite_true, ite_false, Bool.false_eq_true, I_I, J_J, Nat.add_left_cancel_iff, Nat.reduceEqDiff, Nat.add_eq_left, Nat.left_eq_add, false_and, and_false, Nat.reduceSub, Nat.sub_self, Nat.le_refl, Nat.zero_le, ge_iff_le, Nat.reduceAdd, Nat.reduceLeDiff, Nat.zero_add, Nat.reduceLT, hs, oi_nat]
  exact c_fill_5 hn n 0 w (by omega) hs (fun i hi => absurd hi (by omega)) hq
/-! a new machine -/
def n_row : Row := fun j => if j = 0 then 4 else if j = 1 then 8 else if j = 2 then 4 else if j = 3 then 16 else 0
theorem n_row0 (j : Nat) (h : 4 ≤ j) : n_row j = 0 := by
  unfold n_row; rw [if_neg (by omega), if_neg (by omega), if_neg (by omega), if_neg (by omega)]
theorem c_makeNew {b : Nat} {w : mW} {Q : mW → mO → Prop} (hM : Mb w b) (hq : ∀ w', MS w' b n_row → FrM b w w' → Q w' (.inl none)) : CT n_X2_makeNew [.ref b] w Q := by
  have hM0 := hM
  obtain ⟨⟨s0, s1, s2, s3, s4, s5, s6, s7, s8, s9, s10, s11⟩, r6, r7, r8, r9, r10, r11, r12, r13, q2, q10, q11⟩ := hM
  refine ct_X2_makeNew (rt_X2_makeNew_0 ?_)
  simp only [wp_c, wp_n, jj_n, Int.reduceToNat, Int.toNat_natCast, stE, wlE, lgt, lpu, lpw, v_c2, va_s, true_and, and_true, Option.toList, List.nil_append, List.cons_append, List.take, List.drop, List.reverse, List.reverseAux, List.length_cons, List.length_nil, reduceCtorEq, false_implies, true_implies, forall_const, not_true_eq_false, not_false_eq_true, ite_true, ite_false, Bool.false_eq_true, I_I, J_J, Nat.add_left_cancel_iff, Nat.reduceEqDiff, Nat.add_eq_left, Nat.left_eq_add, false_and, and_false, Nat.reduceSub, Nat.sub_self, Nat.le_refl, Nat.zero_le, ge_iff_le, Nat.reduceAdd, Nat.reduceLeDiff, Nat.zero_add, Nat.reduceLT, s0, r6, mh_X2_makeNew]
  have f0 : Fr [b] w (s_J (s_I (s_I (s_I (s_I (s_I w b 0 (Int32.ofInt 4)) b 1 (Int32.ofInt 8)) b 2 (Int32.ofInt 4)) b 3 (Int32.ofInt 16)) b 4 (Int32.ofInt 0)) b 5 0) := ((((((Fr.refl _ _).I (by simp)).I (by simp)).I (by simp)).I (by simp)).I (by simp)).J (by simp)
  have v0 : ∀ i, i < 5 → w_I (s_J (s_I (s_I (s_I (s_I (s_I w b 0 (Int32.ofInt 4)) b 1 (Int32.ofInt 8)) b 2 (Int32.ofInt 4)) b 3 (Int32.ofInt 16)) b 4 (Int32.ofInt 0)) b 5 0) b i = Int32.ofInt (n_row i) := by
    intro i hi
    rcases (show i = 0 ∨ i = 1 ∨ i = 2 ∨ i = 3 ∨ i = 4 by omega) with rfl | rfl | rfl | rfl | rfl <;> simp only [wp_c, wp_n, jj_n, Int.reduceToNat, Int.toNat_natCast, stE, wlE, lgt, lpu, lpw, v_c2, va_s, true_and, and_true, Option.toList, List.nil_append, List.cons_append, List.take, List.drop, List.reverse, List.reverseAux, List.length_cons, List.length_nil, reduceCtorEq, false_implies, true_implies, forall_const, not_true_eq_false, not_false_eq_true, ite_true, ite_false, Bool.false_eq_true, I_I, J_J, Nat.add_left_cancel_iff, Nat.reduceEqDiff, Nat.add_eq_left, Nat.left_eq_add, false_and, and_false, Nat.reduceSub, Nat.sub_self, Nat.le_refl, Nat.zero_le, ge_iff_le, Nat.reduceAdd, Nat.reduceLeDiff, Nat.zero_add, Nat.reduceLT] <;> rfl
  have vJ : w_J (s_J (s_I (s_I (s_I (s_I (s_I w b 0 (Int32.ofInt 4)) b 1 (Int32.ofInt 8)) b 2 (Int32.ofInt 4)) b 3 (Int32.ofInt 16)) b 4 (Int32.ofInt 0)) b 5 0) b 5 = Int64.ofInt 0 := by
    rw [J_J, if_pos ⟨rfl, rfl⟩]; rfl
  generalize s_J (s_I (s_I (s_I (s_I (s_I w b 0 (Int32.ofInt 4)) b 1 (Int32.ofInt 8)) b 2 (Int32.ofInt 4)) b 3 (Int32.ofInt 16)) b 4 (Int32.ofInt 0)) b 5 0 = w0 at f0 v0 vJ
  refine c_fill (n := 8) (by omega) (by rw [f0.1]; exact s1) fun w1 g1 f1 => ?_
  have h1 := f0.trans f1 (l'' := [b, b + 1]) (by simp) (by simp)
  simp only [wp_c, wp_n, jj_n, Int.reduceToNat, Int.toNat_natCast, stE, wlE, lgt, lpu, lpw, v_c2, va_s, true_and, and_true, Option.toList, List.nil_append, List.cons_append, List.take, List.drop, List.reverse, List.reverseAux, List.length_cons, List.length_nil, reduceCtorEq, false_implies, true_implies, forall_const, not_true_eq_false, not_false_eq_true, ite_true, ite_false, Bool.false_eq_true, I_I, J_J, Nat.add_left_cancel_iff, Nat.reduceEqDiff, Nat.add_eq_left, Nat.left_eq_add, false_and, and_false, Nat.reduceSub, Nat.sub_self, Nat.le_refl, Nat.zero_le, ge_iff_le, Nat.reduceAdd, Nat.reduceLeDiff, Nat.zero_add, Nat.reduceLT, h1.1, h1.2.1, s0, r7, mh_X2_makeNew]
  refine c_fill (n := 16) (by omega) (by rw [h1.1]; exact s2) fun w2 g2 f2 => ?_
  have h2 := h1.trans f2 (l'' := [b, b + 1, b + 2]) (by simp) (by simp)
  simp only [wp_c, wp_n, jj_n, Int.reduceToNat, Int.toNat_natCast, stE, wlE, lgt, lpu, lpw, v_c2, va_s, true_and, and_true, Option.toList, List.nil_append, List.cons_append, List.take, List.drop, List.reverse, List.reverseAux, List.length_cons, List.length_nil, reduceCtorEq, false_implies, true_implies, forall_const, not_true_eq_false, not_false_eq_true, ite_true, ite_false, Bool.false_eq_true, I_I, J_J, Nat.add_left_cancel_iff, Nat.reduceEqDiff, Nat.add_eq_left, Nat.left_eq_add, false_and, and_false, Nat.reduceSub, Nat.sub_self, Nat.le_refl, Nat.zero_le, ge_iff_le, Nat.reduceAdd, Nat.reduceLeDiff, Nat.zero_add, Nat.reduceLT, h2.1, h2.2.1, s0, r8, mh_X2_makeNew]
  refine c_fill (n := 8) (by omega) (by rw [h2.1]; exact s3) fun w3 g3 f3 => ?_
  have h3 := h2.trans f3 (l'' := [b, b + 1, b + 2, b + 3]) (by simp) (by simp)
  simp only [wp_c, wp_n, jj_n, Int.reduceToNat, Int.toNat_natCast, stE, wlE, lgt, lpu, lpw, v_c2, va_s, true_and, and_true, Option.toList, List.nil_append, List.cons_append, List.take, List.drop, List.reverse, List.reverseAux, List.length_cons, List.length_nil, reduceCtorEq, false_implies, true_implies, forall_const, not_true_eq_false, not_false_eq_true, ite_true, ite_false, Bool.false_eq_true, I_I, J_J, Nat.add_left_cancel_iff, Nat.reduceEqDiff, Nat.add_eq_left, Nat.left_eq_add, false_and, and_false, Nat.reduceSub, Nat.sub_self, Nat.le_refl, Nat.zero_le, ge_iff_le, Nat.reduceAdd, Nat.reduceLeDiff, Nat.zero_add, Nat.reduceLT, h3.1, h3.2.1, s0, r9, mh_X2_makeNew]
  refine c_fill (n := 16) (by omega) (by rw [h3.1]; exact s4) fun w4 g4 f4 => ?_
  have h4 := h3.trans f4 (l'' := [b, b + 1, b + 2, b + 3, b + 4]) (by simp) (by simp)
  simp only [wp_c, wp_n, jj_n, Int.reduceToNat, Int.toNat_natCast, stE, wlE, lgt, lpu, lpw, v_c2, va_s, true_and, and_true, Option.toList, List.nil_append, List.cons_append, List.take, List.drop, List.reverse, List.reverseAux, List.length_cons, List.length_nil, reduceCtorEq, false_implies, true_implies, forall_const, not_true_eq_false, not_false_eq_true, ite_true, ite_false, Bool.false_eq_true, I_I, J_J, Nat.add_left_cancel_iff, Nat.reduceEqDiff, Nat.add_eq_left, Nat.left_eq_add, false_and, and_false, Nat.reduceSub, Nat.sub_self, Nat.le_refl, Nat.zero_le, ge_iff_le, Nat.reduceAdd, Nat.reduceLeDiff, Nat.zero_add, Nat.reduceLT, h4.1, h4.2.1, s0, r10, mh_X2_makeNew]
  refine c_fill (n := 16) (by omega) (by rw [h4.1]; exact s5) fun w5 g5 f5 => ?_
  have h5 := h4.trans f5 (l'' := [b, b + 1, b + 2, b + 3, b + 4, b + 5]) (by simp) (by simp)
  simp only [wp_c, wp_n, jj_n, Int.reduceToNat, Int.toNat_natCast, stE, wlE, lgt, lpu, lpw, v_c2, va_s, true_and, and_true, Option.toList, List.nil_append, List.cons_append, List.take, List.drop, List.reverse, List.reverseAux, List.length_cons, List.length_nil, reduceCtorEq, false_implies, true_implies, forall_const, not_true_eq_false, not_false_eq_true, ite_true, ite_false, Bool.false_eq_true, I_I, J_J, Nat.add_left_cancel_iff, Nat.reduceEqDiff, Nat.add_eq_left, Nat.left_eq_add, false_and, and_false, Nat.reduceSub, Nat.sub_self, Nat.le_refl, Nat.zero_le, ge_iff_le, Nat.reduceAdd, Nat.reduceLeDiff, Nat.zero_add, Nat.reduceLT, h5.1, h5.2.1, s0, r11, mh_X2_makeNew]
  refine c_fill (n := 6) (by omega) (by rw [h5.1]; exact s6) fun w6 g6 f6 => ?_
  have h6 := h5.trans f6 (l'' := [b, b + 1, b + 2, b + 3, b + 4, b + 5, b + 6]) (by simp) (by simp)
  simp only [wp_c, wp_n, jj_n, Int.reduceToNat, Int.toNat_natCast, stE, wlE, lgt, lpu, lpw, v_c2, va_s, true_and, and_true, Option.toList, List.nil_append, List.cons_append, List.take, List.drop, List.reverse, List.reverseAux, List.length_cons, List.length_nil, reduceCtorEq, false_implies, true_implies, forall_const, not_true_eq_false, not_false_eq_true, ite_true, ite_false, Bool.false_eq_true, I_I, J_J, Nat.add_left_cancel_iff, Nat.reduceEqDiff, Nat.add_eq_left, Nat.left_eq_add, false_and, and_false, Nat.reduceSub, Nat.sub_self, Nat.le_refl, Nat.zero_le, ge_iff_le, Nat.reduceAdd, Nat.reduceLeDiff, Nat.zero_add, Nat.reduceLT, h6.1, h6.2.1, s0, s7, r12, mh_X2_makeNew]
  refine ct_X8_forgetAll (rt_X8_forgetAll_0 ?_)
  simp only [wp_c, wp_n, jj_n, Int.reduceToNat, Int.toNat_natCast, stE, wlE, lgt, lpu, lpw, v_c2, va_s, true_and, and_true, Option.toList, List.nil_append, List.cons_append, List.take, List.drop, List.reverse, List.reverseAux, List.length_cons, List.length_nil, reduceCtorEq, false_implies, true_implies, forall_const, not_true_eq_false, not_false_eq_true, ite_true, ite_false, Bool.false_eq_true, I_I, J_J, Nat.add_left_cancel_iff, Nat.reduceEqDiff, Nat.add_eq_left, Nat.left_eq_add, false_and, and_false, Nat.reduceSub, Nat.sub_self, Nat.le_refl, Nat.zero_le, ge_iff_le, Nat.reduceAdd, Nat.reduceLeDiff, Nat.zero_add, Nat.reduceLT, h6.1, h6.2.1, s0, s7, s9, r13, mh_X2_makeNew]
  have h7 : Fr [b, b + 1, b + 2, b + 3, b + 4, b + 5, b + 6, b + 7] w (s_I (s_I w6 (b + 7) 0 (Int32.ofInt 0)) (b + 7) 1 (Int32.ofInt 0)) := ((h6.mono (by simp)).I (by simp)).I (by simp)
  have p7 : Fr [b + 7] w6 (s_I (s_I w6 (b + 7) 0 (Int32.ofInt 0)) (b + 7) 1 (Int32.ofInt 0)) := ((Fr.refl _ _).I (by simp)).I (by simp)
  have l0 : w_I (s_I (s_I w6 (b + 7) 0 (Int32.ofInt 0)) (b + 7) 1 (Int32.ofInt 0)) (b + 7) 0 = Int32.ofInt 0 := by simp only [wp_c, wp_n, jj_n, Int.reduceToNat, Int.toNat_natCast, stE, wlE, lgt, lpu, lpw, v_c2, va_s, true_and, and_true, Option.toList, List.nil_append, List.cons_append, List.take, List.drop, List.reverse, List.reverseAux, List.length_cons, List.length_nil, reduceCtorEq, false_implies, true_implies, forall_const, not_true_eq_false, not_false_eq_true, ite_true, ite_false, Bool.false_eq_true, I_I, J_J, Nat.add_left_cancel_iff, Nat.reduceEqDiff, Nat.add_eq_left, Nat.left_eq_add, false_and, and_false, Nat.reduceSub, Nat.sub_self, Nat.le_refl, Nat.zero_le, ge_iff_le, Nat.reduceAdd, Nat.reduceLeDiff, Nat.zero_add, Nat.reduceLT]
  have l1 : w_I (s_I (s_I w6 (b + 7) 0 (Int32.ofInt 0)) (b + 7) 1 (Int32.ofInt 0)) (b + 7) 1 = Int32.ofInt 0 := by simp only [wp_c, wp_n, jj_n, Int.reduceToNat, Int.toNat_natCast, stE, wlE, lgt, lpu, lpw, v_c2, va_s, true_and, and_true, Option.toList, List.nil_append, List.cons_append, List.take, List.drop, List.reverse, List.reverseAux, List.length_cons, List.length_nil, reduceCtorEq, false_implies, true_implies, forall_const, not_true_eq_false, not_false_eq_true, ite_true, ite_false, Bool.false_eq_true, I_I, J_J, Nat.add_left_cancel_iff, Nat.reduceEqDiff, Nat.add_eq_left, Nat.left_eq_add, false_and, and_false, Nat.reduceSub, Nat.sub_self, Nat.le_refl, Nat.zero_le, ge_iff_le, Nat.reduceAdd, Nat.reduceLeDiff, Nat.zero_add, Nat.reduceLT]
  generalize s_I (s_I w6 (b + 7) 0 (Int32.ofInt 0)) (b + 7) 1 (Int32.ofInt 0) = w7 at h7 p7 l0 l1
  -- what lies where
  have p6 := f6.trans p7 (l'' := [b + 6, b + 7]) (by simp) (by simp)
  have p5 := f5.trans p6 (l'' := [b + 5, b + 6, b + 7]) (by simp) (by simp)
  have p4 := f4.trans p5 (l'' := [b + 4, b + 5, b + 6, b + 7]) (by simp) (by simp)
  have p3 := f3.trans p4 (l'' := [b + 3, b + 4, b + 5, b + 6, b + 7]) (by simp) (by simp)
  have p2 := f2.trans p3 (l'' := [b + 2, b + 3, b + 4, b + 5, b + 6, b + 7]) (by simp) (by simp)
  have p1 := f1.trans p2 (l'' := [b + 1, b + 2, b + 3, b + 4, b + 5, b + 6, b + 7]) (by simp) (by simp)
  have x0 : w_I w7 b = w_I w0 b := (p1.2.2.2 b (by simp)).1
  have xJ : w_J w7 b = w_J w0 b := (p1.2.2.2 b (by simp)).2
  have x1 : w_I w7 (b + 1) = w_I w1 (b + 1) := (p2.2.2.2 _ (by simp)).1
  have x2 : w_I w7 (b + 2) = w_I w2 (b + 2) := (p3.2.2.2 _ (by simp)).1
  have x3 : w_I w7 (b + 3) = w_I w3 (b + 3) := (p4.2.2.2 _ (by simp)).1
  have x4 : w_I w7 (b + 4) = w_I w4 (b + 4) := (p5.2.2.2 _ (by simp)).1
  have x5 : w_I w7 (b + 5) = w_I w5 (b + 5) := (p6.2.2.2 _ (by simp)).1
  have x6 : w_I w7 (b + 6) = w_I w6 (b + 6) := (p7.2.2.2 _ (by simp)).1
  obtain ⟨B, hB⟩ : ∃ B : Row, B = fun j => if 9 ≤ j ∧ j < 12 then (w_I w7 (b + 9) (j - 4)).toInt else if 52 ≤ j ∧ j < 68 then (w_I w7 (b + 10) (j - 52)).toInt else if 84 ≤ j ∧ j < 100 then (w_I w7 (b + 11) (j - 84)).toInt else n_row j := ⟨_, rfl⟩
  have b1 : ∀ j, ¬ (9 ≤ j ∧ j < 12) → ¬ (52 ≤ j ∧ j < 68) → ¬ (84 ≤ j ∧ j < 100) → B j = n_row j := fun j q1 q2 q3 => by rw [hB]; simp only; rw [if_neg q1, if_neg q2, if_neg q3]
  have b2 : ∀ j, j < 3 → B (9 + j) = (w_I w7 (b + 9) (5 + j)).toInt := fun j q => by rw [hB]; simp only; rw [if_pos (by omega)]; congr 2; omega
  have b3 : ∀ j, j < 16 → B (52 + j) = (w_I w7 (b + 10) j).toInt := fun j q => by rw [hB]; simp only; rw [if_neg (by omega), if_pos (by omega)]; congr 2; omega
  have b4 : ∀ j, j < 16 → B (84 + j) = (w_I w7 (b + 11) j).toInt := fun j q => by rw [hB]; simp only; rw [if_neg (by omega), if_neg (by omega), if_pos (by omega)]; congr 2; omega
  have hA : MemA w7 b B := by
    have z : ∀ i, i < 5 → w_I w7 b i = Int32.ofInt (B i) := fun i hi => by rw [x0, v0 i hi, b1 i (by omega) (by omega) (by omega)]
    refine ⟨⟨z 0 (by omega), z 1 (by omega), z 2 (by omega), z 3 (by omega), z 4 (by omega)⟩, fun j hj => ?_, fun j hj => ?_, fun j hj => ?_, fun j hj => ?_, fun j hj => ?_, fun j hj => ?_, ⟨?_, ?_, ?_⟩, fun j hj => ?_, fun j hj => ?_⟩
    · rw [x1, g1 j hj, b1 _ (by omega) (by omega) (by omega), n_row0 _ (by omega)]
    · rw [x2, g2 j hj, b1 _ (by omega) (by omega) (by omega), n_row0 _ (by omega)]
    · rw [x3, g3 j hj, b1 _ (by omega) (by omega) (by omega), n_row0 _ (by omega)]
    · rw [x4, g4 j hj, b1 _ (by omega) (by omega) (by omega), n_row0 _ (by omega)]
    · rw [x5, g5 j hj, b1 _ (by omega) (by omega) (by omega), n_row0 _ (by omega)]
    · rw [x6, g6 j hj, b1 _ (by omega) (by omega) (by omega), n_row0 _ (by omega)]
    · rw [b2 0 (by omega), Int32.ofInt_toInt]
    · rw [b2 1 (by omega), Int32.ofInt_toInt]
    · rw [b2 2 (by omega), Int32.ofInt_toInt]
    · rw [b3 j hj, Int32.ofInt_toInt]
    · rw [b4 j hj, Int32.ofInt_toInt]
  refine c_begin (dv := 0) (way := 1) (hM0.fr h7) hA (Or.inl rfl) fun w8 k1 k2 k3 => ?_
  simp only [wp_c, wp_n, jj_n, Int.reduceToNat, Int.toNat_natCast, stE, wlE, lgt, lpu, lpw, v_c2, va_s, true_and, and_true, Option.toList, List.nil_append, List.cons_append, List.take, List.drop, List.reverse, List.reverseAux, List.length_cons, List.length_nil, reduceCtorEq, false_implies, true_implies, forall_const, not_true_eq_false, not_false_eq_true, ite_true, ite_false, Bool.false_eq_true, I_I, J_J, Nat.add_left_cancel_iff, Nat.reduceEqDiff, Nat.add_eq_left, Nat.left_eq_add, false_and, and_false, Nat.reduceSub, Nat.sub_self, Nat.le_refl, Nat.zero_le, ge_iff_le, Nat.reduceAdd, Nat.reduceLeDiff, Nat.zero_add, Nat.reduceLT]
  have h8 := h7.trans k3 (l'' := [b, b + 1, b + 2, b + 3, b + 4, b + 5, b + 6, b + 7, b + 9, b + 10, b + 11]) (by simp) (by simp)
  have hrow : ∀ j, j < 116 → j ≠ 7 → a_beg B 1 j = n_row j := by
    intro j hj h7'
    by_cases q1 : (9 ≤ j ∧ j < 12) ∨ (52 ≤ j ∧ j < 68) ∨ (84 ≤ j ∧ j < 100)
    · rw [n_row0 j (by omega)]
      simp only [a_beg, up_eq, zr]
      rw [if_neg h7']
      split
      · rfl
      · split
        · rfl
        · split
          · rfl
          · split
            · rfl
            · omega
    · rw [beg_k _ _ _ (by omega), b1 _ (by omega) (by omega) (by omega)]
  refine hq w8 ⟨hM0.fr h8, ?_, ⟨0, by omega, ?_, ?_, ?_, ?_, fun i k hi hk => ?_⟩, ?_, 0, 1, 0, 0, Int32.ofInt 0, Int32.ofInt 0, ?_, Or.inl rfl, by decide, fun h => ?_⟩ (h8.toM (by simp))
  · refine MemA.row (A := up (a_beg B 1) 7 0) (k1.free (by omega)) (fun j hj h5 => ?_)
    rw [up_eq]
    split
    · rename_i e; rw [e, n_row0 _ (by omega)]
    · rename_i e; rw [hrow j hj e]
  · rw [n_row0 _ (by omega)]; omega
  · rw [n_row0 _ (by omega)]; omega
  · rw [(k3.2.2.2 (b + 7) (by simp)).1, l0, n_row0 _ (by omega)]
  · rw [(k3.2.2.2 (b + 7) (by simp)).1, l1]; rfl
  · rw [n_row0 _ (by omega)] at hi; omega
  · rw [(k3.2.2.2 b (by simp)).2, xJ, vJ, du_z (fun j hj => n_row0 _ (by omega)) (by decide)]
  · rw [n_row0 5 (by omega)]; exact k2
  · rw [n_row0 5 (by omega)] at h; omega
