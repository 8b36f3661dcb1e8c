/-! Arrays.fill -/
theorem c_fill_5 {a n : Nat} {x : Int32} {Q : mW → mO → Prop} (hn : n ≤ 1000) : ∀ (m k : Nat) (w : mW), k + m = n → w_sh w a = (1, n) → (∀ i, i < k → w_I w a i = x) → (∀ w', (∀ i, i < n → w_I w' a i = x) → Fr [a] w w' → Q w' (.inl none)) →
    RT n_J7_fill_53178 5 [.ref a, .int x, .int (Int32.ofInt k), .int (Int32.ofInt n)] [] w (0, 0, false) Q := by
  intro m
  induction m with
  | zero =>
    intro k w hk hs hx hq
    have hR : inR (k : Int) := ⟨by omega, by omega⟩
    have hRn : inR (n : Int) := ⟨by omega, by omega⟩
    refine rt_J7_fill_53178_5 ?_
    simp only [wp_c, wp_n, jj_n, Int.reduceToNat, Int.toNat_natCast, stE, wlE, lgt, lpu, lpw, v_c2, va_s, true_and, and_true, Option.toList, List.nil_append, List.cons_append, List.take, List.drop, List.reverse, List.reverseAux, List.length_cons, List.length_nil, reduceCtorEq, false_implies, true_implies, forall_const, not_true_eq_false, not_false_eq_true, ite_true, ite_false, Bool.false_eq_true, I_I, J_J, Nat.add_left_cancel_iff, Nat.reduceEqDiff, Nat.add_eq_left, Nat.left_eq_add, false_and, and_false, Nat.reduceSub, Nat.sub_self, Nat.le_refl, Nat.zero_le, ge_iff_le, Nat.reduceAdd, Nat.reduceLeDiff, Nat.zero_add, Nat.reduceLT, oi_le hRn hR]
    refine ⟨fun _ => ?_, fun h => absurd (by omega) h⟩
    refine rt_J7_fill_53178_20 ?_
    simp only [wp_c, wp_n, jj_n, Int.reduceToNat, Int.toNat_natCast, stE, wlE, lgt, lpu, lpw, v_c2, va_s, true_and, and_true, Option.toList, List.nil_append, List.cons_append, List.take, List.drop, List.reverse, List.reverseAux, List.length_cons, List.length_nil, reduceCtorEq, false_implies, true_implies, forall_const, not_true_eq_false, not_false_eq_true, ite_true, ite_false, Bool.false_eq_true, I_I, J_J, Nat.add_left_cancel_iff, Nat.reduceEqDiff, Nat.add_eq_left, Nat.left_eq_add, false_and, and_false, Nat.reduceSub, Nat.sub_self, Nat.le_refl, Nat.zero_le, ge_iff_le, Nat.reduceAdd, Nat.reduceLeDiff, Nat.zero_add, Nat.reduceLT]
    exact hq w (fun i hi => hx i (by omega)) (Fr.refl _ _)
  | succ m ih =>
    intro k w hk hs hx hq
    have hR : inR (k : Int) := ⟨by omega, by omega⟩
    have hRn : inR (n : Int) := ⟨by omega, by omega⟩
    refine rt_J7_fill_53178_5 ?_
    simp only [wp_c, wp_n, jj_n, Int.reduceToNat, Int.toNat_natCast, stE, wlE, lgt, lpu, lpw, v_c2, va_s, true_and, and_true, Option.toList, List.nil_append, List.cons_append, List.take, List.drop, List.reverse, List.reverseAux, List.length_cons, List.length_nil, reduceCtorEq, false_implies, true_implies, forall_const, not_true_eq_false, not_false_eq_true, ite_true, ite_false, Bool.false_eq_true, I_I, J_J, Nat.add_left_cancel_iff, Nat.reduceEqDiff, Nat.add_eq_left, Nat.left_eq_add, false_and, and_false, Nat.reduceSub, Nat.sub_self, Nat.le_refl, Nat.zero_le, ge_iff_le, Nat.reduceAdd, Nat.reduceLeDiff, Nat.zero_add, Nat.reduceLT, hs, oi_le hRn hR, vp_oi hR, oi_nc hR, oi_add]
    refine ⟨fun h => absurd h (by omega), fun _ => ⟨by omega, ?_⟩⟩
    have f : Fr [a] w (s_I w a k x) := (Fr.refl _ _).I (by simp)
    refine ih (k + 1) (s_I w a k x) (by omega) hs (fun i hi => ?_) (fun w' q1 q2 => hq w' q1 (f.trans q2 (fun _ q => q) (fun _ q => q)))
    rw [I_I]
    by_cases h : i = k
    · rw [if_pos ⟨rfl, h⟩]
    · rw [if_neg (fun q => h q.2)]; exact hx i (by omega)
theorem c_fill {a n : Nat} {x : Int32} {w : mW} {Q : mW → mO → Prop} (hn : n ≤ 1000) (hs : w_sh w a = (1, n)) (hq : ∀ w', (∀ i, i < n → w_I w' a i = x) → Fr [a] w w' → Q w' (.inl none)) : CT n_J7_fill_53178 [.ref a, .int x] w Q := by
  refine ct_J7_fill_53178 (rt_J7_fill_53178_0 ?_)
  simp only [wp_c, wp_n, jj_n, Int.reduceToNat, Int.toNat_natCast, stE, wlE, lgt, lpu, lpw, v_c2, va_s, true_and, and_true, Option.toList, List.nil_append, List.cons_append, List.take, List.drop, List.reverse, List.reverseAux, List.length_cons, List.length_nil, reduceCtorEq, false_implies, true_implies, forall_const, not_true_eq_false, not_false_eq_true, ite_true, ite_false, Bool.false_eq_true, I_I, J_J, Nat.add_left_cancel_iff, Nat.reduceEqDiff, Nat.add_eq_left, Nat.left_eq_add, false_and, and_false, Nat.reduceSub, Nat.sub_self, Nat.le_refl, Nat.zero_le, ge_iff_le, Nat.reduceAdd, Nat.reduceLeDiff, Nat.zero_add, Nat.reduceLT, hs, oi_nat]
  exact c_fill_5 hn n 0 w (by omega) hs (fun i hi => absurd hi (by omega)) hq
