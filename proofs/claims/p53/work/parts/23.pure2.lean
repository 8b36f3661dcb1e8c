theorem MS.pos {w : mW} {b : Nat} {A : Row} {c : Int} (h : MS w b A) : MS (s_I w b 4 (Int32.ofInt c)) b (up A 4 c) := by
  obtain ⟨hM, hA, hL, hD, dv, d, p, pl, c', l, t, t1, t2, t3⟩ := h
  have f : Fr [b] w (s_I w b 4 (Int32.ofInt c)) := (Fr.refl _ _).I (by simp)
  refine ⟨hM.fr f, hA.fld (by omega), (hL.fr f (by simp) (by simp)).row (by rw [up_eq, if_neg (by omega)]) (fun j hj => by rw [up_eq, if_neg (by omega)]), ?_, dv, d, p, pl, c', l, ?_, t1, t2, fun h => ?_⟩
  · show w_J w b 5 = _
    rw [hD]; congr 1
    unfold du
    rw [up_eq, if_neg (by omega)]
    exact (hn_c _ _ (fun i hi => by rw [up_eq, if_neg (by omega)])).symm
  · have e5 : up A 4 c 5 = A 5 := by rw [up_eq, if_neg (by omega)]
    rw [e5]; exact t.fr f (by simp)
  · have e5 : up A 4 c 5 = A 5 := by rw [up_eq, if_neg (by omega)]
    have e8 : up A 4 c 8 = A 8 := by rw [up_eq, if_neg (by omega)]
    have e7 : up A 4 c 7 = A 7 := by rw [up_eq, if_neg (by omega)]
    have e6 : up A 4 c 6 = A 6 := by rw [up_eq, if_neg (by omega)]
    rw [e5] at h ⊢; rw [e8, e7, e6]; exact t3 h
theorem TJ.pos {A : Row} {c : Int} (h : TJ A) (h0 : 0 ≤ c) (h1 : c + A 0 ≤ A 1) : TJ (up A 4 c) := by
  have hz := TJ_sz h
  obtain ⟨⟨-, k7, k1, k2, k3, k4, k5⟩, hd⟩ := h
  refine ⟨⟨?_, ?_, fun j hj => ?_, fun j hj => ?_, fun j hj => ?_, fun j hj => ?_, fun j hj => ?_⟩, fun j hj => ?_⟩
  · simp only [up_eq]
    simp
    omega
  · rw [up_eq, if_pos rfl]; exact Or.inl rfl
  · have := k1 j hj; simp only [up_eq] at this ⊢; rw [if_neg (by omega)] at this; rw [if_neg (by omega), if_neg (by omega)]; exact this
  · have := k2 j hj; simp only [up_eq] at this ⊢; rw [if_neg (by omega)] at this; rw [if_neg (by omega), if_neg (by omega)]; exact this
  · have := k3 j hj; simp only [up_eq] at this ⊢; rw [if_neg (by omega)] at this; rw [if_neg (by omega), if_neg (by omega)]; exact this
  · have := k4 j hj; simp only [up_eq] at this ⊢; rw [if_neg (by omega)] at this; rw [if_neg (by omega), if_neg (by omega)]; exact this
  · have := k5 j hj; simp only [up_eq] at this ⊢; rw [if_neg (by omega)] at this; rw [if_neg (by omega), if_neg (by omega)]; exact this
  · rw [up_eq, if_neg (by omega)]; exact hd j hj
theorem MS.jam {w : mW} {b : Nat} {A : Row} (h : MS w b A) : w_I w (b + 9) 0 = Int32.ofInt (if 0 < A 5 then 1 else 0) := by
  obtain ⟨-, -, -, -, dv, d, p, pl, c', l, t, -⟩ := h
  exact t.1
def a_dv : Nat → Row → Nat → Row × Nat
  | 0, A, t => (A, t)
  | c + 1, A, t => if 0 < (a_dh 10 (up A 4 c) 0).1 5 then ((a_dh 10 (up A 4 c) 0).1, t + (a_dh 10 (up A 4 c) 0).2) else a_dv c (a_dh 10 (up A 4 c) 0).1 (t + (a_dh 10 (up A 4 c) 0).2)
theorem c_dv_7 {b : Nat} {Q : mW → mO → Prop} : ∀ (n t : Nat) (A : Row) (w : mW), (n : Int) + A 0 ≤ A 1 + 1 → MS w b A → TJ A → A 5 ≤ 0 → A 5 = 0 → A 8 = 1 →
    (∀ w', MS w' b (a_dv n A t).1 → FrM b w w' → TJ (a_dv n A t).1 → Q w' (.inl (some (.int (Int32.ofInt (a_dv n A t).2))))) → RT n_X2_divideByPins 7 [.ref b, .int (Int32.ofInt t), .int (Int32.ofInt ((n : Int) - 1))] [] w (0, 0, false) Q := by
  intro n
  induction n with
  | zero =>
    intro t A w hn hS hJ _ h5 h8 hq
    have hR : inR (((0 : Nat) : Int) - 1) := ⟨by omega, by omega⟩
    refine rt_X2_divideByPins_7 ?_
    simp only [wp_c, wp_n, jj_n, v_ct, Int.reduceToNat, Int.toNat_natCast, stE, wlE, lgt, lpu, lpw, v_c2, va_s, true_and, and_true, Option.toList, List.nil_append, List.cons_append, List.take, List.drop, List.reverse, List.reverseAux, List.length_cons, List.length_nil, reduceCtorEq, false_implies, true_implies, forall_const, not_true_eq_false, not_false_eq_true, ite_true, ite_false, Bool.false_eq_true, I_I, J_J, Nat.add_left_cancel_iff, Nat.reduceEqDiff, Nat.add_eq_left, Nat.left_eq_add, false_and, and_false, Nat.reduceSub, Nat.sub_self, Nat.le_refl, Nat.zero_le, ge_iff_le, Nat.reduceAdd, Nat.reduceLeDiff, Nat.zero_add, Nat.reduceLT, oi_l0 hR]
    refine ⟨fun _ => ?_, fun h => absurd (by omega) h⟩
    refine rt_X2_divideByPins_41 ?_
    simp only [wp_c, wp_n, jj_n, v_ct, Int.reduceToNat, Int.toNat_natCast, stE, wlE, lgt, lpu, lpw, v_c2, va_s, true_and, and_true, Option.toList, List.nil_append, List.cons_append, List.take, List.drop, List.reverse, List.reverseAux, List.length_cons, List.length_nil, reduceCtorEq, false_implies, true_implies, forall_const, not_true_eq_false, not_false_eq_true, ite_true, ite_false, Bool.false_eq_true, I_I, J_J, Nat.add_left_cancel_iff, Nat.reduceEqDiff, Nat.add_eq_left, Nat.left_eq_add, false_and, and_false, Nat.reduceSub, Nat.sub_self, Nat.le_refl, Nat.zero_le, ge_iff_le, Nat.reduceAdd, Nat.reduceLeDiff, Nat.zero_add, Nat.reduceLT, mr_X2_divideByPins]
    exact hq w hS (FrM.refl b w) hJ
  | succ n ih =>
    intro t A w hn hS hJ _ h5 h8 hq
    have hz := TJ_sz hJ
    have e1 : (((n + 1 : Nat) : Int) - 1) = (n : Int) := by omega
    have hR : inR (n : Int) := ⟨by omega, by omega⟩
    have s0 := hS.1.1.1
    have s9 := hS.1.1.2.2.2.2.2.2.2.2.2.1
    have r13 := hS.1.2.2.2.2.2.2.2.2.1
    refine rt_X2_divideByPins_7 ?_
    rw [e1]
    simp only [wp_c, wp_n, jj_n, v_ct, Int.reduceToNat, Int.toNat_natCast, stE, wlE, lgt, lpu, lpw, v_c2, va_s, true_and, and_true, Option.toList, List.nil_append, List.cons_append, List.take, List.drop, List.reverse, List.reverseAux, List.length_cons, List.length_nil, reduceCtorEq, false_implies, true_implies, forall_const, not_true_eq_false, not_false_eq_true, ite_true, ite_false, Bool.false_eq_true, I_I, J_J, Nat.add_left_cancel_iff, Nat.reduceEqDiff, Nat.add_eq_left, Nat.left_eq_add, false_and, and_false, Nat.reduceSub, Nat.sub_self, Nat.le_refl, Nat.zero_le, ge_iff_le, Nat.reduceAdd, Nat.reduceLeDiff, Nat.zero_add, Nat.reduceLT, s0, oi_l0 hR, mh_X2_divideByPins]
    refine ⟨fun h => absurd h (by omega), fun _ => ?_⟩
    have hJ4 : TJ (up A 4 n) := hJ.pos (by omega) (by omega)
    have f1 : FrM b w (s_I w b 4 (Int32.ofInt (n : Int))) := ((Fr.refl [b] w).I (by simp)).toM (by simp)
    refine c_divideHere (hS.pos (c := (n : Int))) hJ4 (by rw [up_eq, if_neg (by omega)]; exact h5) (by rw [up_eq, if_neg (by omega)]; exact h8) fun w' q => ?_
    rw [a_dv] at hq
    generalize a_dh 10 (up A 4 n) 0 = z at hq q
    obtain ⟨B, k⟩ := z
    obtain ⟨k1, k2, k3, k4, k5, k6, k7, k8⟩ := q
    have fr := f1.trans k2
    simp only [wp_c, wp_n, jj_n, v_ct, Int.reduceToNat, Int.toNat_natCast, stE, wlE, lgt, lpu, lpw, v_c2, va_s, true_and, and_true, Option.toList, List.nil_append, List.cons_append, List.take, List.drop, List.reverse, List.reverseAux, List.length_cons, List.length_nil, reduceCtorEq, false_implies, true_implies, forall_const, not_true_eq_false, not_false_eq_true, ite_true, ite_false, Bool.false_eq_true, I_I, J_J, Nat.add_left_cancel_iff, Nat.reduceEqDiff, Nat.add_eq_left, Nat.left_eq_add, false_and, and_false, Nat.reduceSub, Nat.sub_self, Nat.le_refl, Nat.zero_le, ge_iff_le, Nat.reduceAdd, Nat.reduceLeDiff, Nat.zero_add, Nat.reduceLT, fr.1, fr.2.1, s0, s9, r13, k1.jam, oi_add] at hq ⊢
    have et : Int32.ofInt ((t : Int) + (k : Int)) = Int32.ofInt ((t + k : Nat) : Int) := by congr 1
    rw [et]
    simp only at k3 k4 k5 k6 k7 k8
    by_cases hj : 0 < B 5
    · rw [if_pos hj] at hq
      simp only [hj, wp_c, wp_n, jj_n, v_ct, Int.reduceToNat, Int.toNat_natCast, stE, wlE, lgt, lpu, lpw, v_c2, va_s, true_and, and_true, Option.toList, List.nil_append, List.cons_append, List.take, List.drop, List.reverse, List.reverseAux, List.length_cons, List.length_nil, reduceCtorEq, false_implies, true_implies, forall_const, not_true_eq_false, not_false_eq_true, ite_true, ite_false, Bool.false_eq_true, I_I, J_J, Nat.add_left_cancel_iff, Nat.reduceEqDiff, Nat.add_eq_left, Nat.left_eq_add, false_and, and_false, Nat.reduceSub, Nat.sub_self, Nat.le_refl, Nat.zero_le, ge_iff_le, Nat.reduceAdd, Nat.reduceLeDiff, Nat.zero_add, Nat.reduceLT, mr_X2_divideByPins]
      exact ⟨fun h => absurd h (by decide), fun _ => hq w' k1 fr k3⟩
    · rw [if_neg hj] at hq
      simp only [hj, wp_c, wp_n, jj_n, v_ct, Int.reduceToNat, Int.toNat_natCast, stE, wlE, lgt, lpu, lpw, v_c2, va_s, true_and, and_true, Option.toList, List.nil_append, List.cons_append, List.take, List.drop, List.reverse, List.reverseAux, List.length_cons, List.length_nil, reduceCtorEq, false_implies, true_implies, forall_const, not_true_eq_false, not_false_eq_true, ite_true, ite_false, Bool.false_eq_true, I_I, J_J, Nat.add_left_cancel_iff, Nat.reduceEqDiff, Nat.add_eq_left, Nat.left_eq_add, false_and, and_false, Nat.reduceSub, Nat.sub_self, Nat.le_refl, Nat.zero_le, ge_iff_le, Nat.reduceAdd, Nat.reduceLeDiff, Nat.zero_add, Nat.reduceLT]
      refine ⟨fun _ => ?_, fun h => absurd rfl h⟩
      refine rt_X2_divideByPins_35 ?_
      simp only [wp_c, wp_n, jj_n, v_ct, Int.reduceToNat, Int.toNat_natCast, stE, wlE, lgt, lpu, lpw, v_c2, va_s, true_and, and_true, Option.toList, List.nil_append, List.cons_append, List.take, List.drop, List.reverse, List.reverseAux, List.length_cons, List.length_nil, reduceCtorEq, false_implies, true_implies, forall_const, not_true_eq_false, not_false_eq_true, ite_true, ite_false, Bool.false_eq_true, I_I, J_J, Nat.add_left_cancel_iff, Nat.reduceEqDiff, Nat.add_eq_left, Nat.left_eq_add, false_and, and_false, Nat.reduceSub, Nat.sub_self, Nat.le_refl, Nat.zero_le, ge_iff_le, Nat.reduceAdd, Nat.reduceLeDiff, Nat.zero_add, Nat.reduceLT, oi_add]
      have en : (n : Int) + -1 = (n : Int) - 1 := by omega
      rw [en]
      have b0 : up A 4 (n : Int) 0 = A 0 := by rw [up_eq, if_neg (by omega)]
      have b1 : up A 4 (n : Int) 1 = A 1 := by rw [up_eq, if_neg (by omega)]
      have b8 : up A 4 (n : Int) 8 = A 8 := by rw [up_eq, if_neg (by omega)]
      refine ih (t + k) B w' (by rw [k7, k6, b0, b1]; omega) k1 k3 (by omega) (by omega) (by rw [k4, b8]; exact h8) fun w'' m1 m2 m3 => ?_
      exact hq w'' m1 (fr.trans m2) m3
theorem c_highest {b : Nat} {A : Row} {w : mW} {Q : mW → mO → Prop} (hM : Mb w b) (hA : MemA w b A) (hq : Q w (.inl (some (.int (Int32.ofInt (A 1 - A 0)))))) : CT n_X2_highestPosition [.ref b] w Q := by
  have s0 := hM.1.1
  refine ct_X2_highestPosition (rt_X2_highestPosition_0 ?_)
  simp only [wp_c, wp_n, jj_n, v_ct, Int.reduceToNat, Int.toNat_natCast, stE, wlE, lgt, lpu, lpw, v_c2, va_s, true_and, and_true, Option.toList, List.nil_append, List.cons_append, List.take, List.drop, List.reverse, List.reverseAux, List.length_cons, List.length_nil, reduceCtorEq, false_implies, true_implies, forall_const, not_true_eq_false, not_false_eq_true, ite_true, ite_false, Bool.false_eq_true, I_I, J_J, Nat.add_left_cancel_iff, Nat.reduceEqDiff, Nat.add_eq_left, Nat.left_eq_add, false_and, and_false, Nat.reduceSub, Nat.sub_self, Nat.le_refl, Nat.zero_le, ge_iff_le, Nat.reduceAdd, Nat.reduceLeDiff, Nat.zero_add, Nat.reduceLT, s0, hA.1.1, hA.1.2.1, oi_sub, mr_X2_highestPosition]
  exact hq
theorem c_divide {b : Nat} {A : Row} {w : mW} {Q : mW → mO → Prop} (hS : MS w b A) (hJ : TJ A) (h5 : A 5 = 0) (hq : ∀ w', MS w' b (a_dv (A 1 - A 0 + 1).toNat (up A 8 1) 0).1 → FrM b w w' → TJ (a_dv (A 1 - A 0 + 1).toNat (up A 8 1) 0).1 → Q w' (.inl (some (.int (Int32.ofInt (a_dv (A 1 - A 0 + 1).toNat (up A 8 1) 0).2))))) : CT n_X2_divideByPins [.ref b] w Q := by
  have hz := TJ_sz hJ
  have s0 := hS.1.1.1
  refine ct_X2_divideByPins (rt_X2_divideByPins_0 ?_)
  simp only [wp_c, wp_n, jj_n, v_ct, Int.reduceToNat, Int.toNat_natCast, stE, wlE, lgt, lpu, lpw, v_c2, va_s, true_and, and_true, Option.toList, List.nil_append, List.cons_append, List.take, List.drop, List.reverse, List.reverseAux, List.length_cons, List.length_nil, reduceCtorEq, false_implies, true_implies, forall_const, not_true_eq_false, not_false_eq_true, ite_true, ite_false, Bool.false_eq_true, I_I, J_J, Nat.add_left_cancel_iff, Nat.reduceEqDiff, Nat.add_eq_left, Nat.left_eq_add, false_and, and_false, Nat.reduceSub, Nat.sub_self, Nat.le_refl, Nat.zero_le, ge_iff_le, Nat.reduceAdd, Nat.reduceLeDiff, Nat.zero_add, Nat.reduceLT, s0, mh_X2_divideByPins]
  refine c_highest hS.1 hS.2.1 ?_
  simp only [wp_c, wp_n, jj_n, v_ct, Int.reduceToNat, Int.toNat_natCast, stE, wlE, lgt, lpu, lpw, v_c2, va_s, true_and, and_true, Option.toList, List.nil_append, List.cons_append, List.take, List.drop, List.reverse, List.reverseAux, List.length_cons, List.length_nil, reduceCtorEq, false_implies, true_implies, forall_const, not_true_eq_false, not_false_eq_true, ite_true, ite_false, Bool.false_eq_true, I_I, J_J, Nat.add_left_cancel_iff, Nat.reduceEqDiff, Nat.add_eq_left, Nat.left_eq_add, false_and, and_false, Nat.reduceSub, Nat.sub_self, Nat.le_refl, Nat.zero_le, ge_iff_le, Nat.reduceAdd, Nat.reduceLeDiff, Nat.zero_add, Nat.reduceLT]
  have e : A 1 - A 0 = (((A 1 - A 0 + 1).toNat : Nat) : Int) - 1 := by omega
  have := c_dv_7 (b := b) (Q := Q) (A 1 - A 0 + 1).toNat 0 (up A 8 1) w (by rw [up_eq, if_neg (by omega), up_eq, if_neg (by omega)]; omega) (hS.up8 h5) hJ.up8 (by rw [up_eq, if_neg (by omega)]; omega) (by rw [up_eq, if_neg (by omega)]; exact h5) (by rw [up_eq, if_pos rfl]) hq
  rw [← e] at this
  exact this
/-! freeing -/
theorem lev_cl : ∀ (n : Nat) (A : Row) (wh : Nat) (c l c' l' : Int32), (a_lev n A wh c l).1 = (a_lev n A wh c' l').1 ∧ (a_lev n A wh c l).2.1 = (a_lev n A wh c' l').2.1 := by
  intro n
  induction n with
  | zero => intro A wh c l c' l'; exact ⟨rfl, rfl⟩
  | succ n ih =>
    intro A wh c l c' l'
    rw [a_lev, a_lev]
    by_cases h1 : A (52 + wh) = 0
    · rw [if_pos h1, if_pos h1]; exact ih _ _ _ _ _ _
    · rw [if_neg h1, if_neg h1]
      by_cases h2 : (wh : Int) = A 1 - 1
      · rw [if_pos h2, if_pos h2]; exact ih _ _ _ _ _ _
      · rw [if_neg h2, if_neg h2]
        by_cases h3 : A (68 + wh) % 2 = 1 ∨ A 4 + A 0 - 1 + A 3 < wh + 1
        · rw [if_pos h3, if_pos h3]; exact ih _ _ _ _ _ _
        · rw [if_neg h3, if_neg h3]
          by_cases h4 : 2 ≤ A (68 + (wh + 1))
          · rw [if_pos h4, if_pos h4]; exact ⟨rfl, rfl⟩
          · rw [if_neg h4, if_neg h4]; exact ih _ _ _ _ _ _
theorem go_cl (A : Row) (part pl : Nat) (c l c' l' : Int32) : (a_go A part pl c l).1 = (a_go A part pl c' l').1 ∧ (a_go A part pl c l).2.1 = (a_go A part pl c' l').2.1 := by
  have key : ∀ (B : Row) (wh : Nat), (match a_lev ((A 1).toNat - wh) B wh c l with | (B', none, l') => ((a_endC B', none, l') : Row × Option (Nat × Nat) × Int32) | (B', some k, l') => (B', some (1, k), l')).1 = (match a_lev ((A 1).toNat - wh) B wh c' l' with | (B', none, l') => ((a_endC B', none, l') : Row × Option (Nat × Nat) × Int32) | (B', some k, l') => (B', some (1, k), l')).1 ∧
      (match a_lev ((A 1).toNat - wh) B wh c l with | (B', none, l') => ((a_endC B', none, l') : Row × Option (Nat × Nat) × Int32) | (B', some k, l') => (B', some (1, k), l')).2.1 = (match a_lev ((A 1).toNat - wh) B wh c' l' with | (B', none, l') => ((a_endC B', none, l') : Row × Option (Nat × Nat) × Int32) | (B', some k, l') => (B', some (1, k), l')).2.1 := by
    intro B wh
    obtain ⟨h1, h2⟩ := lev_cl ((A 1).toNat - wh) B wh c l c' l'
    generalize a_lev ((A 1).toNat - wh) B wh c l = z at h1 h2 ⊢
    generalize a_lev ((A 1).toNat - wh) B wh c' l' = z' at h1 h2 ⊢
    obtain ⟨B1, o1, l1⟩ := z
    obtain ⟨B2, o2, l2⟩ := z'
    simp only at h1 h2
    subst h1; subst h2
    cases o1 <;> exact ⟨rfl, rfl⟩
  simp only [a_go]
  by_cases hp : part = 0
  · rw [if_pos hp, if_pos hp]
    generalize a_pins ((A 0).toNat - pl) A pl = z
    obtain ⟨B, ok⟩ := z
    cases ok with
    | none => exact key B _
    | some k => exact ⟨rfl, rfl⟩
  · rw [if_neg hp, if_neg hp]; exact key A _
theorem fin_cl (A : Row) (part pl : Nat) (c l c' l' : Int32) : a_fin (a_go A part pl c l) = a_fin (a_go A part pl c' l') := by
  obtain ⟨h1, h2⟩ := go_cl A part pl c l c' l'
  generalize a_go A part pl c l = z at h1 h2
  generalize a_go A part pl c' l' = z' at h1 h2
  obtain ⟨B1, o1, l1⟩ := z
  obtain ⟨B2, o2, l2⟩ := z'
  simp only at h1 h2
  subst h1; subst h2
  rfl
def a_jw (A : Row) : Int := if A 5 = 1 then A 4 + A 6 else A 6 + 1
/-- what holds while it is jammed -/
def JI (A : Row) : Prop := ((A 5 = 1 ∧ 0 ≤ A 6 ∧ A 6 < A 0) ∨ (A 5 = 2 ∧ 0 ≤ A 6 ∧ A 6 < A 1 - 1)) ∧ (A 7 = 1 ∨ A 7 = -1) ∧ (A 8 = 0 ∨ A 8 = 1)
theorem JI_jw {A : Row} (h : JI A) (hJ : TJ A) : 0 ≤ a_jw A ∧ a_jw A < A 1 := by
  have hz := TJ_sz hJ
  obtain ⟨h1 | h1, -, -⟩ := h
  · unfold a_jw; rw [if_pos h1.1]; omega
  · unfold a_jw; rw [if_neg (by omega)]; omega
theorem c_jammedWheel {b : Nat} {A : Row} {w : mW} {Q : mW → mO → Prop} (hS : MS w b A) (hJI : JI A) (hq : Q w (.inl (some (.int (Int32.ofInt (a_jw A)))))) : CT n_X2_jammedWheel [.ref b] w Q := by
  have s0 := hS.1.1.1
  have s9 := hS.1.1.2.2.2.2.2.2.2.2.2.1
  have r13 := hS.1.2.2.2.2.2.2.2.2.1
  have b4 := hS.2.1.1.2.2.2.2
  obtain ⟨dv, d, p, pl, c, l, ⟨t0, t1, t2, t3, t4, t8, t9⟩, -, -, hj⟩ := hS.2.2.2.2
  obtain ⟨-, -, hp, hpl⟩ := hj (by obtain ⟨h | h, -⟩ := hJI <;> omega)
  have hpR : inR p := by obtain ⟨h | h, -⟩ := hJI <;> exact ⟨by omega, by omega⟩
  refine ct_X2_jammedWheel (rt_X2_jammedWheel_0 ?_)
  simp only [wp_c, wp_n, jj_n, v_ct, Int.reduceToNat, Int.toNat_natCast, stE, wlE, lgt, lpu, lpw, v_c2, va_s, true_and, and_true, Option.toList, List.nil_append, List.cons_append, List.take, List.drop, List.reverse, List.reverseAux, List.length_cons, List.length_nil, reduceCtorEq, false_implies, true_implies, forall_const, not_true_eq_false, not_false_eq_true, ite_true, ite_false, Bool.false_eq_true, I_I, J_J, Nat.add_left_cancel_iff, Nat.reduceEqDiff, Nat.add_eq_left, Nat.left_eq_add, false_and, and_false, Nat.reduceSub, Nat.sub_self, Nat.le_refl, Nat.zero_le, ge_iff_le, Nat.reduceAdd, Nat.reduceLeDiff, Nat.zero_add, Nat.reduceLT, s0, s9, r13, t3, t4, b4, oi_e0 hpR, oi_add]
  refine ⟨fun h => ?_, fun h => ?_⟩
  · refine rt_X2_jammedWheel_25 ?_
    simp only [wp_c, wp_n, jj_n, v_ct, Int.reduceToNat, Int.toNat_natCast, stE, wlE, lgt, lpu, lpw, v_c2, va_s, true_and, and_true, Option.toList, List.nil_append, List.cons_append, List.take, List.drop, List.reverse, List.reverseAux, List.length_cons, List.length_nil, reduceCtorEq, false_implies, true_implies, forall_const, not_true_eq_false, not_false_eq_true, ite_true, ite_false, Bool.false_eq_true, I_I, J_J, Nat.add_left_cancel_iff, Nat.reduceEqDiff, Nat.add_eq_left, Nat.left_eq_add, false_and, and_false, Nat.reduceSub, Nat.sub_self, Nat.le_refl, Nat.zero_le, ge_iff_le, Nat.reduceAdd, Nat.reduceLeDiff, Nat.zero_add, Nat.reduceLT, s0, s9, r13, t4, oi_add]
    refine rt_X2_jammedWheel_34 ?_
    simp only [wp_c, wp_n, jj_n, v_ct, Int.reduceToNat, Int.toNat_natCast, stE, wlE, lgt, lpu, lpw, v_c2, va_s, true_and, and_true, Option.toList, List.nil_append, List.cons_append, List.take, List.drop, List.reverse, List.reverseAux, List.length_cons, List.length_nil, reduceCtorEq, false_implies, true_implies, forall_const, not_true_eq_false, not_false_eq_true, ite_true, ite_false, Bool.false_eq_true, I_I, J_J, Nat.add_left_cancel_iff, Nat.reduceEqDiff, Nat.add_eq_left, Nat.left_eq_add, false_and, and_false, Nat.reduceSub, Nat.sub_self, Nat.le_refl, Nat.zero_le, ge_iff_le, Nat.reduceAdd, Nat.reduceLeDiff, Nat.zero_add, Nat.reduceLT, mr_X2_jammedWheel]
    unfold a_jw at hq; rw [if_neg (by omega)] at hq
    rw [hpl]; exact hq
  · refine rt_X2_jammedWheel_34 ?_
    simp only [wp_c, wp_n, jj_n, v_ct, Int.reduceToNat, Int.toNat_natCast, stE, wlE, lgt, lpu, lpw, v_c2, va_s, true_and, and_true, Option.toList, List.nil_append, List.cons_append, List.take, List.drop, List.reverse, List.reverseAux, List.length_cons, List.length_nil, reduceCtorEq, false_implies, true_implies, forall_const, not_true_eq_false, not_false_eq_true, ite_true, ite_false, Bool.false_eq_true, I_I, J_J, Nat.add_left_cancel_iff, Nat.reduceEqDiff, Nat.add_eq_left, Nat.left_eq_add, false_and, and_false, Nat.reduceSub, Nat.sub_self, Nat.le_refl, Nat.zero_le, ge_iff_le, Nat.reduceAdd, Nat.reduceLeDiff, Nat.zero_add, Nat.reduceLT, mr_X2_jammedWheel]
    unfold a_jw at hq; rw [if_pos (by omega)] at hq
    rw [hpl]; exact hq
theorem TJ_TI {A : Row} (h : TJ A) (h7 : A 7 = 1 ∨ A 7 = -1) : TI A := by
  have hz := TJ_sz h
  obtain ⟨⟨-, -, k1, k2, k3, k4, k5⟩, -⟩ := h
  refine ⟨hz, h7, fun j hj => ?_, fun j hj => ?_, fun j hj => ?_, fun j hj => ?_, fun j hj => ?_⟩
  · have := k1 j hj; rw [up_eq, if_neg (by omega)] at this; exact this
  · have := k2 j hj; rw [up_eq, if_neg (by omega)] at this; exact this
  · have := k3 j hj; rw [up_eq, if_neg (by omega)] at this; exact this
  · have := k4 j hj; rw [up_eq, if_neg (by omega)] at this; exact this
  · have := k5 j hj; rw [up_eq, if_neg (by omega)] at this; exact this
theorem flt_TI {A : Row} {i : Nat} {v : Int} (h : TI A) (hv : 0 ≤ v ∧ v ≤ 3) (hi : i < 16) : TI (up A (68 + i) v) := by
  obtain ⟨h0, h7, h1, h2, h3, h4, h5⟩ := h
  refine ⟨?_, ?_, fun j hj => ?_, fun j hj => ?_, fun j hj => ?_, fun j hj => ?_, fun j hj => ?_⟩
  · simp only [up_eq]
    rw [if_neg (by omega), if_neg (by omega), if_neg (by omega), if_neg (by omega), if_neg (by omega)]; exact h0
  · rw [up_eq, if_neg (by omega)]; exact h7
  all_goals rw [up_eq]
  · rw [if_neg (by omega)]; exact h1 j hj
  · rw [if_neg (by omega)]; exact h2 j hj
  · rw [if_neg (by omega)]; exact h3 j hj
  · rw [if_neg (by omega)]; exact h4 j hj
  · split
    · exact hv
    · exact h5 j hj
/-- the row with the jammed wheel freed -/
def a_fr (A : Row) : Row := up (up A (68 + (a_jw A).toNat) (A (68 + (a_jw A).toNat) % 2)) 5 0
theorem c_free {b : Nat} {A : Row} {w : mW} {Q : mW → mO → Prop} (hS : MS w b A) (hJ : TJ A) (hJI : JI A)
  (hq : ∀ w', MS w' b (a_fin (a_go (a_fr A) (A 5 - 1).toNat (A 6).toNat 0 0)) → FrM b w w' → Q w' (.inl (some (.int (Int32.ofInt (match (a_go (a_fr A) (A 5 - 1).toNat (A 6).toNat 0 0).2.1 with | none => 1 | some _ => 0)))))) : CT n_X2_freeAndGoOn [.ref b] w Q := by
  have hS0 := hS
  have s0 := hS.1.1.1
  have s4 := hS.1.1.2.2.2.2.1
  have s9 := hS.1.1.2.2.2.2.2.2.2.2.2.1
  have r9 := hS.1.2.2.2.2.1
  have r13 := hS.1.2.2.2.2.2.2.2.2.1
  have hz := TJ_sz hJ
  have hjw := JI_jw hJI hJ
  have hTI := TJ_TI hJ hJI.2.1
  obtain ⟨hM, hA, hL, hD, dv, d, p, pl, c, l, ⟨t0, t1, t2, t3, t4, t8, t9⟩, hdv, hl, hj⟩ := hS
  have h5 : 0 < A 5 := by obtain ⟨h | h, -⟩ := hJI <;> omega
  obtain ⟨e1, e2, e3, e4⟩ := hj h5
  obtain ⟨j, hjn⟩ : ∃ j : Nat, a_jw A = j := ⟨(a_jw A).toNat, by omega⟩
  have hj16 : j < 16 := by omega
  have hR : inR (j : Int) := ⟨by omega, by omega⟩
  have hf := hTI.2.2.2.2.2.2 j hj16
  have hbit : Int32.ofInt (A (68 + j)) &&& Int32.ofInt (-3) = Int32.ofInt (A (68 + j) % 2) := by
    have h4 : A (68 + j) = 0 ∨ A (68 + j) = 1 ∨ A (68 + j) = 2 ∨ A (68 + j) = 3 := by omega
    rcases h4 with h | h | h | h <;> rw [h] <;> decide
  have hfr : a_fr A = up (up A (68 + j) (A (68 + j) % 2)) 5 0 := by unfold a_fr; rw [hjn]; rfl
  refine ct_X2_freeAndGoOn (rt_X2_freeAndGoOn_0 ?_)
  simp only [wp_c, wp_n, jj_n, v_ct, Int.reduceToNat, Int.toNat_natCast, stE, wlE, lgt, lpu, lpw, v_c2, va_s, true_and, and_true, Option.toList, List.nil_append, List.cons_append, List.take, List.drop, List.reverse, List.reverseAux, List.length_cons, List.length_nil, reduceCtorEq, false_implies, true_implies, forall_const, not_true_eq_false, not_false_eq_true, ite_true, ite_false, Bool.false_eq_true, I_I, J_J, Nat.add_left_cancel_iff, Nat.reduceEqDiff, Nat.add_eq_left, Nat.left_eq_add, false_and, and_false, Nat.reduceSub, Nat.sub_self, Nat.le_refl, Nat.zero_le, ge_iff_le, Nat.reduceAdd, Nat.reduceLeDiff, Nat.zero_add, Nat.reduceLT, s0, r9, mh_X2_freeAndGoOn]
  refine c_jammedWheel hS0 hJI ?_
  rw [hjn]
  simp only [wp_c, wp_n, jj_n, v_ct, Int.reduceToNat, Int.toNat_natCast, stE, wlE, lgt, lpu, lpw, v_c2, va_s, true_and, and_true, Option.toList, List.nil_append, List.cons_append, List.take, List.drop, List.reverse, List.reverseAux, List.length_cons, List.length_nil, reduceCtorEq, false_implies, true_implies, forall_const, not_true_eq_false, not_false_eq_true, ite_true, ite_false, Bool.false_eq_true, I_I, J_J, Nat.add_left_cancel_iff, Nat.reduceEqDiff, Nat.add_eq_left, Nat.left_eq_add, false_and, and_false, Nat.reduceSub, Nat.sub_self, Nat.le_refl, Nat.zero_le, ge_iff_le, Nat.reduceAdd, Nat.reduceLeDiff, Nat.zero_add, Nat.reduceLT, s0, s4, s9, r13, vp_oi hR, oi_nc hR, hA.r_flt hj16, hbit, mh_X2_freeAndGoOn]
  refine ⟨by omega, by omega, by decide, ?_⟩
  have f1 : Fr [b + 4, b + 9] w (s_I (s_I w (b + 4) j (Int32.ofInt (A (68 + j) % 2))) (b + 9) 0 (Int32.ofInt 0)) := ((Fr.refl _ _).I (by simp)).I (by simp)
  have hA1 : MemA (s_I (s_I w (b + 4) j (Int32.ofInt (A (68 + j) % 2))) (b + 9) 0 (Int32.ofInt 0)) b (a_fr A) := by
    rw [hfr]; exact (hA.flt hj16).t0.free (by omega)
  have hk : ∀ i, i ≠ 5 → (i < 68 ∨ 84 ≤ i) → a_fr A i = A i := fun i h1 h2 => by rw [hfr, up_eq, if_neg h1, up_eq, if_neg (by omega)]
  have hTI1 : TI (a_fr A) := by
    rw [hfr]; exact (flt_TI hTI ⟨by omega, by omega⟩ hj16).up (by omega)
  have e0' := hk 0 (by omega) (by omega)
  have e1' := hk 1 (by omega) (by omega)
  have e7' := hk 7 (by omega) (by omega)
  have e8' := hk 8 (by omega) (by omega)
  have hdv8 : dv = A 8 := by rw [e1]; obtain ⟨-, -, h | h⟩ := hJI <;> rw [h] <;> decide
  refine c_goM (A := a_fr A) (part := (A 5 - 1).toNat) (pl := (A 6).toNat) (c := c) (l := l) (hM.fr f1) hA1 hTI1 ((hL.fr f1 (by simp) (by simp)).row (hk _ (by omega) (by omega)) (fun i hi => hk i (by omega) (by omega))) ?_ (by rw [e8']; exact hJI.2.2) hl ?_ ?_ (fun i hi => by rw [hk _ (by omega) (by omega)]; exact hJ.2 i hi) (by rw [hfr, up_eq, if_pos rfl]) ?_
  · have q3 : (((A 5 - 1).toNat : Nat) : Int) = p := by omega
    have q4 : (((A 6).toNat : Nat) : Int) = pl := by obtain ⟨h | h, -⟩ := hJI <;> omega
    rw [q3, q4, e8', e7', ← hdv8, ← e2]
    refine ⟨?_, ?_, ?_, ?_, ?_, ?_, ?_⟩ <;> simp only [wp_c, wp_n, jj_n, v_ct, Int.reduceToNat, Int.toNat_natCast, stE, wlE, lgt, lpu, lpw, v_c2, va_s, true_and, and_true, Option.toList, List.nil_append, List.cons_append, List.take, List.drop, List.reverse, List.reverseAux, List.length_cons, List.length_nil, reduceCtorEq, false_implies, true_implies, forall_const, not_true_eq_false, not_false_eq_true, ite_true, ite_false, Bool.false_eq_true, I_I, J_J, Nat.add_left_cancel_iff, Nat.reduceEqDiff, Nat.add_eq_left, Nat.left_eq_add, false_and, and_false, Nat.reduceSub, Nat.sub_self, Nat.le_refl, Nat.zero_le, ge_iff_le, Nat.reduceAdd, Nat.reduceLeDiff, Nat.zero_add, Nat.reduceLT, t1, t2, t3, t4, t8, t9]
  · rw [e0', e1']; obtain ⟨h | h, -⟩ := hJI <;> omega
  · show w_J w b 5 = _
    rw [hD]; congr 1
    unfold du
    rw [e1']
    exact (hn_c _ _ (fun i hi => hk _ (by omega) (by omega))).symm
  · intro w' m1 m2 m3
    have g := go_cl (a_fr A) (A 5 - 1).toNat (A 6).toNat c l 0 0
    rw [fin_cl _ _ _ c l 0 0] at m1
    have := hq w' m1 ((f1.toM (by simp)).trans m2)
    rw [← g.2] at this
    simp only [wp_c, wp_n, jj_n, v_ct, Int.reduceToNat, Int.toNat_natCast, stE, wlE, lgt, lpu, lpw, v_c2, va_s, true_and, and_true, Option.toList, List.nil_append, List.cons_append, List.take, List.drop, List.reverse, List.reverseAux, List.length_cons, List.length_nil, reduceCtorEq, false_implies, true_implies, forall_const, not_true_eq_false, not_false_eq_true, ite_true, ite_false, Bool.false_eq_true, I_I, J_J, Nat.add_left_cancel_iff, Nat.reduceEqDiff, Nat.add_eq_left, Nat.left_eq_add, false_and, and_false, Nat.reduceSub, Nat.sub_self, Nat.le_refl, Nat.zero_le, ge_iff_le, Nat.reduceAdd, Nat.reduceLeDiff, Nat.zero_add, Nat.reduceLT, mr_X2_freeAndGoOn] at this ⊢
    refine ⟨?_, this⟩
    cases (a_go (a_fr A) (A 5 - 1).toNat (A 6).toNat c l).2.1 with
    | none => exact Or.inr rfl
    | some y => exact Or.inl rfl
/-! clearing; pins -/
/-- a loop over a row: the digits from k on, and the count -/
def a_z (lo n : Nat) (A : Row) : Row := fun j => if lo ≤ j ∧ j < lo + n then 0 else A j
def a_zc (A : Row) (lo : Nat) : Nat → Int
  | 0 => 0
  | n + 1 => a_zc A lo n + (if A (lo + n) = 0 then 0 else 1)
theorem zc_b (A : Row) (lo : Nat) : ∀ n : Nat, 0 ≤ a_zc A lo n ∧ a_zc A lo n ≤ n := by
  intro n
  induction n with
  | zero => simp [a_zc]
  | succ n ih => simp only [a_zc]; split <;> push_cast <;> omega
/-- clearDigits on the array at a, whose n cells are the digits of A from lo on -/
theorem c_clr_4 {a lo n : Nat} {A : Row} {Q : mW → mO → Prop} (hn : n ≤ 16) : ∀ (m k : Nat) (w : mW), k + m = n → w_sh w a = (1, n) → (∀ j, j < n → w_I w a j = Int32.ofInt (if j < k then 0 else A (lo + j))) → (∀ j, j < n → 0 ≤ A (lo + j) ∧ A (lo + j) ≤ 9) →
    (∀ w', (∀ j, j < n → w_I w' a j = Int32.ofInt 0) → Fr [a] w w' → Q w' (.inl (some (.int (Int32.ofInt (a_zc A lo n)))))) →
    RT n_X2_clearDigits 4 [.ref a, .int (Int32.ofInt (a_zc A lo k)), .int (Int32.ofInt k)] [] w (0, 0, false) Q := by
  intro m
  induction m with
  | zero =>
    intro k w hk hs hr hd hq
    have e : k = n := by omega
    subst e
    have hR : inR (k : Int) := ⟨by omega, by omega⟩
    refine rt_X2_clearDigits_4 ?_
    simp only [wp_c, wp_n, jj_n, v_ct, Int.reduceToNat, Int.toNat_natCast, stE, wlE, lgt, lpu, lpw, v_c2, va_s, true_and, and_true, Option.toList, List.nil_append, List.cons_append, List.take, List.drop, List.reverse, List.reverseAux, List.length_cons, List.length_nil, reduceCtorEq, false_implies, true_implies, forall_const, not_true_eq_false, not_false_eq_true, ite_true, ite_false, Bool.false_eq_true, I_I, J_J, Nat.add_left_cancel_iff, Nat.reduceEqDiff, Nat.add_eq_left, Nat.left_eq_add, false_and, and_false, Nat.reduceSub, Nat.sub_self, Nat.le_refl, Nat.zero_le, ge_iff_le, Nat.reduceAdd, Nat.reduceLeDiff, Nat.zero_add, Nat.reduceLT, hs, oi_nat, oi_le hR hR]
    refine ⟨fun _ => ?_, fun h => absurd (Int.le_refl _) h⟩
    refine rt_X2_clearDigits_29 ?_
    simp only [wp_c, wp_n, jj_n, v_ct, Int.reduceToNat, Int.toNat_natCast, stE, wlE, lgt, lpu, lpw, v_c2, va_s, true_and, and_true, Option.toList, List.nil_append, List.cons_append, List.take, List.drop, List.reverse, List.reverseAux, List.length_cons, List.length_nil, reduceCtorEq, false_implies, true_implies, forall_const, not_true_eq_false, not_false_eq_true, ite_true, ite_false, Bool.false_eq_true, I_I, J_J, Nat.add_left_cancel_iff, Nat.reduceEqDiff, Nat.add_eq_left, Nat.left_eq_add, false_and, and_false, Nat.reduceSub, Nat.sub_self, Nat.le_refl, Nat.zero_le, ge_iff_le, Nat.reduceAdd, Nat.reduceLeDiff, Nat.zero_add, Nat.reduceLT, mr_X2_clearDigits]
    exact hq w (fun j hj => by rw [hr j hj, if_pos hj]) (Fr.refl _ _)
  | succ m ih =>
    intro k w hk hs hr hd hq
    have hR : inR (k : Int) := ⟨by omega, by omega⟩
    have hRn : inR (n : Int) := ⟨by omega, by omega⟩
    have hkn : k < n := by omega
    have e0 := hr k hkn
    rw [if_neg (by omega)] at e0
    have hdk := hd k hkn
    have hDR : inR (A (lo + k)) := ⟨by omega, by omega⟩
    have hrest : ∀ w1, (∀ j, j < n → w_I w1 a j = Int32.ofInt (if j < k + 1 then 0 else A (lo + j))) → Fr [a] w w1 → RT n_X2_clearDigits 23 [.ref a, .int (Int32.ofInt (a_zc A lo (k + 1))), .int (Int32.ofInt k)] [] w1 (0, 0, false) Q := by
      intro w1 h1 f
      refine rt_X2_clearDigits_23 ?_
      simp only [wp_c, wp_n, jj_n, v_ct, Int.reduceToNat, Int.toNat_natCast, stE, wlE, lgt, lpu, lpw, v_c2, va_s, true_and, and_true, Option.toList, List.nil_append, List.cons_append, List.take, List.drop, List.reverse, List.reverseAux, List.length_cons, List.length_nil, reduceCtorEq, false_implies, true_implies, forall_const, not_true_eq_false, not_false_eq_true, ite_true, ite_false, Bool.false_eq_true, I_I, J_J, Nat.add_left_cancel_iff, Nat.reduceEqDiff, Nat.add_eq_left, Nat.left_eq_add, false_and, and_false, Nat.reduceSub, Nat.sub_self, Nat.le_refl, Nat.zero_le, ge_iff_le, Nat.reduceAdd, Nat.reduceLeDiff, Nat.zero_add, Nat.reduceLT, oi_add]
      exact ih (k + 1) w1 (by omega) (by rw [f.1]; exact hs) h1 hd (fun w' q1 q2 => hq w' q1 (f.trans q2 (fun _ q => q) (fun _ q => q)))
    refine rt_X2_clearDigits_4 ?_
    simp only [wp_c, wp_n, jj_n, v_ct, Int.reduceToNat, Int.toNat_natCast, stE, wlE, lgt, lpu, lpw, v_c2, va_s, true_and, and_true, Option.toList, List.nil_append, List.cons_append, List.take, List.drop, List.reverse, List.reverseAux, List.length_cons, List.length_nil, reduceCtorEq, false_implies, true_implies, forall_const, not_true_eq_false, not_false_eq_true, ite_true, ite_false, Bool.false_eq_true, I_I, J_J, Nat.add_left_cancel_iff, Nat.reduceEqDiff, Nat.add_eq_left, Nat.left_eq_add, false_and, and_false, Nat.reduceSub, Nat.sub_self, Nat.le_refl, Nat.zero_le, ge_iff_le, Nat.reduceAdd, Nat.reduceLeDiff, Nat.zero_add, Nat.reduceLT, hs, oi_nat, oi_le hRn hR, vp_oi hR, oi_nc hR, e0, oi_e0 hDR, oi_add]
    refine ⟨fun h => absurd h (by omega), fun _ => ⟨by omega, fun hz => ?_, fun hz => ⟨by omega, ?_⟩⟩⟩
    · have ez : a_zc A lo (k + 1) = a_zc A lo k := by simp only [a_zc]; rw [if_pos hz]; omega
      rw [ez] at hrest
      refine hrest w (fun j hj => ?_) (Fr.refl _ _)
      rw [hr j hj]
      by_cases h1 : j < k
      · rw [if_pos h1, if_pos (by omega)]
      · by_cases h2 : j = k
        · subst h2; rw [if_neg h1, if_pos (by omega), hz]
        · rw [if_neg h1, if_neg (by omega)]
    · have ez : a_zc A lo (k + 1) = a_zc A lo k + 1 := by simp only [a_zc]; rw [if_neg hz]
      rw [ez] at hrest
      refine hrest _ (fun j hj => ?_) ((Fr.refl _ _).I (by simp))
      rw [I_I]
      by_cases h2 : j = k
      · rw [if_pos ⟨rfl, h2⟩, if_pos (by omega)]
      · rw [if_neg (fun q => h2 q.2), hr j hj]
        by_cases h1 : j < k
        · rw [if_pos h1, if_pos (by omega)]
        · rw [if_neg h1, if_neg (by omega)]
theorem c_clearDigits {a lo n : Nat} {A : Row} {w : mW} {Q : mW → mO → Prop} (hn : n ≤ 16) (hs : w_sh w a = (1, n)) (hr : ∀ j, j < n → w_I w a j = Int32.ofInt (A (lo + j))) (hd : ∀ j, j < n → 0 ≤ A (lo + j) ∧ A (lo + j) ≤ 9)
  (hq : ∀ w', (∀ j, j < n → w_I w' a j = Int32.ofInt 0) → Fr [a] w w' → Q w' (.inl (some (.int (Int32.ofInt (a_zc A lo n)))))) : CT n_X2_clearDigits [.ref a] w Q := by
  refine ct_X2_clearDigits (rt_X2_clearDigits_0 ?_)
  simp only [wp_c, wp_n, jj_n, v_ct, Int.reduceToNat, Int.toNat_natCast, stE, wlE, lgt, lpu, lpw, v_c2, va_s, true_and, and_true, Option.toList, List.nil_append, List.cons_append, List.take, List.drop, List.reverse, List.reverseAux, List.length_cons, List.length_nil, reduceCtorEq, false_implies, true_implies, forall_const, not_true_eq_false, not_false_eq_true, ite_true, ite_false, Bool.false_eq_true, I_I, J_J, Nat.add_left_cancel_iff, Nat.reduceEqDiff, Nat.add_eq_left, Nat.left_eq_add, false_and, and_false, Nat.reduceSub, Nat.sub_self, Nat.le_refl, Nat.zero_le, ge_iff_le, Nat.reduceAdd, Nat.reduceLeDiff, Nat.zero_add, Nat.reduceLT]
  exact c_clr_4 (A := A) (lo := lo) hn n 0 w (by omega) hs (fun j hj => by rw [if_neg (by omega)]; exact hr j hj) hd hq
theorem MemA.zdig {w w' : mW} {b : Nat} {A : Row} (h : MemA w b A) (f : Fr [b + 2] w w') (hz : ∀ j, j < 16 → w_I w' (b + 2) j = Int32.ofInt 0) : MemA w' b (a_z 28 16 A) := by
  have e : ∀ c, c ≠ 2 → w_I w' (b + c) = w_I w (b + c) := fun c hc => (f.2.2.2 (b + c) (by simp [hc])).1
  have e0 : w_I w' b = w_I w b := e 0 (by omega)
  obtain ⟨⟨b0, b1, b2, b3, b4⟩, a1, a2, a3, a4, a5, a6, ⟨c5, c6, c7⟩, a8, a9⟩ := h
  refine ⟨⟨?_, ?_, ?_, ?_, ?_⟩, fun j hj => ?_, fun j hj => ?_, fun j hj => ?_, fun j hj => ?_, fun j hj => ?_, fun j hj => ?_, ⟨?_, ?_, ?_⟩, fun j hj => ?_, fun j hj => ?_⟩
  all_goals unfold a_z
  case refine_7 => rw [if_pos (by omega)]; exact hz j hj
  all_goals rw [if_neg (by omega)]
  all_goals first | rw [e0] | rw [e _ (by omega)]
  all_goals first | assumption | exact a1 _ hj | exact a3 _ hj | exact a4 _ hj | exact a5 _ hj | exact a6 _ hj | exact a8 _ hj | exact a9 _ hj
theorem MemA.zcnt {w w' : mW} {b : Nat} {A : Row} (h : MemA w b A) (f : Fr [b + 3] w w') (hz : ∀ j, j < 8 → w_I w' (b + 3) j = Int32.ofInt 0) : MemA w' b (a_z 44 8 A) := by
  have e : ∀ c, c ≠ 3 → w_I w' (b + c) = w_I w (b + c) := fun c hc => (f.2.2.2 (b + c) (by simp [hc])).1
  have e0 : w_I w' b = w_I w b := e 0 (by omega)
  obtain ⟨⟨b0, b1, b2, b3, b4⟩, a1, a2, a3, a4, a5, a6, ⟨c5, c6, c7⟩, a8, a9⟩ := h
  refine ⟨⟨?_, ?_, ?_, ?_, ?_⟩, fun j hj => ?_, fun j hj => ?_, fun j hj => ?_, fun j hj => ?_, fun j hj => ?_, fun j hj => ?_, ⟨?_, ?_, ?_⟩, fun j hj => ?_, fun j hj => ?_⟩
  all_goals unfold a_z
  case refine_8 => rw [if_pos (by omega)]; exact hz j hj
  all_goals rw [if_neg (by omega)]
  all_goals first | rw [e0] | rw [e _ (by omega)]
  all_goals first | assumption | exact a1 _ hj | exact a2 _ hj | exact a4 _ hj | exact a5 _ hj | exact a6 _ hj | exact a8 _ hj | exact a9 _ hj
theorem MemA.zpin {w w' : mW} {b : Nat} {A : Row} (h : MemA w b A) (f : Fr [b + 1] w w') (hz : ∀ j, j < 8 → w_I w' (b + 1) j = Int32.ofInt 0) : MemA w' b (a_z 20 8 A) := by
  have e : ∀ c, c ≠ 1 → w_I w' (b + c) = w_I w (b + c) := fun c hc => (f.2.2.2 (b + c) (by simp [hc])).1
  have e0 : w_I w' b = w_I w b := e 0 (by omega)
  obtain ⟨⟨b0, b1, b2, b3, b4⟩, a1, a2, a3, a4, a5, a6, ⟨c5, c6, c7⟩, a8, a9⟩ := h
  refine ⟨⟨?_, ?_, ?_, ?_, ?_⟩, fun j hj => ?_, fun j hj => ?_, fun j hj => ?_, fun j hj => ?_, fun j hj => ?_, fun j hj => ?_, ⟨?_, ?_, ?_⟩, fun j hj => ?_, fun j hj => ?_⟩
  all_goals unfold a_z
  case refine_6 => rw [if_pos (by omega)]; exact hz j hj
  all_goals rw [if_neg (by omega)]
  all_goals first | rw [e0] | rw [e _ (by omega)]
  all_goals first | assumption | exact a2 _ hj | exact a3 _ hj | exact a4 _ hj | exact a5 _ hj | exact a6 _ hj | exact a8 _ hj | exact a9 _ hj
theorem TR.fr {l : List Nat} {w w' : mW} {b : Nat} {A B : Row} (h : TR w b A) (f : Fr l w w') (h9 : b + 9 ∉ l) (e : ∀ j, 5 ≤ j → j < 9 → B j = A j) : TR w' b B := by
  obtain ⟨dv, d, p, pl, c, l0, t, t1, t2, t3⟩ := h
  refine ⟨dv, d, p, pl, c, l0, ?_, t1, t2, fun h => ?_⟩
  · rw [e 5 (by omega) (by omega)]; exact t.fr f h9
  · rw [e 5 (by omega) (by omega)] at h ⊢
    rw [e 6 (by omega) (by omega), e 7 (by omega) (by omega), e 8 (by omega) (by omega)]; exact t3 h
theorem tn_0 : ∀ n : Nat, tn (fun _ => 0) n = 0 := by
  intro n
  induction n with
  | zero => rfl
  | succ n ih => simp [tn, ih]
theorem du_z {A : Row} (h : ∀ j, j < 16 → A (116 + j) = 0) (h1 : A 1 ≤ 16) : du A = 0 := by
  unfold du
  rw [hn_tn, tn_c (g := fun _ => 0) _ (fun i hi => h i (by omega)), tn_0]
  omega
theorem MS.zdig {w w' : mW} {b : Nat} {A : Row} (h : MS w b A) (hz1 : A 1 ≤ 16) (f : Fr [b + 2] w w') (hz : ∀ j, j < 16 → w_I w' (b + 2) j = Int32.ofInt 0) : MS (s_J w' b 5 (Int64.ofInt 0)) b (a_z 116 16 (a_z 28 16 A)) := by
  obtain ⟨hM, hA, hL, hD, hT⟩ := h
  have f2 : Fr [b + 2, b] w (s_J w' b 5 (Int64.ofInt 0)) := (f.mono (by simp)).J (by simp)
  refine ⟨hM.fr f2, ?_, ?_, ?_, ?_⟩
  · have g : MemA w' b (a_z 28 16 A) := hA.zdig f hz
    refine MemA.row (A := a_z 28 16 A) (show MemA (s_J w' b 5 (Int64.ofInt 0)) b (a_z 28 16 A) from g) (fun j hj h5 => ?_)
    unfold a_z; rw [if_neg (by omega)]
  · exact (hL.fr f2 (by simp) (by simp)).row (by unfold a_z; rw [if_neg (by omega), if_neg (by omega)]) (fun j hj => by unfold a_z; rw [if_neg (by omega), if_neg (by omega)])
  · rw [J_J, if_pos ⟨rfl, rfl⟩, du_z]
    · intro j hj; unfold a_z; rw [if_pos (by omega)]
    · unfold a_z; rw [if_neg (by omega), if_neg (by omega)]; exact hz1
  · exact hT.fr f2 (by simp) (fun j h1 h2 => by unfold a_z; rw [if_neg (by omega), if_neg (by omega)])
theorem MS.zrow {w w' : mW} {b c lo n : Nat} {A : Row} (h : MS w b A) (hA : MemA w' b (a_z lo n A)) (hc : c = 1 ∨ c = 3) (f : Fr [b + c] w w') (hl : 19 < lo ∧ lo + n ≤ 116) : MS w' b (a_z lo n A) := by
  obtain ⟨hM, -, hL, hD, hT⟩ := h
  refine ⟨hM.fr f, hA, ?_, ?_, ?_⟩
  · exact (hL.fr f (by simp; omega) (by simp; omega)).row (by unfold a_z; rw [if_neg (by omega)]) (fun j hj => by unfold a_z; rw [if_neg (by omega)])
  · rw [(f.2.2.2 b (by simp; omega)).2, hD]; congr 1
    unfold du
    have e1 : a_z lo n A 1 = A 1 := by unfold a_z; rw [if_neg (by omega)]
    by_cases hs : (A 1).toNat = 0
    · rw [e1, hs]; rfl
    · rw [e1]; exact (hn_c _ _ (fun i hi => by unfold a_z; rw [if_neg (by omega)])).symm
  · exact hT.fr f (by simp; omega) (fun j h1 h2 => by unfold a_z; rw [if_neg (by omega)])
def a_c1 (A : Row) (t : Int) : Row × Int := if t = 0 ∨ t = 1 then (a_z 116 16 (a_z 28 16 A), a_zc A 28 16) else (A, 0)
def a_c2 (r : Row × Int) (t : Int) : Row × Int := if t = 0 ∨ t = 2 then (a_z 44 8 r.1, r.2 + a_zc r.1 44 8) else r
def a_c3 (r : Row × Int) (t : Int) : Row × Int := if t = 0 ∨ t = 3 then (a_z 20 8 r.1, r.2 + a_zc r.1 20 8) else r
def a_clear (A : Row) (t : Int) : Row × Int := a_c3 (a_c2 (a_c1 A t) t) t
theorem c_clear_64 {b : Nat} {x : Value} {v : Int} {w : mW} {Q : mW → mO → Prop} (hq : Q w (.inl (some (.int (Int32.ofInt v))))) : RT n_X2_clearPart 64 [.ref b, x, .int (Int32.ofInt v)] [] w (0, 0, false) Q := by
  refine rt_X2_clearPart_64 ?_
  simp only [wp_c, wp_n, jj_n, v_ct, Int.reduceToNat, Int.toNat_natCast, stE, wlE, lgt, lpu, lpw, v_c2, va_s, true_and, and_true, Option.toList, List.nil_append, List.cons_append, List.take, List.drop, List.reverse, List.reverseAux, List.length_cons, List.length_nil, reduceCtorEq, false_implies, true_implies, forall_const, not_true_eq_false, not_false_eq_true, ite_true, ite_false, Bool.false_eq_true, I_I, J_J, Nat.add_left_cancel_iff, Nat.reduceEqDiff, Nat.add_eq_left, Nat.left_eq_add, false_and, and_false, Nat.reduceSub, Nat.sub_self, Nat.le_refl, Nat.zero_le, ge_iff_le, Nat.reduceAdd, Nat.reduceLeDiff, Nat.zero_add, Nat.reduceLT, mr_X2_clearPart]
  exact hq
theorem c_clear_45 {b : Nat} {t : Int} {r : Row × Int} {w : mW} {Q : mW → mO → Prop} (ht : inR t) (hS : MS w b r.1) (hd : ∀ j, j < 8 → 0 ≤ r.1 (20 + j) ∧ r.1 (20 + j) ≤ 9) (hq : ∀ w', MS w' b (a_c3 r t).1 → FrM b w w' → Q w' (.inl (some (.int (Int32.ofInt (a_c3 r t).2))))) :
    RT n_X2_clearPart 45 [.ref b, .int (Int32.ofInt t), .int (Int32.ofInt r.2)] [] w (0, 0, false) Q := by
  have s0 := hS.1.1.1
  have s1 := hS.1.1.2.1
  have r6 := hS.1.2.1
  have h54 : t = 0 ∨ t = 3 → RT n_X2_clearPart 54 [.ref b, .int (Int32.ofInt t), .int (Int32.ofInt r.2)] [] w (0, 0, false) Q := by
    intro h
    unfold a_c3 at hq; rw [if_pos h] at hq
    refine rt_X2_clearPart_54 ?_
    simp only [wp_c, wp_n, jj_n, v_ct, Int.reduceToNat, Int.toNat_natCast, stE, wlE, lgt, lpu, lpw, v_c2, va_s, true_and, and_true, Option.toList, List.nil_append, List.cons_append, List.take, List.drop, List.reverse, List.reverseAux, List.length_cons, List.length_nil, reduceCtorEq, false_implies, true_implies, forall_const, not_true_eq_false, not_false_eq_true, ite_true, ite_false, Bool.false_eq_true, I_I, J_J, Nat.add_left_cancel_iff, Nat.reduceEqDiff, Nat.add_eq_left, Nat.left_eq_add, false_and, and_false, Nat.reduceSub, Nat.sub_self, Nat.le_refl, Nat.zero_le, ge_iff_le, Nat.reduceAdd, Nat.reduceLeDiff, Nat.zero_add, Nat.reduceLT, s0, r6, mh_X2_clearPart]
    refine c_clearDigits (A := r.1) (lo := 20) (n := 8) (by omega) s1 (fun j hj => hS.2.1.2.1 j hj) hd fun w' k1 k2 => ?_
    simp only [wp_c, wp_n, jj_n, v_ct, Int.reduceToNat, Int.toNat_natCast, stE, wlE, lgt, lpu, lpw, v_c2, va_s, true_and, and_true, Option.toList, List.nil_append, List.cons_append, List.take, List.drop, List.reverse, List.reverseAux, List.length_cons, List.length_nil, reduceCtorEq, false_implies, true_implies, forall_const, not_true_eq_false, not_false_eq_true, ite_true, ite_false, Bool.false_eq_true, I_I, J_J, Nat.add_left_cancel_iff, Nat.reduceEqDiff, Nat.add_eq_left, Nat.left_eq_add, false_and, and_false, Nat.reduceSub, Nat.sub_self, Nat.le_refl, Nat.zero_le, ge_iff_le, Nat.reduceAdd, Nat.reduceLeDiff, Nat.zero_add, Nat.reduceLT, oi_add]
    refine c_clear_64 (hq w' (hS.zrow (hS.2.1.zpin k2 k1) (Or.inl rfl) k2 (by omega)) (k2.toM (by simp)))
  refine rt_X2_clearPart_45 ?_
  simp only [wp_c, wp_n, jj_n, v_ct, Int.reduceToNat, Int.toNat_natCast, stE, wlE, lgt, lpu, lpw, v_c2, va_s, true_and, and_true, Option.toList, List.nil_append, List.cons_append, List.take, List.drop, List.reverse, List.reverseAux, List.length_cons, List.length_nil, reduceCtorEq, false_implies, true_implies, forall_const, not_true_eq_false, not_false_eq_true, ite_true, ite_false, Bool.false_eq_true, I_I, J_J, Nat.add_left_cancel_iff, Nat.reduceEqDiff, Nat.add_eq_left, Nat.left_eq_add, false_and, and_false, Nat.reduceSub, Nat.sub_self, Nat.le_refl, Nat.zero_le, ge_iff_le, Nat.reduceAdd, Nat.reduceLeDiff, Nat.zero_add, Nat.reduceLT, oi_e0 ht, oi_eq ht (show inR 3 from ⟨by omega, by omega⟩)]
  refine ⟨fun h => h54 (Or.inl h), fun h => ⟨fun h' => ?_, fun h' => h54 (Or.inr (by omega))⟩⟩
  unfold a_c3 at hq; rw [if_neg (by omega)] at hq
  exact c_clear_64 (hq w hS (FrM.refl b w))
theorem c_clear_26 {b : Nat} {t : Int} {r : Row × Int} {w : mW} {Q : mW → mO → Prop} (ht : inR t) (hS : MS w b r.1) (hd : ∀ j, j < 8 → 0 ≤ r.1 (20 + j) ∧ r.1 (20 + j) ≤ 9) (hd2 : ∀ j, j < 8 → 0 ≤ r.1 (44 + j) ∧ r.1 (44 + j) ≤ 9) (hq : ∀ w', MS w' b (a_c3 (a_c2 r t) t).1 → FrM b w w' → Q w' (.inl (some (.int (Int32.ofInt (a_c3 (a_c2 r t) t).2))))) :
    RT n_X2_clearPart 26 [.ref b, .int (Int32.ofInt t), .int (Int32.ofInt r.2)] [] w (0, 0, false) Q := by
  have s0 := hS.1.1.1
  have s3 := hS.1.1.2.2.2.1
  have r8 := hS.1.2.2.2.1
  have h35 : t = 0 ∨ t = 2 → RT n_X2_clearPart 35 [.ref b, .int (Int32.ofInt t), .int (Int32.ofInt r.2)] [] w (0, 0, false) Q := by
    intro h
    unfold a_c2 at hq; rw [if_pos h] at hq
    refine rt_X2_clearPart_35 ?_
    simp only [wp_c, wp_n, jj_n, v_ct, Int.reduceToNat, Int.toNat_natCast, stE, wlE, lgt, lpu, lpw, v_c2, va_s, true_and, and_true, Option.toList, List.nil_append, List.cons_append, List.take, List.drop, List.reverse, List.reverseAux, List.length_cons, List.length_nil, reduceCtorEq, false_implies, true_implies, forall_const, not_true_eq_false, not_false_eq_true, ite_true, ite_false, Bool.false_eq_true, I_I, J_J, Nat.add_left_cancel_iff, Nat.reduceEqDiff, Nat.add_eq_left, Nat.left_eq_add, false_and, and_false, Nat.reduceSub, Nat.sub_self, Nat.le_refl, Nat.zero_le, ge_iff_le, Nat.reduceAdd, Nat.reduceLeDiff, Nat.zero_add, Nat.reduceLT, s0, r8, mh_X2_clearPart]
    refine c_clearDigits (A := r.1) (lo := 44) (n := 8) (by omega) s3 (fun j hj => hS.2.1.2.2.2.1 j hj) hd2 fun w' k1 k2 => ?_
    simp only [wp_c, wp_n, jj_n, v_ct, Int.reduceToNat, Int.toNat_natCast, stE, wlE, lgt, lpu, lpw, v_c2, va_s, true_and, and_true, Option.toList, List.nil_append, List.cons_append, List.take, List.drop, List.reverse, List.reverseAux, List.length_cons, List.length_nil, reduceCtorEq, false_implies, true_implies, forall_const, not_true_eq_false, not_false_eq_true, ite_true, ite_false, Bool.false_eq_true, I_I, J_J, Nat.add_left_cancel_iff, Nat.reduceEqDiff, Nat.add_eq_left, Nat.left_eq_add, false_and, and_false, Nat.reduceSub, Nat.sub_self, Nat.le_refl, Nat.zero_le, ge_iff_le, Nat.reduceAdd, Nat.reduceLeDiff, Nat.zero_add, Nat.reduceLT, oi_add]
    refine c_clear_45 (r := (a_z 44 8 r.1, r.2 + a_zc r.1 44 8)) ht (hS.zrow (hS.2.1.zcnt k2 k1) (Or.inr rfl) k2 (by omega)) (fun j hj => by simp only [a_z]; rw [if_neg (by omega)]; exact hd j hj) fun w'' m1 m2 => ?_
    exact hq w'' m1 ((k2.toM (by simp)).trans m2)
  refine rt_X2_clearPart_26 ?_
  simp only [wp_c, wp_n, jj_n, v_ct, Int.reduceToNat, Int.toNat_natCast, stE, wlE, lgt, lpu, lpw, v_c2, va_s, true_and, and_true, Option.toList, List.nil_append, List.cons_append, List.take, List.drop, List.reverse, List.reverseAux, List.length_cons, List.length_nil, reduceCtorEq, false_implies, true_implies, forall_const, not_true_eq_false, not_false_eq_true, ite_true, ite_false, Bool.false_eq_true, I_I, J_J, Nat.add_left_cancel_iff, Nat.reduceEqDiff, Nat.add_eq_left, Nat.left_eq_add, false_and, and_false, Nat.reduceSub, Nat.sub_self, Nat.le_refl, Nat.zero_le, ge_iff_le, Nat.reduceAdd, Nat.reduceLeDiff, Nat.zero_add, Nat.reduceLT, oi_e0 ht, oi_eq ht (show inR 2 from ⟨by omega, by omega⟩)]
  refine ⟨fun h => h35 (Or.inl h), fun h => ⟨fun h' => ?_, fun h' => h35 (Or.inr (by omega))⟩⟩
  unfold a_c2 at hq; rw [if_neg (by omega)] at hq
  exact c_clear_45 ht hS hd hq
theorem c_clearPart {b : Nat} {t : Int} {A : Row} {w : mW} {Q : mW → mO → Prop} (ht : inR t) (hS : MS w b A) (hJ : TJ A) (hq : ∀ w', MS w' b (a_clear A t).1 → FrM b w w' → Q w' (.inl (some (.int (Int32.ofInt (a_clear A t).2))))) : CT n_X2_clearPart [.ref b, .int (Int32.ofInt t)] w Q := by
  have hz := TJ_sz hJ
  have s0 := hS.1.1.1
  have s2 := hS.1.1.2.2.1
  have r7 := hS.1.2.2.1
  have d1 : ∀ j, j < 8 → 0 ≤ A (20 + j) ∧ A (20 + j) ≤ 9 := fun j hj => by have := hJ.1.2.2.1 j hj; rw [up_eq, if_neg (by omega)] at this; exact this
  have d2 : ∀ j, j < 16 → 0 ≤ A (28 + j) ∧ A (28 + j) ≤ 9 := fun j hj => by have := hJ.1.2.2.2.1 j hj; rw [up_eq, if_neg (by omega)] at this; exact this
  have d3 : ∀ j, j < 8 → 0 ≤ A (44 + j) ∧ A (44 + j) ≤ 9 := fun j hj => by have := hJ.1.2.2.2.2.1 j hj; rw [up_eq, if_neg (by omega)] at this; exact this
  have h11 : t = 0 ∨ t = 1 → RT n_X2_clearPart 11 [.ref b, .int (Int32.ofInt t), .int (Int32.ofInt 0)] [] w (0, 0, false) Q := by
    intro h
    unfold a_clear a_c1 at hq; rw [if_pos h] at hq
    refine rt_X2_clearPart_11 ?_
    simp only [wp_c, wp_n, jj_n, v_ct, Int.reduceToNat, Int.toNat_natCast, stE, wlE, lgt, lpu, lpw, v_c2, va_s, true_and, and_true, Option.toList, List.nil_append, List.cons_append, List.take, List.drop, List.reverse, List.reverseAux, List.length_cons, List.length_nil, reduceCtorEq, false_implies, true_implies, forall_const, not_true_eq_false, not_false_eq_true, ite_true, ite_false, Bool.false_eq_true, I_I, J_J, Nat.add_left_cancel_iff, Nat.reduceEqDiff, Nat.add_eq_left, Nat.left_eq_add, false_and, and_false, Nat.reduceSub, Nat.sub_self, Nat.le_refl, Nat.zero_le, ge_iff_le, Nat.reduceAdd, Nat.reduceLeDiff, Nat.zero_add, Nat.reduceLT, s0, r7, mh_X2_clearPart]
    refine c_clearDigits (A := A) (lo := 28) (n := 16) (by omega) s2 (fun j hj => hS.2.1.2.2.1 j hj) d2 fun w' k1 k2 => ?_
    simp only [wp_c, wp_n, jj_n, v_ct, Int.reduceToNat, Int.toNat_natCast, stE, wlE, lgt, lpu, lpw, v_c2, va_s, true_and, and_true, Option.toList, List.nil_append, List.cons_append, List.take, List.drop, List.reverse, List.reverseAux, List.length_cons, List.length_nil, reduceCtorEq, false_implies, true_implies, forall_const, not_true_eq_false, not_false_eq_true, ite_true, ite_false, Bool.false_eq_true, I_I, J_J, Nat.add_left_cancel_iff, Nat.reduceEqDiff, Nat.add_eq_left, Nat.left_eq_add, false_and, and_false, Nat.reduceSub, Nat.sub_self, Nat.le_refl, Nat.zero_le, ge_iff_le, Nat.reduceAdd, Nat.reduceLeDiff, Nat.zero_add, Nat.reduceLT, oi_add, k2.1, s0, lo_0, Int.zero_add]
    have k3 : Fr [b + 2, b] w (s_J w' b 5 (Int64.ofInt 0)) := (k2.mono (by simp)).J (by simp)
    refine c_clear_26 (r := (a_z 116 16 (a_z 28 16 A), a_zc A 28 16)) ht (hS.zdig (by omega) k2 k1) (fun j hj => by simp only [a_z]; rw [if_neg (by omega), if_neg (by omega)]; exact d1 j hj) (fun j hj => by simp only [a_z]; rw [if_neg (by omega), if_neg (by omega)]; exact d3 j hj) fun w'' m1 m2 => ?_
    exact hq w'' m1 ((k3.toM (by simp)).trans m2)
  refine ct_X2_clearPart (rt_X2_clearPart_0 ?_)
  simp only [wp_c, wp_n, jj_n, v_ct, Int.reduceToNat, Int.toNat_natCast, stE, wlE, lgt, lpu, lpw, v_c2, va_s, true_and, and_true, Option.toList, List.nil_append, List.cons_append, List.take, List.drop, List.reverse, List.reverseAux, List.length_cons, List.length_nil, reduceCtorEq, false_implies, true_implies, forall_const, not_true_eq_false, not_false_eq_true, ite_true, ite_false, Bool.false_eq_true, I_I, J_J, Nat.add_left_cancel_iff, Nat.reduceEqDiff, Nat.add_eq_left, Nat.left_eq_add, false_and, and_false, Nat.reduceSub, Nat.sub_self, Nat.le_refl, Nat.zero_le, ge_iff_le, Nat.reduceAdd, Nat.reduceLeDiff, Nat.zero_add, Nat.reduceLT, oi_e0 ht, oi_eq ht (show inR 1 from ⟨by omega, by omega⟩)]
  refine ⟨fun h => h11 (Or.inl h), fun h => ⟨fun h' => ?_, fun h' => h11 (Or.inr (by omega))⟩⟩
  unfold a_clear a_c1 at hq; rw [if_neg (by omega)] at hq
  exact c_clear_26 (r := (A, 0)) ht hS d1 d3 hq
theorem MS.pin {w : mW} {b j : Nat} {A : Row} {v : Int} (h : MS w b A) (hj : j < 8) : MS (s_I w (b + 1) j (Int32.ofInt v)) b (up A (20 + j) v) := by
  obtain ⟨hM, hA, hL, hD, hT⟩ := h
  have f : Fr [b + 1] w (s_I w (b + 1) j (Int32.ofInt v)) := (Fr.refl _ _).I (by simp)
  refine ⟨hM.fr f, hA.pin hj, (hL.fr f (by simp) (by simp)).row (by rw [up_eq, if_neg (by omega)]) (fun i hi => by rw [up_eq, if_neg (by omega)]), ?_, hT.fr f (by simp) (fun i h1 h2 => by rw [up_eq, if_neg (by omega)])⟩
  show w_J w b 5 = _
  rw [hD]; congr 1
  unfold du
  rw [up_eq, if_neg (by omega)]
  exact (hn_c _ _ (fun i hi => by rw [up_eq, if_neg (by omega)])).symm
theorem TJ.pin {A : Row} {j : Nat} {v : Int} (h : TJ A) (hv : 0 ≤ v ∧ v ≤ 9) (hj : j < 8) : TJ (up A (20 + j) v) := by
  obtain ⟨⟨k0, k7, k1, k2, k3, k4, k5⟩, hd⟩ := h
  have e : up (up A (20 + j) v) 7 1 = up (up A 7 1) (20 + j) v := by
    funext i; simp only [up_eq]
    by_cases h1 : i = 7
    · rw [if_pos h1, if_neg (by omega), if_pos h1]
    · rw [if_neg h1, if_neg h1]
  refine ⟨?_, fun i hi => by rw [up_eq, if_neg (by omega)]; exact hd i hi⟩
  rw [e]
  generalize up A 7 1 = B at k0 k7 k1 k2 k3 k4 k5
  refine ⟨?_, ?_, fun i hi => ?_, fun i hi => ?_, fun i hi => ?_, fun i hi => ?_, fun i hi => ?_⟩
  · simp only [up_eq]
    rw [if_neg (by omega), if_neg (by omega), if_neg (by omega), if_neg (by omega), if_neg (by omega)]; exact k0
  · rw [up_eq, if_neg (by omega)]; exact k7
  all_goals rw [up_eq]
  · split
    · exact hv
    · exact k1 i hi
  · rw [if_neg (by omega)]; exact k2 i hi
  · rw [if_neg (by omega)]; exact k3 i hi
  · rw [if_neg (by omega)]; exact k4 i hi
  · rw [if_neg (by omega)]; exact k5 i hi
def a_pp : Nat → Row → Nat → Int → Row
  | 0, A, _, _ => A
  | n + 1, A, j, v => a_pp n (up A (20 + j) (v % 10)) (j + 1) (v / 10)
theorem c_pp_4 {b : Nat} {x : Int32} {Q : mW → mO → Prop} : ∀ (n j : Nat) (v : Int) (A : Row) (w : mW), (j : Int) + n = A 0 → 0 ≤ v ∧ v ≤ 2147483647 → MS w b A → TJ A → (∀ w', MS w' b (a_pp n A j v) → FrM b w w' → TJ (a_pp n A j v) → Q w' (.inl none)) →
    RT n_X2_putPins 4 [.ref b, .int x, .int (Int32.ofInt v), .int (Int32.ofInt j)] [] w (0, 0, false) Q := by
  intro n
  induction n with
  | zero =>
    intro j v A w hn hv hS hJ hq
    have hz := TJ_sz hJ
    have hR : inR (j : Int) := ⟨by omega, by omega⟩
    have hR0 : inR (A 0) := ⟨by omega, by omega⟩
    refine rt_X2_putPins_4 ?_
    simp only [wp_c, wp_n, jj_n, v_ct, Int.reduceToNat, Int.toNat_natCast, stE, wlE, lgt, lpu, lpw, v_c2, va_s, true_and, and_true, Option.toList, List.nil_append, List.cons_append, List.take, List.drop, List.reverse, List.reverseAux, List.length_cons, List.length_nil, reduceCtorEq, false_implies, true_implies, forall_const, not_true_eq_false, not_false_eq_true, ite_true, ite_false, Bool.false_eq_true, I_I, J_J, Nat.add_left_cancel_iff, Nat.reduceEqDiff, Nat.add_eq_left, Nat.left_eq_add, false_and, and_false, Nat.reduceSub, Nat.sub_self, Nat.le_refl, Nat.zero_le, ge_iff_le, Nat.reduceAdd, Nat.reduceLeDiff, Nat.zero_add, Nat.reduceLT, hS.1.1.1, hS.2.1.1.1, oi_le hR0 hR]
    refine ⟨fun _ => ?_, fun h => absurd (by omega) h⟩
    refine rt_X2_putPins_33 ?_
    simp only [wp_c, wp_n, jj_n, v_ct, Int.reduceToNat, Int.toNat_natCast, stE, wlE, lgt, lpu, lpw, v_c2, va_s, true_and, and_true, Option.toList, List.nil_append, List.cons_append, List.take, List.drop, List.reverse, List.reverseAux, List.length_cons, List.length_nil, reduceCtorEq, false_implies, true_implies, forall_const, not_true_eq_false, not_false_eq_true, ite_true, ite_false, Bool.false_eq_true, I_I, J_J, Nat.add_left_cancel_iff, Nat.reduceEqDiff, Nat.add_eq_left, Nat.left_eq_add, false_and, and_false, Nat.reduceSub, Nat.sub_self, Nat.le_refl, Nat.zero_le, ge_iff_le, Nat.reduceAdd, Nat.reduceLeDiff, Nat.zero_add, Nat.reduceLT]
    exact hq w hS (FrM.refl b w) hJ
  | succ n ih =>
    intro j v A w hn hv hS hJ hq
    have hz := TJ_sz hJ
    have hR : inR (j : Int) := ⟨by omega, by omega⟩
    have hR0 : inR (A 0) := ⟨by omega, by omega⟩
    have hvR : inR v := ⟨by omega, by omega⟩
    have h10 : inR (10 : Int) := ⟨by omega, by omega⟩
    have hj : j < 8 := by omega
    refine rt_X2_putPins_4 ?_
    simp only [wp_c, wp_n, jj_n, v_ct, Int.reduceToNat, Int.toNat_natCast, stE, wlE, lgt, lpu, lpw, v_c2, va_s, true_and, and_true, Option.toList, List.nil_append, List.cons_append, List.take, List.drop, List.reverse, List.reverseAux, List.length_cons, List.length_nil, reduceCtorEq, false_implies, true_implies, forall_const, not_true_eq_false, not_false_eq_true, ite_true, ite_false, Bool.false_eq_true, I_I, J_J, Nat.add_left_cancel_iff, Nat.reduceEqDiff, Nat.add_eq_left, Nat.left_eq_add, false_and, and_false, Nat.reduceSub, Nat.sub_self, Nat.le_refl, Nat.zero_le, ge_iff_le, Nat.reduceAdd, Nat.reduceLeDiff, Nat.zero_add, Nat.reduceLT, hS.1.1.1, hS.2.1.1.1, hS.1.1.2.1, hS.1.2.1, oi_le hR0 hR, vp_oi hR, oi_nc hR, oi_add, oi_div hvR h10 hv.1 (by omega : (0 : Int) < 10)]
    have er := oi_rem hvR h10 hv.1 (by omega : (0 : Int) < 10)
    rw [oi_div hvR h10 hv.1 (by omega)] at er
    rw [er]
    refine ⟨fun h => absurd h (by omega), fun _ => ⟨by decide, by omega, by decide, ?_⟩⟩
    have f : FrM b w (s_I w (b + 1) j (Int32.ofInt (v % 10))) := ((Fr.refl [b + 1] w).I (by simp)).toM (by simp)
    refine ih (j + 1) (v / 10) (up A (20 + j) (v % 10)) _ (by rw [up_eq, if_neg (by omega)]; omega) (by omega) (hS.pin hj) (hJ.pin (by omega) hj) fun w' q1 q2 q3 => hq w' q1 (f.trans q2) q3
theorem c_putPins {b : Nat} {v : Int} {A : Row} {w : mW} {Q : mW → mO → Prop} (hv : 0 ≤ v ∧ v ≤ 2147483647) (hS : MS w b A) (hJ : TJ A) (hq : ∀ w', MS w' b (a_pp (A 0).toNat A 0 v) → FrM b w w' → TJ (a_pp (A 0).toNat A 0 v) → Q w' (.inl none)) : CT n_X2_putPins [.ref b, .int (Int32.ofInt v)] w Q := by
  have hz := TJ_sz hJ
  refine ct_X2_putPins (rt_X2_putPins_0 ?_)
  simp only [wp_c, wp_n, jj_n, v_ct, Int.reduceToNat, Int.toNat_natCast, stE, wlE, lgt, lpu, lpw, v_c2, va_s, true_and, and_true, Option.toList, List.nil_append, List.cons_append, List.take, List.drop, List.reverse, List.reverseAux, List.length_cons, List.length_nil, reduceCtorEq, false_implies, true_implies, forall_const, not_true_eq_false, not_false_eq_true, ite_true, ite_false, Bool.false_eq_true, I_I, J_J, Nat.add_left_cancel_iff, Nat.reduceEqDiff, Nat.add_eq_left, Nat.left_eq_add, false_and, and_false, Nat.reduceSub, Nat.sub_self, Nat.le_refl, Nat.zero_le, ge_iff_le, Nat.reduceAdd, Nat.reduceLeDiff, Nat.zero_add, Nat.reduceLT]
  exact c_pp_4 (A 0).toNat 0 v A w (by omega) hv hS hJ hq
theorem num_7 (A : Row) (v : Int) : p_num (up A 7 v) = p_num A := by
  unfold p_num
  rw [up_eq, if_neg (by omega)]
  exact hn_c _ _ (fun i hi => by rw [up_eq, if_neg (by omega)])
theorem c_pinNumberJ {b : Nat} {w : mW} {A : Row} {Q : mW → mO → Prop} (hM : Mb w b) (hA : MemA w b A) (hJ : TI (up A 7 1)) (hq : Q w (.inl (some (.int (Int32.ofInt (p_num A)))))) : CT n_X2_pinNumber [.ref b] w Q :=
  c_pinNumber (A := up A 7 1) hM (hA.free (by omega)) hJ (by rw [num_7]; exact hq)
def a_tr : Nat → Row → Nat → Row
  | 0, A, _ => A
  | n + 1, A, j => a_tr n (up A (20 + j) (A (28 + ((A 4).toNat + j)))) (j + 1)
theorem clear_TJ {A : Row} {t : Int} (h : TJ A) : TJ (a_clear A t).1 := by
  have key : ∀ (A : Row) (lo n : Nat), 19 < lo ∧ lo + n ≤ 132 → TJ A → TJ (a_z lo n A) := by
    intro A lo n hl h
    obtain ⟨⟨k0, k7, k1, k2, k3, k4, k5⟩, hd⟩ := h
    have e : up (a_z lo n A) 7 1 = a_z lo n (up A 7 1) := by
      funext i; simp only [up_eq, a_z]
      by_cases h1 : i = 7
      · rw [if_pos h1, if_neg (by omega), if_pos h1]
      · rw [if_neg h1, if_neg h1]
    refine ⟨?_, fun i hi => by unfold a_z; split; omega; exact hd i hi⟩
    rw [e]
    generalize up A 7 1 = B at k0 k7 k1 k2 k3 k4 k5
    refine ⟨?_, ?_, fun i hi => ?_, fun i hi => ?_, fun i hi => ?_, fun i hi => ?_, fun i hi => ?_⟩
    · simp only [a_z]
      rw [if_neg (by omega), if_neg (by omega), if_neg (by omega), if_neg (by omega), if_neg (by omega)]; exact k0
    · unfold a_z; rw [if_neg (by omega)]; exact k7
    all_goals unfold a_z
    all_goals split
    all_goals first | omega | exact k1 i hi | exact k2 i hi | exact k3 i hi | exact k4 i hi | exact k5 i hi
  have h1 : TJ (a_c1 A t).1 := by
    unfold a_c1; split
    · exact key _ _ _ (by omega) (key _ _ _ (by omega) h)
    · exact h
  have h2 : TJ (a_c2 (a_c1 A t) t).1 := by
    unfold a_c2; split
    · exact key _ _ _ (by omega) h1
    · exact h1
  unfold a_clear a_c3; split
  · exact key _ _ _ (by omega) h2
  · exact h2
theorem c_tr_2 {b : Nat} {Q : mW → mO → Prop} : ∀ (n j : Nat) (A : Row) (w : mW), (j : Int) + n = A 0 → MS w b A → TJ A → (∀ w', MS w' b (a_clear (a_tr n A j) 1).1 → FrM b w w' → TJ (a_clear (a_tr n A j) 1).1 → Q w' (.inl (some (.int (Int32.ofInt (p_num (a_clear (a_tr n A j) 1).1)))))) →
    RT n_X2_transferBack 2 [.ref b, .int (Int32.ofInt j)] [] w (0, 0, false) Q := by
  intro n
  induction n with
  | zero =>
    intro j A w hn hS hJ hq
    have hz := TJ_sz hJ
    have hR : inR (j : Int) := ⟨by omega, by omega⟩
    have hR0 : inR (A 0) := ⟨by omega, by omega⟩
    have s0 := hS.1.1.1
    refine rt_X2_transferBack_2 ?_
    simp only [wp_c, wp_n, jj_n, v_ct, Int.reduceToNat, Int.toNat_natCast, stE, wlE, lgt, lpu, lpw, v_c2, va_s, true_and, and_true, Option.toList, List.nil_append, List.cons_append, List.take, List.drop, List.reverse, List.reverseAux, List.length_cons, List.length_nil, reduceCtorEq, false_implies, true_implies, forall_const, not_true_eq_false, not_false_eq_true, ite_true, ite_false, Bool.false_eq_true, I_I, J_J, Nat.add_left_cancel_iff, Nat.reduceEqDiff, Nat.add_eq_left, Nat.left_eq_add, false_and, and_false, Nat.reduceSub, Nat.sub_self, Nat.le_refl, Nat.zero_le, ge_iff_le, Nat.reduceAdd, Nat.reduceLeDiff, Nat.zero_add, Nat.reduceLT, s0, hS.2.1.1.1, oi_le hR0 hR]
    refine ⟨fun _ => ?_, fun h => absurd (by omega) h⟩
    refine rt_X2_transferBack_33 ?_
    simp only [wp_c, wp_n, jj_n, v_ct, Int.reduceToNat, Int.toNat_natCast, stE, wlE, lgt, lpu, lpw, v_c2, va_s, true_and, and_true, Option.toList, List.nil_append, List.cons_append, List.take, List.drop, List.reverse, List.reverseAux, List.length_cons, List.length_nil, reduceCtorEq, false_implies, true_implies, forall_const, not_true_eq_false, not_false_eq_true, ite_true, ite_false, Bool.false_eq_true, I_I, J_J, Nat.add_left_cancel_iff, Nat.reduceEqDiff, Nat.add_eq_left, Nat.left_eq_add, false_and, and_false, Nat.reduceSub, Nat.sub_self, Nat.le_refl, Nat.zero_le, ge_iff_le, Nat.reduceAdd, Nat.reduceLeDiff, Nat.zero_add, Nat.reduceLT, s0, mh_X2_transferBack, mr_X2_transferBack]
    refine c_clearPart ⟨by omega, by omega⟩ hS hJ fun w' q1 q2 => ?_
    simp only [wp_c, wp_n, jj_n, v_ct, Int.reduceToNat, Int.toNat_natCast, stE, wlE, lgt, lpu, lpw, v_c2, va_s, true_and, and_true, Option.toList, List.nil_append, List.cons_append, List.take, List.drop, List.reverse, List.reverseAux, List.length_cons, List.length_nil, reduceCtorEq, false_implies, true_implies, forall_const, not_true_eq_false, not_false_eq_true, ite_true, ite_false, Bool.false_eq_true, I_I, J_J, Nat.add_left_cancel_iff, Nat.reduceEqDiff, Nat.add_eq_left, Nat.left_eq_add, false_and, and_false, Nat.reduceSub, Nat.sub_self, Nat.le_refl, Nat.zero_le, ge_iff_le, Nat.reduceAdd, Nat.reduceLeDiff, Nat.zero_add, Nat.reduceLT, q2.1, s0, mh_X2_transferBack, mr_X2_transferBack]
    refine c_pinNumberJ q1.1 q1.2.1 (clear_TJ hJ).1 ?_
    simp only [wp_c, wp_n, jj_n, v_ct, Int.reduceToNat, Int.toNat_natCast, stE, wlE, lgt, lpu, lpw, v_c2, va_s, true_and, and_true, Option.toList, List.nil_append, List.cons_append, List.take, List.drop, List.reverse, List.reverseAux, List.length_cons, List.length_nil, reduceCtorEq, false_implies, true_implies, forall_const, not_true_eq_false, not_false_eq_true, ite_true, ite_false, Bool.false_eq_true, I_I, J_J, Nat.add_left_cancel_iff, Nat.reduceEqDiff, Nat.add_eq_left, Nat.left_eq_add, false_and, and_false, Nat.reduceSub, Nat.sub_self, Nat.le_refl, Nat.zero_le, ge_iff_le, Nat.reduceAdd, Nat.reduceLeDiff, Nat.zero_add, Nat.reduceLT]
    exact hq w' q1 q2 (clear_TJ hJ)
  | succ n ih =>
    intro j A w hn hS hJ hq
    have hz := TJ_sz hJ
    have hR : inR (j : Int) := ⟨by omega, by omega⟩
    have hR0 : inR (A 0) := ⟨by omega, by omega⟩
    have hj : j < 8 := by omega
    have hp : A 4 + (j : Int) = (((A 4).toNat + j : Nat) : Int) := by omega
    have hp16 : (A 4).toNat + j < 16 := by omega
    have hpR : inR (((A 4).toNat + j : Nat) : Int) := ⟨by omega, by omega⟩
    have hd := hJ.1.2.2.2.1 _ hp16
    rw [up_eq, if_neg (by omega)] at hd
    refine rt_X2_transferBack_2 ?_
    simp only [wp_c, wp_n, jj_n, v_ct, Int.reduceToNat, Int.toNat_natCast, stE, wlE, lgt, lpu, lpw, v_c2, va_s, true_and, and_true, Option.toList, List.nil_append, List.cons_append, List.take, List.drop, List.reverse, List.reverseAux, List.length_cons, List.length_nil, reduceCtorEq, false_implies, true_implies, forall_const, not_true_eq_false, not_false_eq_true, ite_true, ite_false, Bool.false_eq_true, I_I, J_J, Nat.add_left_cancel_iff, Nat.reduceEqDiff, Nat.add_eq_left, Nat.left_eq_add, false_and, and_false, Nat.reduceSub, Nat.sub_self, Nat.le_refl, Nat.zero_le, ge_iff_le, Nat.reduceAdd, Nat.reduceLeDiff, Nat.zero_add, Nat.reduceLT, hS.1.1.1, hS.2.1.1.1, hS.2.1.1.2.2.2.2, hS.1.1.2.1, hS.1.1.2.2.1, hS.1.2.1, hS.1.2.2.1, oi_le hR0 hR, vp_oi hR, oi_nc hR, oi_add, hp, vp_oi hpR, oi_nc hpR, hS.2.1.r_dig hp16]
    refine ⟨fun h => absurd h (by omega), fun _ => ⟨by omega, by omega, ?_⟩⟩
    have f : FrM b w (s_I w (b + 1) j (Int32.ofInt (A (28 + ((A 4).toNat + j))))) := ((Fr.refl [b + 1] w).I (by simp)).toM (by simp)
    refine ih (j + 1) (up A (20 + j) (A (28 + ((A 4).toNat + j)))) _ (by rw [up_eq, if_neg (by omega)]; omega) (hS.pin hj) (hJ.pin hd hj) fun w' q1 q2 q3 => hq w' q1 (f.trans q2) q3
theorem c_transferBack {b : Nat} {A : Row} {w : mW} {Q : mW → mO → Prop} (hS : MS w b A) (hJ : TJ A) (hq : ∀ w', MS w' b (a_clear (a_tr (A 0).toNat A 0) 1).1 → FrM b w w' → TJ (a_clear (a_tr (A 0).toNat A 0) 1).1 → Q w' (.inl (some (.int (Int32.ofInt (p_num (a_clear (a_tr (A 0).toNat A 0) 1).1)))))) : CT n_X2_transferBack [.ref b] w Q := by
  have hz := TJ_sz hJ
  refine ct_X2_transferBack (rt_X2_transferBack_0 ?_)
  simp only [wp_c, wp_n, jj_n, v_ct, Int.reduceToNat, Int.toNat_natCast, stE, wlE, lgt, lpu, lpw, v_c2, va_s, true_and, and_true, Option.toList, List.nil_append, List.cons_append, List.take, List.drop, List.reverse, List.reverseAux, List.length_cons, List.length_nil, reduceCtorEq, false_implies, true_implies, forall_const, not_true_eq_false, not_false_eq_true, ite_true, ite_false, Bool.false_eq_true, I_I, J_J, Nat.add_left_cancel_iff, Nat.reduceEqDiff, Nat.add_eq_left, Nat.left_eq_add, false_and, and_false, Nat.reduceSub, Nat.sub_self, Nat.le_refl, Nat.zero_le, ge_iff_le, Nat.reduceAdd, Nat.reduceLeDiff, Nat.zero_add, Nat.reduceLT]
  exact c_tr_2 (A 0).toNat 0 A w (by omega) hS hJ hq
def r_num (A : Row) : Int := hn (fun i => A (28 + i)) (A 1).toNat 0
def k_num (A : Row) : Int := hn (fun i => A (44 + i)) (A 2).toNat 0
theorem TJ_pin {A : Row} (h : TJ A) (j : Nat) (hj : j < 8) : 0 ≤ A (20 + j) ∧ A (20 + j) ≤ 9 := by
  have := h.1.2.2.1 j hj; rw [up_eq, if_neg (by omega)] at this; exact this
theorem TJ_dig {A : Row} (h : TJ A) (j : Nat) (hj : j < 16) : 0 ≤ A (28 + j) ∧ A (28 + j) ≤ 9 := by
  have := h.1.2.2.2.1 j hj; rw [up_eq, if_neg (by omega)] at this; exact this
theorem TJ_cnt {A : Row} (h : TJ A) (j : Nat) (hj : j < 8) : 0 ≤ A (44 + j) ∧ A (44 + j) ≤ 9 := by
  have := h.1.2.2.2.2.1 j hj; rw [up_eq, if_neg (by omega)] at this; exact this
theorem TJ_lev {A : Row} (h : TJ A) (j : Nat) (hj : j < 16) : 0 ≤ A (52 + j) ∧ A (52 + j) ≤ 1 := by
  have := h.1.2.2.2.2.2.1 j hj; rw [up_eq, if_neg (by omega)] at this; exact this
theorem TJ_flt {A : Row} (h : TJ A) (j : Nat) (hj : j < 16) : 0 ≤ A (68 + j) ∧ A (68 + j) ≤ 3 := by
  have := h.1.2.2.2.2.2.2 j hj; rw [up_eq, if_neg (by omega)] at this; exact this
theorem c_resultNumber {b : Nat} {w : mW} {A : Row} {Q : mW → mO → Prop} (hM : Mb w b) (hA : MemA w b A) (hJ : TJ A) (hq : Q w (.inl (some (.long (Int64.ofInt (r_num A)))))) : CT n_X2_resultNumber [.ref b] w Q := by
  have hz := TJ_sz hJ
  have s0 := hM.1.1
  have s2 := hM.1.2.2.1
  have r7 := hM.2.2.1
  have e : A 1 = ((A 1).toNat : Int) := by omega
  refine ct_X2_resultNumber (rt_X2_resultNumber_0 ?_)
  simp only [wp_c, wp_n, jj_n, v_ct, Int.reduceToNat, Int.toNat_natCast, stE, wlE, lgt, lpu, lpw, v_c2, va_s, true_and, and_true, Option.toList, List.nil_append, List.cons_append, List.take, List.drop, List.reverse, List.reverseAux, List.length_cons, List.length_nil, reduceCtorEq, false_implies, true_implies, forall_const, not_true_eq_false, not_false_eq_true, ite_true, ite_false, Bool.false_eq_true, I_I, J_J, Nat.add_left_cancel_iff, Nat.reduceEqDiff, Nat.add_eq_left, Nat.left_eq_add, false_and, and_false, Nat.reduceSub, Nat.sub_self, Nat.le_refl, Nat.zero_le, ge_iff_le, Nat.reduceAdd, Nat.reduceLeDiff, Nat.zero_add, Nat.reduceLT, s0, r7, hA.1.2.1, mh_X2_resultNumber]
  rw [e]
  refine c_numOf s2 (by omega) (by omega) (f := fun i => A (28 + i)) (fun i hi => ⟨hA.2.2.1 i (by omega), ?_⟩) ?_
  · have := TJ_dig hJ i (by omega); exact ⟨by omega, by omega⟩
  · simp only [wp_c, wp_n, jj_n, v_ct, Int.reduceToNat, Int.toNat_natCast, stE, wlE, lgt, lpu, lpw, v_c2, va_s, true_and, and_true, Option.toList, List.nil_append, List.cons_append, List.take, List.drop, List.reverse, List.reverseAux, List.length_cons, List.length_nil, reduceCtorEq, false_implies, true_implies, forall_const, not_true_eq_false, not_false_eq_true, ite_true, ite_false, Bool.false_eq_true, I_I, J_J, Nat.add_left_cancel_iff, Nat.reduceEqDiff, Nat.add_eq_left, Nat.left_eq_add, false_and, and_false, Nat.reduceSub, Nat.sub_self, Nat.le_refl, Nat.zero_le, ge_iff_le, Nat.reduceAdd, Nat.reduceLeDiff, Nat.zero_add, Nat.reduceLT]
    exact hq
theorem k_b {A : Row} (hJ : TJ A) : 0 ≤ k_num A ∧ k_num A < 100000000 := by
  have hz := TJ_sz hJ
  have := hn_b (fun i => A (44 + i)) (A 2).toNat 0 (fun i hi => TJ_cnt hJ i (by omega)) (by omega)
  have h8 := p10 (A 2).toNat (by omega)
  unfold k_num
  omega
theorem c_counterNumber {b : Nat} {w : mW} {A : Row} {Q : mW → mO → Prop} (hM : Mb w b) (hA : MemA w b A) (hJ : TJ A) (hq : Q w (.inl (some (.int (Int32.ofInt (k_num A)))))) : CT n_X2_counterNumber [.ref b] w Q := by
  have hz := TJ_sz hJ
  have hb := k_b hJ
  have s0 := hM.1.1
  have s3 := hM.1.2.2.2.1
  have r8 := hM.2.2.2.1
  have e : A 2 = ((A 2).toNat : Int) := by omega
  refine ct_X2_counterNumber (rt_X2_counterNumber_0 ?_)
  simp only [wp_c, wp_n, jj_n, v_ct, Int.reduceToNat, Int.toNat_natCast, stE, wlE, lgt, lpu, lpw, v_c2, va_s, true_and, and_true, Option.toList, List.nil_append, List.cons_append, List.take, List.drop, List.reverse, List.reverseAux, List.length_cons, List.length_nil, reduceCtorEq, false_implies, true_implies, forall_const, not_true_eq_false, not_false_eq_true, ite_true, ite_false, Bool.false_eq_true, I_I, J_J, Nat.add_left_cancel_iff, Nat.reduceEqDiff, Nat.add_eq_left, Nat.left_eq_add, false_and, and_false, Nat.reduceSub, Nat.sub_self, Nat.le_refl, Nat.zero_le, ge_iff_le, Nat.reduceAdd, Nat.reduceLeDiff, Nat.zero_add, Nat.reduceLT, s0, r8, hA.1.2.2.1, mh_X2_counterNumber, mr_X2_counterNumber]
  rw [e]
  refine c_numOf s3 (by omega) (by omega) (f := fun i => A (44 + i)) (fun i hi => ⟨hA.2.2.2.1 i (by omega), ?_⟩) ?_
  · have := TJ_cnt hJ i (by omega); exact ⟨by omega, by omega⟩
  · simp only [wp_c, wp_n, jj_n, v_ct, Int.reduceToNat, Int.toNat_natCast, stE, wlE, lgt, lpu, lpw, v_c2, va_s, true_and, and_true, Option.toList, List.nil_append, List.cons_append, List.take, List.drop, List.reverse, List.reverseAux, List.length_cons, List.length_nil, reduceCtorEq, false_implies, true_implies, forall_const, not_true_eq_false, not_false_eq_true, ite_true, ite_false, Bool.false_eq_true, I_I, J_J, Nat.add_left_cancel_iff, Nat.reduceEqDiff, Nat.add_eq_left, Nat.left_eq_add, false_and, and_false, Nat.reduceSub, Nat.sub_self, Nat.le_refl, Nat.zero_le, ge_iff_le, Nat.reduceAdd, Nat.reduceLeDiff, Nat.zero_add, Nat.reduceLT]
    have : hn (fun i => A (44 + i)) (A 2).toNat 0 = k_num A := rfl
    rw [this, li_o ⟨by omega, by omega⟩]
    exact hq
theorem c_greatest {b : Nat} {w : mW} {A : Row} {Q : mW → mO → Prop} (hM : Mb w b) (hA : MemA w b A) (hJ : TJ A) (hq : Q w (.inl (some (.int (Int32.ofInt (10 ^ (A 0).toNat - 1)))))) : CT n_X2_greatestPinNumber [.ref b] w Q := by
  have hz := TJ_sz hJ
  have h8 := p10 (A 0).toNat (by omega)
  have hp : (0 : Int) < 10 ^ (A 0).toNat := Int.pow_pos (by decide)
  have hR : inR (A 0) := ⟨by omega, by omega⟩
  refine ct_X2_greatestPinNumber (rt_X2_greatestPinNumber_0 ?_)
  simp only [wp_c, wp_n, jj_n, v_ct, Int.reduceToNat, Int.toNat_natCast, stE, wlE, lgt, lpu, lpw, v_c2, va_s, true_and, and_true, Option.toList, List.nil_append, List.cons_append, List.take, List.drop, List.reverse, List.reverseAux, List.length_cons, List.length_nil, reduceCtorEq, false_implies, true_implies, forall_const, not_true_eq_false, not_false_eq_true, ite_true, ite_false, Bool.false_eq_true, I_I, J_J, Nat.add_left_cancel_iff, Nat.reduceEqDiff, Nat.add_eq_left, Nat.left_eq_add, false_and, and_false, Nat.reduceSub, Nat.sub_self, Nat.le_refl, Nat.zero_le, ge_iff_le, Nat.reduceAdd, Nat.reduceLeDiff, Nat.zero_add, Nat.reduceLT, hM.1.1, hA.1.1, vp_oi hR, oi_nc hR, pw_o, mr_X2_greatestPinNumber, show (1 : Int64) = Int64.ofInt 1 from rfl, lo_sub]
  rw [li_o ⟨by omega, by omega⟩]
  exact ⟨by omega, hq⟩
theorem c_min {x y : Int} {w : mW} {Q : mW → mO → Prop} (hx : inR x) (hy : inR y) (hq : Q w (.inl (some (.int (Int32.ofInt (if x ≤ y then x else y)))))) : CT n_J9_min_7cf53 [.int (Int32.ofInt x), .int (Int32.ofInt y)] w Q := by
  refine ct_J9_min_7cf53 (rt_J9_min_7cf53_0 ?_)
  simp only [wp_c, wp_n, jj_n, v_ct, Int.reduceToNat, Int.toNat_natCast, stE, wlE, lgt, lpu, lpw, v_c2, va_s, true_and, and_true, Option.toList, List.nil_append, List.cons_append, List.take, List.drop, List.reverse, List.reverseAux, List.length_cons, List.length_nil, reduceCtorEq, false_implies, true_implies, forall_const, not_true_eq_false, not_false_eq_true, ite_true, ite_false, Bool.false_eq_true, I_I, J_J, Nat.add_left_cancel_iff, Nat.reduceEqDiff, Nat.add_eq_left, Nat.left_eq_add, false_and, and_false, Nat.reduceSub, Nat.sub_self, Nat.le_refl, Nat.zero_le, ge_iff_le, Nat.reduceAdd, Nat.reduceLeDiff, Nat.zero_add, Nat.reduceLT, oi_lt hy hx]
  refine ⟨fun h => ?_, fun h => ?_⟩
  · rw [if_neg (by omega)] at hq
    refine rt_J9_min_7cf53_9 ?_
    simp only [wp_c, wp_n, jj_n, v_ct, Int.reduceToNat, Int.toNat_natCast, stE, wlE, lgt, lpu, lpw, v_c2, va_s, true_and, and_true, Option.toList, List.nil_append, List.cons_append, List.take, List.drop, List.reverse, List.reverseAux, List.length_cons, List.length_nil, reduceCtorEq, false_implies, true_implies, forall_const, not_true_eq_false, not_false_eq_true, ite_true, ite_false, Bool.false_eq_true, I_I, J_J, Nat.add_left_cancel_iff, Nat.reduceEqDiff, Nat.add_eq_left, Nat.left_eq_add, false_and, and_false, Nat.reduceSub, Nat.sub_self, Nat.le_refl, Nat.zero_le, ge_iff_le, Nat.reduceAdd, Nat.reduceLeDiff, Nat.zero_add, Nat.reduceLT]
    refine rt_J9_min_7cf53_10 ?_
    simp only [wp_c, wp_n, jj_n, v_ct, Int.reduceToNat, Int.toNat_natCast, stE, wlE, lgt, lpu, lpw, v_c2, va_s, true_and, and_true, Option.toList, List.nil_append, List.cons_append, List.take, List.drop, List.reverse, List.reverseAux, List.length_cons, List.length_nil, reduceCtorEq, false_implies, true_implies, forall_const, not_true_eq_false, not_false_eq_true, ite_true, ite_false, Bool.false_eq_true, I_I, J_J, Nat.add_left_cancel_iff, Nat.reduceEqDiff, Nat.add_eq_left, Nat.left_eq_add, false_and, and_false, Nat.reduceSub, Nat.sub_self, Nat.le_refl, Nat.zero_le, ge_iff_le, Nat.reduceAdd, Nat.reduceLeDiff, Nat.zero_add, Nat.reduceLT, mr_J9_min_7cf53]
    exact hq
  · rw [if_pos (by omega)] at hq
    refine rt_J9_min_7cf53_10 ?_
    simp only [wp_c, wp_n, jj_n, v_ct, Int.reduceToNat, Int.toNat_natCast, stE, wlE, lgt, lpu, lpw, v_c2, va_s, true_and, and_true, Option.toList, List.nil_append, List.cons_append, List.take, List.drop, List.reverse, List.reverseAux, List.length_cons, List.length_nil, reduceCtorEq, false_implies, true_implies, forall_const, not_true_eq_false, not_false_eq_true, ite_true, ite_false, Bool.false_eq_true, I_I, J_J, Nat.add_left_cancel_iff, Nat.reduceEqDiff, Nat.add_eq_left, Nat.left_eq_add, false_and, and_false, Nat.reduceSub, Nat.sub_self, Nat.le_refl, Nat.zero_le, ge_iff_le, Nat.reduceAdd, Nat.reduceLeDiff, Nat.zero_add, Nat.reduceLT, mr_J9_min_7cf53]
    exact hq
theorem c_max {x y : Int} {w : mW} {Q : mW → mO → Prop} (hx : inR x) (hy : inR y) (hq : Q w (.inl (some (.int (Int32.ofInt (if y ≤ x then x else y)))))) : CT n_J9_max_7cf53 [.int (Int32.ofInt x), .int (Int32.ofInt y)] w Q := by
  refine ct_J9_max_7cf53 (rt_J9_max_7cf53_0 ?_)
  simp only [wp_c, wp_n, jj_n, v_ct, Int.reduceToNat, Int.toNat_natCast, stE, wlE, lgt, lpu, lpw, v_c2, va_s, true_and, and_true, Option.toList, List.nil_append, List.cons_append, List.take, List.drop, List.reverse, List.reverseAux, List.length_cons, List.length_nil, reduceCtorEq, false_implies, true_implies, forall_const, not_true_eq_false, not_false_eq_true, ite_true, ite_false, Bool.false_eq_true, I_I, J_J, Nat.add_left_cancel_iff, Nat.reduceEqDiff, Nat.add_eq_left, Nat.left_eq_add, false_and, and_false, Nat.reduceSub, Nat.sub_self, Nat.le_refl, Nat.zero_le, ge_iff_le, Nat.reduceAdd, Nat.reduceLeDiff, Nat.zero_add, Nat.reduceLT, oi_lt hx hy]
  refine ⟨fun h => ?_, fun h => ?_⟩
  · rw [if_neg (by omega)] at hq
    refine rt_J9_max_7cf53_9 ?_
    simp only [wp_c, wp_n, jj_n, v_ct, Int.reduceToNat, Int.toNat_natCast, stE, wlE, lgt, lpu, lpw, v_c2, va_s, true_and, and_true, Option.toList, List.nil_append, List.cons_append, List.take, List.drop, List.reverse, List.reverseAux, List.length_cons, List.length_nil, reduceCtorEq, false_implies, true_implies, forall_const, not_true_eq_false, not_false_eq_true, ite_true, ite_false, Bool.false_eq_true, I_I, J_J, Nat.add_left_cancel_iff, Nat.reduceEqDiff, Nat.add_eq_left, Nat.left_eq_add, false_and, and_false, Nat.reduceSub, Nat.sub_self, Nat.le_refl, Nat.zero_le, ge_iff_le, Nat.reduceAdd, Nat.reduceLeDiff, Nat.zero_add, Nat.reduceLT]
    refine rt_J9_max_7cf53_10 ?_
    simp only [wp_c, wp_n, jj_n, v_ct, Int.reduceToNat, Int.toNat_natCast, stE, wlE, lgt, lpu, lpw, v_c2, va_s, true_and, and_true, Option.toList, List.nil_append, List.cons_append, List.take, List.drop, List.reverse, List.reverseAux, List.length_cons, List.length_nil, reduceCtorEq, false_implies, true_implies, forall_const, not_true_eq_false, not_false_eq_true, ite_true, ite_false, Bool.false_eq_true, I_I, J_J, Nat.add_left_cancel_iff, Nat.reduceEqDiff, Nat.add_eq_left, Nat.left_eq_add, false_and, and_false, Nat.reduceSub, Nat.sub_self, Nat.le_refl, Nat.zero_le, ge_iff_le, Nat.reduceAdd, Nat.reduceLeDiff, Nat.zero_add, Nat.reduceLT, mr_J9_max_7cf53]
    exact hq
  · rw [if_pos (by omega)] at hq
    refine rt_J9_max_7cf53_10 ?_
    simp only [wp_c, wp_n, jj_n, v_ct, Int.reduceToNat, Int.toNat_natCast, stE, wlE, lgt, lpu, lpw, v_c2, va_s, true_and, and_true, Option.toList, List.nil_append, List.cons_append, List.take, List.drop, List.reverse, List.reverseAux, List.length_cons, List.length_nil, reduceCtorEq, false_implies, true_implies, forall_const, not_true_eq_false, not_false_eq_true, ite_true, ite_false, Bool.false_eq_true, I_I, J_J, Nat.add_left_cancel_iff, Nat.reduceEqDiff, Nat.add_eq_left, Nat.left_eq_add, false_and, and_false, Nat.reduceSub, Nat.sub_self, Nat.le_refl, Nat.zero_le, ge_iff_le, Nat.reduceAdd, Nat.reduceLeDiff, Nat.zero_add, Nat.reduceLT, mr_J9_max_7cf53]
    exact hq
def b_ct (v : Int) : Int := v % 2 + v / 2
theorem c_bit {v : Int} {w : mW} {Q : mW → mO → Prop} (hv : 0 ≤ v ∧ v ≤ 3) (hq : Q w (.inl (some (.int (Int32.ofInt (b_ct v)))))) : CT n_J6_bitCount_0f7a4 [.int (Int32.ofInt v)] w Q := by
  refine ct_J6_bitCount_0f7a4 (rt_J6_bitCount_0f7a4_0 ?_)
  simp only [wp_c, wp_n, jj_n, v_ct, Int.reduceToNat, Int.toNat_natCast, stE, wlE, lgt, lpu, lpw, v_c2, va_s, true_and, and_true, Option.toList, List.nil_append, List.cons_append, List.take, List.drop, List.reverse, List.reverseAux, List.length_cons, List.length_nil, reduceCtorEq, false_implies, true_implies, forall_const, not_true_eq_false, not_false_eq_true, ite_true, ite_false, Bool.false_eq_true, I_I, J_J, Nat.add_left_cancel_iff, Nat.reduceEqDiff, Nat.add_eq_left, Nat.left_eq_add, false_and, and_false, Nat.reduceSub, Nat.sub_self, Nat.le_refl, Nat.zero_le, ge_iff_le, Nat.reduceAdd, Nat.reduceLeDiff, Nat.zero_add, Nat.reduceLT, mr_J6_bitCount_0f7a4]
  have h4 : v = 0 ∨ v = 1 ∨ v = 2 ∨ v = 3 := by omega
  rcases h4 with rfl | rfl | rfl | rfl <;> exact hq
def f_tot (A : Row) : Nat → Int
  | 0 => 0
  | n + 1 => f_tot A n + b_ct (A (68 + n))
theorem f_b {A : Row} (hJ : TJ A) : ∀ n : Nat, n ≤ 16 → 0 ≤ f_tot A n ∧ f_tot A n ≤ 2 * n := by
  intro n
  induction n with
  | zero => intro _; simp [f_tot]
  | succ n ih =>
    intro h
    have g := ih (by omega)
    have hf := TJ_flt hJ n (by omega)
    simp only [f_tot, b_ct]
    push_cast
    omega
theorem c_ft_4 {b : Nat} {A : Row} {w : mW} {Q : mW → mO → Prop} (hM : Mb w b) (hA : MemA w b A) (hJ : TJ A) : ∀ (n j : Nat), (j : Int) + n = A 1 → Q w (.inl (some (.int (Int32.ofInt (f_tot A (A 1).toNat))))) →
    RT n_X2_faultTotal 4 [.ref b, .int (Int32.ofInt (f_tot A j)), .int (Int32.ofInt j)] [] w (0, 0, false) Q := by
  have hz := TJ_sz hJ
  have s0 := hM.1.1
  have s4 := hM.1.2.2.2.2.1
  have r9 := hM.2.2.2.2.1
  intro n
  induction n with
  | zero =>
    intro j hn hq
    have hR : inR (j : Int) := ⟨by omega, by omega⟩
    have hR1 : inR (A 1) := ⟨by omega, by omega⟩
    refine rt_X2_faultTotal_4 ?_
    simp only [wp_c, wp_n, jj_n, v_ct, Int.reduceToNat, Int.toNat_natCast, stE, wlE, lgt, lpu, lpw, v_c2, va_s, true_and, and_true, Option.toList, List.nil_append, List.cons_append, List.take, List.drop, List.reverse, List.reverseAux, List.length_cons, List.length_nil, reduceCtorEq, false_implies, true_implies, forall_const, not_true_eq_false, not_false_eq_true, ite_true, ite_false, Bool.false_eq_true, I_I, J_J, Nat.add_left_cancel_iff, Nat.reduceEqDiff, Nat.add_eq_left, Nat.left_eq_add, false_and, and_false, Nat.reduceSub, Nat.sub_self, Nat.le_refl, Nat.zero_le, ge_iff_le, Nat.reduceAdd, Nat.reduceLeDiff, Nat.zero_add, Nat.reduceLT, s0, hA.1.2.1, oi_le hR1 hR]
    refine ⟨fun _ => ?_, fun h => absurd (by omega) h⟩
    refine rt_X2_faultTotal_30 ?_
    simp only [wp_c, wp_n, jj_n, v_ct, Int.reduceToNat, Int.toNat_natCast, stE, wlE, lgt, lpu, lpw, v_c2, va_s, true_and, and_true, Option.toList, List.nil_append, List.cons_append, List.take, List.drop, List.reverse, List.reverseAux, List.length_cons, List.length_nil, reduceCtorEq, false_implies, true_implies, forall_const, not_true_eq_false, not_false_eq_true, ite_true, ite_false, Bool.false_eq_true, I_I, J_J, Nat.add_left_cancel_iff, Nat.reduceEqDiff, Nat.add_eq_left, Nat.left_eq_add, false_and, and_false, Nat.reduceSub, Nat.sub_self, Nat.le_refl, Nat.zero_le, ge_iff_le, Nat.reduceAdd, Nat.reduceLeDiff, Nat.zero_add, Nat.reduceLT, mr_X2_faultTotal]
    have e : (A 1).toNat = j := by omega
    rw [e] at hq
    exact hq
  | succ n ih =>
    intro j hn hq
    have hR : inR (j : Int) := ⟨by omega, by omega⟩
    have hR1 : inR (A 1) := ⟨by omega, by omega⟩
    have hj : j < 16 := by omega
    refine rt_X2_faultTotal_4 ?_
    simp only [wp_c, wp_n, jj_n, v_ct, Int.reduceToNat, Int.toNat_natCast, stE, wlE, lgt, lpu, lpw, v_c2, va_s, true_and, and_true, Option.toList, List.nil_append, List.cons_append, List.take, List.drop, List.reverse, List.reverseAux, List.length_cons, List.length_nil, reduceCtorEq, false_implies, true_implies, forall_const, not_true_eq_false, not_false_eq_true, ite_true, ite_false, Bool.false_eq_true, I_I, J_J, Nat.add_left_cancel_iff, Nat.reduceEqDiff, Nat.add_eq_left, Nat.left_eq_add, false_and, and_false, Nat.reduceSub, Nat.sub_self, Nat.le_refl, Nat.zero_le, ge_iff_le, Nat.reduceAdd, Nat.reduceLeDiff, Nat.zero_add, Nat.reduceLT, s0, s4, r9, hA.1.2.1, oi_le hR1 hR, vp_oi hR, oi_nc hR, hA.r_flt hj, mh_X2_faultTotal]
    refine ⟨fun h => absurd h (by omega), fun _ => ⟨by omega, ?_⟩⟩
    refine c_bit (TJ_flt hJ j hj) ?_
    simp only [wp_c, wp_n, jj_n, v_ct, Int.reduceToNat, Int.toNat_natCast, stE, wlE, lgt, lpu, lpw, v_c2, va_s, true_and, and_true, Option.toList, List.nil_append, List.cons_append, List.take, List.drop, List.reverse, List.reverseAux, List.length_cons, List.length_nil, reduceCtorEq, false_implies, true_implies, forall_const, not_true_eq_false, not_false_eq_true, ite_true, ite_false, Bool.false_eq_true, I_I, J_J, Nat.add_left_cancel_iff, Nat.reduceEqDiff, Nat.add_eq_left, Nat.left_eq_add, false_and, and_false, Nat.reduceSub, Nat.sub_self, Nat.le_refl, Nat.zero_le, ge_iff_le, Nat.reduceAdd, Nat.reduceLeDiff, Nat.zero_add, Nat.reduceLT, oi_add]
    exact ih (j + 1) (by omega) hq
theorem c_faultTotal {b : Nat} {A : Row} {w : mW} {Q : mW → mO → Prop} (hM : Mb w b) (hA : MemA w b A) (hJ : TJ A) (hq : Q w (.inl (some (.int (Int32.ofInt (f_tot A (A 1).toNat)))))) : CT n_X2_faultTotal [.ref b] w Q := by
  have hz := TJ_sz hJ
  refine ct_X2_faultTotal (rt_X2_faultTotal_0 ?_)
  simp only [wp_c, wp_n, jj_n, v_ct, Int.reduceToNat, Int.toNat_natCast, stE, wlE, lgt, lpu, lpw, v_c2, va_s, true_and, and_true, Option.toList, List.nil_append, List.cons_append, List.take, List.drop, List.reverse, List.reverseAux, List.length_cons, List.length_nil, reduceCtorEq, false_implies, true_implies, forall_const, not_true_eq_false, not_false_eq_true, ite_true, ite_false, Bool.false_eq_true, I_I, J_J, Nat.add_left_cancel_iff, Nat.reduceEqDiff, Nat.add_eq_left, Nat.left_eq_add, false_and, and_false, Nat.reduceSub, Nat.sub_self, Nat.le_refl, Nat.zero_le, ge_iff_le, Nat.reduceAdd, Nat.reduceLeDiff, Nat.zero_add, Nat.reduceLT]
  exact c_ft_4 hM hA hJ (A 1).toNat 0 (by omega) hq
/-- the busiest wheel: the steps are compared as ints of 32 bits -/
def b_st (A : Row) : Nat → Nat → Nat → Nat
  | 0, _, best => best
  | n + 1, j, best => b_st A n (j + 1) (if Int32.ofInt (A (100 + best)) < Int32.ofInt (A (100 + j)) then j else best)
theorem c_bs_4 {b : Nat} {A : Row} {w : mW} {Q : mW → mO → Prop} (hM : Mb w b) (hA : MemA w b A) (hJ : TJ A) : ∀ (n j best : Nat), (j : Int) + n = A 1 → best < 16 → Q w (.inl (some (.int (Int32.ofInt (b_st A n j best))))) →
    RT n_X2_busiestWheel 4 [.ref b, .int (Int32.ofInt best), .int (Int32.ofInt j)] [] w (0, 0, false) Q := by
  have hz := TJ_sz hJ
  have s0 := hM.1.1
  have s5 := hM.1.2.2.2.2.2.1
  have r10 := hM.2.2.2.2.2.1
  intro n
  induction n with
  | zero =>
    intro j best hn hb hq
    have hR : inR (j : Int) := ⟨by omega, by omega⟩
    have hR1 : inR (A 1) := ⟨by omega, by omega⟩
    refine rt_X2_busiestWheel_4 ?_
    simp only [wp_c, wp_n, jj_n, v_ct, Int.reduceToNat, Int.toNat_natCast, stE, wlE, lgt, lpu, lpw, v_c2, va_s, true_and, and_true, Option.toList, List.nil_append, List.cons_append, List.take, List.drop, List.reverse, List.reverseAux, List.length_cons, List.length_nil, reduceCtorEq, false_implies, true_implies, forall_const, not_true_eq_false, not_false_eq_true, ite_true, ite_false, Bool.false_eq_true, I_I, J_J, Nat.add_left_cancel_iff, Nat.reduceEqDiff, Nat.add_eq_left, Nat.left_eq_add, false_and, and_false, Nat.reduceSub, Nat.sub_self, Nat.le_refl, Nat.zero_le, ge_iff_le, Nat.reduceAdd, Nat.reduceLeDiff, Nat.zero_add, Nat.reduceLT, s0, hA.1.2.1, oi_le hR1 hR]
    refine ⟨fun _ => ?_, fun h => absurd (by omega) h⟩
    refine rt_X2_busiestWheel_35 ?_
    simp only [wp_c, wp_n, jj_n, v_ct, Int.reduceToNat, Int.toNat_natCast, stE, wlE, lgt, lpu, lpw, v_c2, va_s, true_and, and_true, Option.toList, List.nil_append, List.cons_append, List.take, List.drop, List.reverse, List.reverseAux, List.length_cons, List.length_nil, reduceCtorEq, false_implies, true_implies, forall_const, not_true_eq_false, not_false_eq_true, ite_true, ite_false, Bool.false_eq_true, I_I, J_J, Nat.add_left_cancel_iff, Nat.reduceEqDiff, Nat.add_eq_left, Nat.left_eq_add, false_and, and_false, Nat.reduceSub, Nat.sub_self, Nat.le_refl, Nat.zero_le, ge_iff_le, Nat.reduceAdd, Nat.reduceLeDiff, Nat.zero_add, Nat.reduceLT, mr_X2_busiestWheel]
    exact hq
  | succ n ih =>
    intro j best hn hb hq
    have hR : inR (j : Int) := ⟨by omega, by omega⟩
    have hRb : inR (best : Int) := ⟨by omega, by omega⟩
    have hR1 : inR (A 1) := ⟨by omega, by omega⟩
    have hj : j < 16 := by omega
    rw [b_st] at hq
    have h29 : ∀ q : Nat, q < 16 → Q w (.inl (some (.int (Int32.ofInt (b_st A n (j + 1) q))))) → RT n_X2_busiestWheel 29 [.ref b, .int (Int32.ofInt q), .int (Int32.ofInt j)] [] w (0, 0, false) Q := by
      intro q hq1 hq2
      refine rt_X2_busiestWheel_29 ?_
      simp only [wp_c, wp_n, jj_n, v_ct, Int.reduceToNat, Int.toNat_natCast, stE, wlE, lgt, lpu, lpw, v_c2, va_s, true_and, and_true, Option.toList, List.nil_append, List.cons_append, List.take, List.drop, List.reverse, List.reverseAux, List.length_cons, List.length_nil, reduceCtorEq, false_implies, true_implies, forall_const, not_true_eq_false, not_false_eq_true, ite_true, ite_false, Bool.false_eq_true, I_I, J_J, Nat.add_left_cancel_iff, Nat.reduceEqDiff, Nat.add_eq_left, Nat.left_eq_add, false_and, and_false, Nat.reduceSub, Nat.sub_self, Nat.le_refl, Nat.zero_le, ge_iff_le, Nat.reduceAdd, Nat.reduceLeDiff, Nat.zero_add, Nat.reduceLT, oi_add]
      exact ih (j + 1) q (by omega) hq1 hq2
    refine rt_X2_busiestWheel_4 ?_
    simp only [wp_c, wp_n, jj_n, v_ct, Int.reduceToNat, Int.toNat_natCast, stE, wlE, lgt, lpu, lpw, v_c2, va_s, true_and, and_true, Option.toList, List.nil_append, List.cons_append, List.take, List.drop, List.reverse, List.reverseAux, List.length_cons, List.length_nil, reduceCtorEq, false_implies, true_implies, forall_const, not_true_eq_false, not_false_eq_true, ite_true, ite_false, Bool.false_eq_true, I_I, J_J, Nat.add_left_cancel_iff, Nat.reduceEqDiff, Nat.add_eq_left, Nat.left_eq_add, false_and, and_false, Nat.reduceSub, Nat.sub_self, Nat.le_refl, Nat.zero_le, ge_iff_le, Nat.reduceAdd, Nat.reduceLeDiff, Nat.zero_add, Nat.reduceLT, s0, s5, r10, hA.1.2.1, oi_le hR1 hR, vp_oi hR, oi_nc hR, vp_oi hRb, oi_nc hRb, hA.r_stp hj, hA.r_stp hb]
    refine ⟨fun h => absurd h (by omega), fun _ => ⟨by omega, by omega, fun h => ?_, fun h => ?_⟩⟩
    · rw [if_neg (Int32.not_lt.mpr h)] at hq
      exact h29 best hb hq
    · rw [if_pos (Int32.not_le.mp h)] at hq
      exact h29 j hj hq
theorem c_busiest {b : Nat} {A : Row} {w : mW} {Q : mW → mO → Prop} (hM : Mb w b) (hA : MemA w b A) (hJ : TJ A) (hq : Q w (.inl (some (.int (Int32.ofInt (b_st A ((A 1).toNat - 1) 1 0)))))) : CT n_X2_busiestWheel [.ref b] w Q := by
  have hz := TJ_sz hJ
  refine ct_X2_busiestWheel (rt_X2_busiestWheel_0 ?_)
  simp only [wp_c, wp_n, jj_n, v_ct, Int.reduceToNat, Int.toNat_natCast, stE, wlE, lgt, lpu, lpw, v_c2, va_s, true_and, and_true, Option.toList, List.nil_append, List.cons_append, List.take, List.drop, List.reverse, List.reverseAux, List.length_cons, List.length_nil, reduceCtorEq, false_implies, true_implies, forall_const, not_true_eq_false, not_false_eq_true, ite_true, ite_false, Bool.false_eq_true, I_I, J_J, Nat.add_left_cancel_iff, Nat.reduceEqDiff, Nat.add_eq_left, Nat.left_eq_add, false_and, and_false, Nat.reduceSub, Nat.sub_self, Nat.le_refl, Nat.zero_le, ge_iff_le, Nat.reduceAdd, Nat.reduceLeDiff, Nat.zero_add, Nat.reduceLT]
  exact c_bs_4 hM hA hJ ((A 1).toNat - 1) 1 0 (by omega) (by omega) hq
