def f_tot (A : Row) : Nat → Int
  | 0 => 0
  | n + 1 => f_tot A n + b_ct (A (68 + n))
theorem f_b {A : Row} (hJ : TJ A) : ∀ n : Nat, n ≤ 16 → 0 ≤ f_tot A n ∧ f_tot A n ≤ 2 * n := by
  intro n
  induction n with
  | zero => intro _; simp [f_tot]
  | succ n ih =>
    intro h
    have g := ih (by omega)
    have hf := TJ_flt hJ n (by omega)
    simp only [f_tot, b_ct]
    push_cast
    omega
theorem c_ft_4 {b : Nat} {A : Row} {w : mW} {Q : mW → mO → Prop} (hM : Mb w b) (hA : MemA w b A) (hJ : TJ A) : ∀ (n j : Nat), (j : Int) + n = A 1 → Q w (.inl (some (.int (Int32.ofInt (f_tot A (A 1).toNat))))) →
    RT n_X2_faultTotal 4 [.ref b, .int (Int32.ofInt (f_tot A j)), .int (Int32.ofInt j)] [] w (0, 0, false) Q := by
  have hz := TJ_sz hJ
  have s0 := hM.1.1
  have s4 := hM.1.2.2.2.2.1
  have r9 := hM.2.2.2.2.1
  intro n
  induction n with
  | zero =>
    intro j hn hq
    have hR : inR (j : Int) := ⟨by omega, by omega⟩
    have hR1 : inR (A 1) := ⟨by omega, by omega⟩
    refine rt_X2_faultTotal_4 ?_
    simp only [wp_c, wp_n, jj_n, Int.reduceToNat, Int.toNat_natCast, stE, wlE, lgt, lpu, lpw, v_c2, va_s, true_and, and_true, Option.toList, List.nil_append, List.cons_append, List.take, List.drop, List.reverse, List.reverseAux, List.length_cons, List.length_nil, reduceCtorEq, false_implies, true_implies, forall_const, not_true_eq_false, not_false_eq_true, ite_true, ite_false, Bool.false_eq_true, I_I, J_J, Nat.add_left_cancel_iff, Nat.reduceEqDiff, Nat.add_eq_left, Nat.left_eq_add, false_and, and_false, Nat.reduceSub, Nat.sub_self, Nat.le_refl, Nat.zero_le, ge_iff_le, Nat.reduceAdd, Nat.reduceLeDiff, Nat.zero_add, Nat.reduceLT, s0, hA.1.2.1, oi_le hR1 hR]
    refine ⟨fun _ => ?_, fun h => absurd (by omega) h⟩
    refine rt_X2_faultTotal_30 ?_
    simp only [wp_c, wp_n, jj_n, Int.reduceToNat, Int.toNat_natCast, stE, wlE, lgt, lpu, lpw, v_c2, va_s, true_and, and_true, Option.toList, List.nil_append, List.cons_append, List.take, List.drop, List.reverse, List.reverseAux, List.length_cons, List.length_nil, reduceCtorEq, false_implies, true_implies, forall_const, not_true_eq_false, not_false_eq_true, ite_true, ite_false, Bool.false_eq_true, I_I, J_J, Nat.add_left_cancel_iff, Nat.reduceEqDiff, Nat.add_eq_left, Nat.left_eq_add, false_and, and_false, Nat.reduceSub, Nat.sub_self, Nat.le_refl, Nat.zero_le, ge_iff_le, Nat.reduceAdd, Nat.reduceLeDiff, Nat.zero_add, Nat.reduceLT, mr_X2_faultTotal]
    have e : (A 1).toNat = j := by omega
    rw [e] at hq
    exact hq
  | succ n ih =>
    intro j hn hq
    have hR : inR (j : Int) := ⟨by omega, by omega⟩
    have hR1 : inR (A 1) := ⟨by omega, by omega⟩
    have hj : j < 16 := by omega
    refine rt_X2_faultTotal_4 ?_
    simp only [wp_c, wp_n, jj_n, Int.reduceToNat, Int.toNat_natCast, stE, wlE, lgt, lpu, lpw, v_c2, va_s, true_and, and_true, Option.toList, List.nil_append, List.cons_append, List.take, List.drop, List.reverse, List.reverseAux, List.length_cons, List.length_nil, reduceCtorEq, false_implies, true_implies, forall_const, not_true_eq_false, not_false_eq_true, ite_true, ite_false, Bool.false_eq_true, I_I, J_J, Nat.add_left_cancel_iff, Nat.reduceEqDiff, Nat.add_eq_left, Nat.left_eq_add, false_and, and_false, Nat.reduceSub, Nat.sub_self, Nat.le_refl, Nat.zero_le, ge_iff_le, Nat.reduceAdd, Nat.reduceLeDiff, Nat.zero_add, Nat.reduceLT, s0, s4, r9, hA.1.2.1, oi_le hR1 hR, vp_oi hR, oi_nc hR, hA.r_flt hj, mh_X2_faultTotal]
    refine ⟨fun h => absurd h (by omega), fun _ => ⟨by omega, ?_⟩⟩
    refine c_bit (TJ_flt hJ j hj) ?_
    simp only [wp_c, wp_n, jj_n, Int.reduceToNat, Int.toNat_natCast, stE, wlE, lgt, lpu, lpw, v_c2, va_s, true_and, and_true, Option.toList, List.nil_append, List.cons_append, List.take, List.drop, List.reverse, List.reverseAux, List.length_cons, List.length_nil, reduceCtorEq, false_implies, true_implies, forall_const, not_true_eq_false, not_false_eq_true, ite_true, ite_false, Bool.false_eq_true, I_I, J_J, Nat.add_left_cancel_iff, Nat.reduceEqDiff, Nat.add_eq_left, Nat.left_eq_add, false_and, and_false, Nat.reduceSub, Nat.sub_self, Nat.le_refl, Nat.zero_le, ge_iff_le, Nat.reduceAdd, Nat.reduceLeDiff, Nat.zero_add, Nat.reduceLT, oi_add]
    exact ih (j + 1) (by omega) hq
theorem c_faultTotal {b : Nat} {A : Row} {w : mW} {Q : mW → mO → Prop} (hM : Mb w b) (hA : MemA w b A) (hJ : TJ A) (hq : Q w (.inl (some (.int (Int32.ofInt (f_tot A (A 1).toNat)))))) : CT n_X2_faultTotal [.ref b] w Q := by
  have hz := TJ_sz hJ
  refine ct_X2_faultTotal (rt_X2_faultTotal_0 ?_)
  simp only [wp_c, wp_n, jj_n, Int.reduceToNat, Int.toNat_natCast, stE, wlE, lgt, lpu, lpw, v_c2, va_s, true_and, and_true, Option.toList, List.nil_append, List.cons_append, List.take, List.drop, List.reverse, List.reverseAux, List.length_cons, List.length_nil, reduceCtorEq, false_implies, true_implies, forall_const, not_true_eq_false, not_false_eq_true, ite_true, ite_false, Bool.false_eq_true, I_I, J_J, Nat.add_left_cancel_iff, Nat.reduceEqDiff, Nat.add_eq_left, Nat.left_eq_add, false_and, and_false, Nat.reduceSub, Nat.sub_self, Nat.le_refl, Nat.zero_le, ge_iff_le, Nat.reduceAdd, Nat.reduceLeDiff, Nat.zero_add, Nat.reduceLT]
  exact c_ft_4 hM hA hJ (A 1).toNat 0 (by omega) hq
/-- the busiest wheel: the steps are compared as ints of 32 bits -/
def b_st (A : Row) : Nat → Nat → Nat → Nat
  | 0, _, best => best
  | n + 1, j, best => b_st A n (j + 1) (if Int32.ofInt (A (100 + best)) < Int32.ofInt (A (100 + j)) then j else best)
theorem c_bs_4 {b : Nat} {A : Row} {w : mW} {Q : mW → mO → Prop} (hM : Mb w b) (hA : MemA w b A) (hJ : TJ A) : ∀ (n j best : Nat), (j : Int) + n = A 1 → best < 16 → Q w (.inl (some (.int (Int32.ofInt (b_st A n j best))))) →
    RT n_X2_busiestWheel 4 [.ref b, .int (Int32.ofInt best), .int (Int32.ofInt j)] [] w (0, 0, false) Q := by
  have hz := TJ_sz hJ
  have s0 := hM.1.1
  have s5 := hM.1.2.2.2.2.2.1
  have r10 := hM.2.2.2.2.2.1
  intro n
  induction n with
  | zero =>
    intro j best hn hb hq
    have hR : inR (j : Int) := ⟨by omega, by omega⟩
    have hR1 : inR (A 1) := ⟨by omega, by omega⟩
    refine rt_X2_busiestWheel_4 ?_
    simp only [wp_c, wp_n, jj_n, Int.reduceToNat, Int.toNat_natCast, stE, wlE, lgt, lpu, lpw, v_c2, va_s, true_and, and_true, Option.toList, List.nil_append, List.cons_append, List.take, List.drop, List.reverse, List.reverseAux, List.length_cons, List.length_nil, reduceCtorEq, false_implies, true_implies, forall_const, not_true_eq_false, not_false_eq_true, ite_true, ite_false, Bool.false_eq_true, I_I, J_J, Nat.add_left_cancel_iff, Nat.reduceEqDiff, Nat.add_eq_left, Nat.left_eq_add, false_and, and_false, Nat.reduceSub, Nat.sub_self, Nat.le_refl, Nat.zero_le, ge_iff_le, Nat.reduceAdd, Nat.reduceLeDiff, Nat.zero_add, Nat.reduceLT, s0, hA.1.2.1, oi_le hR1 hR]
    refine ⟨fun _ => ?_, fun h => absurd (by omega) h⟩
    refine rt_X2_busiestWheel_35 ?_
    simp only [wp_c, wp_n, jj_n, Int.reduceToNat, Int.toNat_natCast, stE, wlE, lgt, lpu, lpw, v_c2, va_s, true_and, and_true, Option.toList, List.nil_append, List.cons_append, List.take, List.drop, List.reverse, List.reverseAux, List.length_cons, List.length_nil, reduceCtorEq, false_implies, true_implies, forall_const, not_true_eq_false, not_false_eq_true, ite_true, ite_false, Bool.false_eq_true, I_I, J_J, Nat.add_left_cancel_iff, Nat.reduceEqDiff, Nat.add_eq_left, Nat.left_eq_add, false_and, and_false, Nat.reduceSub, Nat.sub_self, Nat.le_refl, Nat.zero_le, ge_iff_le, Nat.reduceAdd, Nat.reduceLeDiff, Nat.zero_add, Nat.reduceLT, mr_X2_busiestWheel]
    exact hq
  | succ n ih =>
    intro j best hn hb hq
    have hR : inR (j : Int) := ⟨by omega, by omega⟩
    have hRb : inR (best : Int) := ⟨by omega, by omega⟩
    have hR1 : inR (A 1) := ⟨by omega, by omega⟩
    have hj : j < 16 := by omega
    rw [b_st] at hq
    have h29 : ∀ q : Nat, q < 16 → Q w (.inl (some (.int (Int32.ofInt (b_st A n (j + 1) q))))) → RT n_X2_busiestWheel 29 [.ref b, .int (Int32.ofInt q), .int (Int32.ofInt j)] [] w (0, 0, false) Q := by
      intro q hq1 hq2
      refine rt_X2_busiestWheel_29 ?_
      simp only [wp_c, wp_n, jj_n, Int.reduceToNat, Int.toNat_natCast, stE, wlE, lgt, lpu, lpw, v_c2, va_s, true_and, and_true, Option.toList, List.nil_append, List.cons_append, List.take, List.drop, List.reverse, List.reverseAux, List.length_cons, List.length_nil, reduceCtorEq, false_implies, true_implies, forall_const, not_true_eq_false, not_false_eq_true, ite_true, ite_false, Bool.false_eq_true, I_I, J_J, Nat.add_left_cancel_iff, Nat.reduceEqDiff, Nat.add_eq_left, Nat.left_eq_add, false_and, and_false, Nat.reduceSub, Nat.sub_self, Nat.le_refl, Nat.zero_le, ge_iff_le, Nat.reduceAdd, Nat.reduceLeDiff, Nat.zero_add, Nat.reduceLT, oi_add]
      exact ih (j + 1) q (by omega) hq1 hq2
    refine rt_X2_busiestWheel_4 ?_
    simp only [wp_c, wp_n, jj_n, Int.reduceToNat, Int.toNat_natCast, stE, wlE, lgt, lpu, lpw, v_c2, va_s, true_and, and_true, Option.toList, List.nil_append, List.cons_append, List.take, List.drop, List.reverse, List.reverseAux, List.length_cons, List.length_nil, reduceCtorEq, false_implies, true_implies, forall_const, not_true_eq_false, not_false_eq_true, ite_true, ite_false, Bool.false_eq_true, I_I, J_J, Nat.add_left_cancel_iff, Nat.reduceEqDiff, Nat.add_eq_left, Nat.left_eq_add, false_and, and_false, Nat.reduceSub, Nat.sub_self, Nat.le_refl, Nat.zero_le, ge_iff_le, Nat.reduceAdd, Nat.reduceLeDiff, Nat.zero_add, Nat.reduceLT, s0, s5, r10, hA.1.2.1, oi_le hR1 hR, vp_oi hR, oi_nc hR, vp_oi hRb, oi_nc hRb, hA.r_stp hj, hA.r_stp hb]
    refine ⟨fun h => absurd h (by omega), fun _ => ⟨by omega, by omega, fun h => ?_, fun h => ?_⟩⟩
    · rw [if_neg (Int32.not_lt.mpr h)] at hq
      exact h29 best hb hq
    · rw [if_pos (Int32.not_le.mp h)] at hq
      exact h29 j hj hq
theorem c_busiest {b : Nat} {A : Row} {w : mW} {Q : mW → mO → Prop} (hM : Mb w b) (hA : MemA w b A) (hJ : TJ A) (hq : Q w (.inl (some (.int (Int32.ofInt (b_st A ((A 1).toNat - 1) 1 0)))))) : CT n_X2_busiestWheel [.ref b] w Q := by
  have hz := TJ_sz hJ
  refine ct_X2_busiestWheel (rt_X2_busiestWheel_0 ?_)
  simp only [wp_c, wp_n, jj_n, Int.reduceToNat, Int.toNat_natCast, stE, wlE, lgt, lpu, lpw, v_c2, va_s, true_and, and_true, Option.toList, List.nil_append, List.cons_append, List.take, List.drop, List.reverse, List.reverseAux, List.length_cons, List.length_nil, reduceCtorEq, false_implies, true_implies, forall_const, not_true_eq_false, not_false_eq_true, ite_true, ite_false, Bool.false_eq_true, I_I, J_J, Nat.add_left_cancel_iff, Nat.reduceEqDiff, Nat.add_eq_left, Nat.left_eq_add, false_and, and_false, Nat.reduceSub, Nat.sub_self, Nat.le_refl, Nat.zero_le, ge_iff_le, Nat.reduceAdd, Nat.reduceLeDiff, Nat.zero_add, Nat.reduceLT]
  exact c_bs_4 hM hA hJ ((A 1).toNat - 1) 1 0 (by omega) (by omega) hq
theorem tn_dig (f : Nat → Int) (n j : Nat) (hj : j < n) (hd : ∀ i, i < n → 0 ≤ f i ∧ f i ≤ 9) : tn f n / 10 ^ j % 10 = f j := by
  obtain ⟨k, hk⟩ : ∃ k, n = j + (k + 1) := ⟨n - j - 1, by omega⟩
  subst hk
  have hp : (0 : Int) < 10 ^ j := Int.pow_pos (by decide)
  have hb := tn_b f j (fun i hi => hd i (by omega))
  have hdj := hd j hj
  rw [tn_add, tn_first]
  generalize tn (fun i => f (j + (i + 1))) k = r
  have e : tn f j + 10 ^ j * (f (j + 0) + 10 * r) = tn f j + (f j + 10 * r) * 10 ^ j := by rw [Nat.add_zero, Int.mul_comm]
  rw [e, Int.add_mul_ediv_right _ _ (by omega), Int.ediv_eq_zero_of_lt hb.1 hb.2]
  omega
theorem du_dig {A : Row} (hJ : TJ A) (j : Nat) (hj : (j : Int) < A 1) : du A / 10 ^ j % 10 = A (116 + j) := by
  have hz := TJ_sz hJ
  unfold du
  rw [hn_tn, Int.zero_mul, Int.zero_add]
  exact tn_dig (fun i => A (116 + i)) _ j (by omega) (fun i hi => hJ.2 i (by omega))
theorem lo_divp {a b : Int} (ha : inL a) (hb : inL b) (h0 : 0 ≤ a) (h1 : 0 < b) : Int64.ofInt a / Int64.ofInt b = Int64.ofInt (a / b) := by
  rw [lo_div ha hb h1, Int.tdiv_eq_ediv_of_nonneg h0]
theorem lo_remp {a b : Int} (ha : inL a) (hb : inL b) (h0 : 0 ≤ a) (h1 : 0 < b) : Int64.ofInt a - Int64.ofInt a / Int64.ofInt b * Int64.ofInt b = Int64.ofInt (a % b) := by
  rw [lo_divp ha hb h0 h1, lo_mul, lo_sub, Int.emod_def, Int.mul_comm b]
theorem c_isWrongAt {b j : Nat} {A : Row} {w : mW} {Q : mW → mO → Prop} (hS : MS w b A) (hJ : TJ A) (hj : (j : Int) < A 1) (hq : Q w (.inl (some (.int (Int32.ofInt (if A (28 + j) = A (116 + j) then 0 else 1)))))) : CT n_X2_isWrongAt [.ref b, .int (Int32.ofInt j)] w Q := by
  have hz := TJ_sz hJ
  have hR : inR (j : Int) := ⟨by omega, by omega⟩
  have hj16 : j < 16 := by omega
  have hd := TJ_dig hJ j hj16
  have hdu := du_b (A := A) (by omega) hJ.2
  have h16 := p16 (A 1).toNat (by omega)
  have hpj := p16 j (by omega)
  have hD : inL (du A) := ⟨by omega, by omega⟩
  have hP : inL ((10 : Int) ^ j) := ⟨by omega, by omega⟩
  have hq1 : 0 ≤ du A / 10 ^ j := Int.ediv_nonneg hdu.1 (Int.le_of_lt hpj.1)
  have hq2 : du A / 10 ^ j ≤ du A := Int.ediv_le_self _ hdu.1
  have hQ : inL (du A / 10 ^ j) := ⟨by omega, by omega⟩
  have h10 : inL (10 : Int) := ⟨by omega, by omega⟩
  have hdd := hJ.2 j hj16
  refine ct_X2_isWrongAt (rt_X2_isWrongAt_0 ?_)
  simp only [wp_c, wp_n, jj_n, Int.reduceToNat, Int.toNat_natCast, stE, wlE, lgt, lpu, lpw, v_c2, va_s, true_and, and_true, Option.toList, List.nil_append, List.cons_append, List.take, List.drop, List.reverse, List.reverseAux, List.length_cons, List.length_nil, reduceCtorEq, false_implies, true_implies, forall_const, not_true_eq_false, not_false_eq_true, ite_true, ite_false, Bool.false_eq_true, I_I, J_J, Nat.add_left_cancel_iff, Nat.reduceEqDiff, Nat.add_eq_left, Nat.left_eq_add, false_and, and_false, Nat.reduceSub, Nat.sub_self, Nat.le_refl, Nat.zero_le, ge_iff_le, Nat.reduceAdd, Nat.reduceLeDiff, Nat.zero_add, Nat.reduceLT, hS.1.1.1, hS.1.1.2.2.1, hS.1.2.2.1, vp_oi hR, oi_nc hR, hS.2.1.r_dig hj16, lo_i (show inR (A (28 + j)) from ⟨by omega, by omega⟩), hS.2.2.2.1, pw_o, lo_divp hD hP hdu.1 hpj.1, lo_nat]
  have e10 : Int64.ofInt ((10 : Nat) : Int) = Int64.ofInt 10 := rfl
  have er := lo_remp hQ h10 hq1 (by omega : (0 : Int) < 10)
  simp only [e10]
  rw [er, du_dig hJ j hj]
  have hn0 : ¬ Int64.ofInt ((10 : Int) ^ j) = 0 := by rw [lo_0, lo_eq hP ⟨by omega, by omega⟩]; omega
  have hA1 : inL (A (28 + j)) := ⟨by omega, by omega⟩
  have hA2 : inL (A (116 + j)) := ⟨by omega, by omega⟩
  refine ⟨by omega, by omega, hn0, by decide, fun h => ?_, fun h => ?_⟩
  · rw [lg_e, lo_eq hA1 hA2] at h
    rw [if_pos h] at hq
    refine rt_X2_isWrongAt_29 ?_
    simp only [wp_c, wp_n, jj_n, Int.reduceToNat, Int.toNat_natCast, stE, wlE, lgt, lpu, lpw, v_c2, va_s, true_and, and_true, Option.toList, List.nil_append, List.cons_append, List.take, List.drop, List.reverse, List.reverseAux, List.length_cons, List.length_nil, reduceCtorEq, false_implies, true_implies, forall_const, not_true_eq_false, not_false_eq_true, ite_true, ite_false, Bool.false_eq_true, I_I, J_J, Nat.add_left_cancel_iff, Nat.reduceEqDiff, Nat.add_eq_left, Nat.left_eq_add, false_and, and_false, Nat.reduceSub, Nat.sub_self, Nat.le_refl, Nat.zero_le, ge_iff_le, Nat.reduceAdd, Nat.reduceLeDiff, Nat.zero_add, Nat.reduceLT]
    refine rt_X2_isWrongAt_30 ?_
    simp only [wp_c, wp_n, jj_n, Int.reduceToNat, Int.toNat_natCast, stE, wlE, lgt, lpu, lpw, v_c2, va_s, true_and, and_true, Option.toList, List.nil_append, List.cons_append, List.take, List.drop, List.reverse, List.reverseAux, List.length_cons, List.length_nil, reduceCtorEq, false_implies, true_implies, forall_const, not_true_eq_false, not_false_eq_true, ite_true, ite_false, Bool.false_eq_true, I_I, J_J, Nat.add_left_cancel_iff, Nat.reduceEqDiff, Nat.add_eq_left, Nat.left_eq_add, false_and, and_false, Nat.reduceSub, Nat.sub_self, Nat.le_refl, Nat.zero_le, ge_iff_le, Nat.reduceAdd, Nat.reduceLeDiff, Nat.zero_add, Nat.reduceLT, mr_X2_isWrongAt]
    exact ⟨Or.inl rfl, hq⟩
  · rw [lg_e, lo_eq hA1 hA2] at h
    rw [if_neg h] at hq
    refine rt_X2_isWrongAt_30 ?_
    simp only [wp_c, wp_n, jj_n, Int.reduceToNat, Int.toNat_natCast, stE, wlE, lgt, lpu, lpw, v_c2, va_s, true_and, and_true, Option.toList, List.nil_append, List.cons_append, List.take, List.drop, List.reverse, List.reverseAux, List.length_cons, List.length_nil, reduceCtorEq, false_implies, true_implies, forall_const, not_true_eq_false, not_false_eq_true, ite_true, ite_false, Bool.false_eq_true, I_I, J_J, Nat.add_left_cancel_iff, Nat.reduceEqDiff, Nat.add_eq_left, Nat.left_eq_add, false_and, and_false, Nat.reduceSub, Nat.sub_self, Nat.le_refl, Nat.zero_le, ge_iff_le, Nat.reduceAdd, Nat.reduceLeDiff, Nat.zero_add, Nat.reduceLT, mr_X2_isWrongAt]
    exact ⟨Or.inr rfl, hq⟩
