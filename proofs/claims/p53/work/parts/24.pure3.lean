theorem tn_dig (f : Nat → Int) (n j : Nat) (hj : j < n) (hd : ∀ i, i < n → 0 ≤ f i ∧ f i ≤ 9) : tn f n / 10 ^ j % 10 = f j := by
  obtain ⟨k, hk⟩ : ∃ k, n = j + (k + 1) := ⟨n - j - 1, by omega⟩
  subst hk
  have hp : (0 : Int) < 10 ^ j := Int.pow_pos (by decide)
  have hb := tn_b f j (fun i hi => hd i (by omega))
  have hdj := hd j hj
  rw [tn_add, tn_first]
  generalize tn (fun i => f (j + (i + 1))) k = r
  have e : tn f j + 10 ^ j * (f (j + 0) + 10 * r) = tn f j + (f j + 10 * r) * 10 ^ j := by rw [Nat.add_zero, Int.mul_comm]
  rw [e, Int.add_mul_ediv_right _ _ (by omega), Int.ediv_eq_zero_of_lt hb.1 hb.2]
  omega
theorem du_dig {A : Row} (hJ : TJ A) (j : Nat) (hj : (j : Int) < A 1) : du A / 10 ^ j % 10 = A (116 + j) := by
  have hz := TJ_sz hJ
  unfold du
  rw [hn_tn, Int.zero_mul, Int.zero_add]
  exact tn_dig (fun i => A (116 + i)) _ j (by omega) (fun i hi => hJ.2 i (by omega))
theorem lo_divp {a b : Int} (ha : inL a) (hb : inL b) (h0 : 0 ≤ a) (h1 : 0 < b) : Int64.ofInt a / Int64.ofInt b = Int64.ofInt (a / b) := by
  rw [lo_div ha hb h1, Int.tdiv_eq_ediv_of_nonneg h0]
theorem lo_remp {a b : Int} (ha : inL a) (hb : inL b) (h0 : 0 ≤ a) (h1 : 0 < b) : Int64.ofInt a - Int64.ofInt a / Int64.ofInt b * Int64.ofInt b = Int64.ofInt (a % b) := by
  rw [lo_divp ha hb h0 h1, lo_mul, lo_sub, Int.emod_def, Int.mul_comm b]
theorem c_isWrongAt {b j : Nat} {A : Row} {w : mW} {Q : mW → mO → Prop} (hS : MS w b A) (hJ : TJ A) (hj : (j : Int) < A 1) (hq : Q w (.inl (some (.int (Int32.ofInt (if A (28 + j) = A (116 + j) then 0 else 1)))))) : CT n_X2_isWrongAt [.ref b, .int (Int32.ofInt j)] w Q := by
  have hz := TJ_sz hJ
  have hR : inR (j : Int) := ⟨by omega, by omega⟩
  have hj16 : j < 16 := by omega
  have hd := TJ_dig hJ j hj16
  have hdu := du_b (A := A) (by omega) hJ.2
  have h16 := p16 (A 1).toNat (by omega)
  have hpj := p16 j (by omega)
  have hD : inL (du A) := ⟨by omega, by omega⟩
  have hP : inL ((10 : Int) ^ j) := ⟨by omega, by omega⟩
  have hq1 : 0 ≤ du A / 10 ^ j := Int.ediv_nonneg hdu.1 (Int.le_of_lt hpj.1)
  have hq2 : du A / 10 ^ j ≤ du A := Int.ediv_le_self _ hdu.1
  have hQ : inL (du A / 10 ^ j) := ⟨by omega, by omega⟩
  have h10 : inL (10 : Int) := ⟨by omega, by omega⟩
  have hdd := hJ.2 j hj16
  refine ct_X2_isWrongAt (rt_X2_isWrongAt_0 ?_)
  simp only [wp_c, wp_n, jj_n, v_ct, Int.reduceToNat, Int.toNat_natCast, stE, wlE, lgt, lpu, lpw, v_c2, va_s, true_and, and_true, Option.toList, List.nil_append, List.cons_append, List.take, List.drop, List.reverse, List.reverseAux, List.length_cons, List.length_nil, reduceCtorEq, false_implies, true_implies, forall_const, not_true_eq_false, not_false_eq_true, ite_true, ite_false, Bool.false_eq_true, I_I, J_J, Nat.add_left_cancel_iff, Nat.reduceEqDiff, Nat.add_eq_left, Nat.left_eq_add, false_and, and_false, Nat.reduceSub, Nat.sub_self, Nat.le_refl, Nat.zero_le, ge_iff_le, Nat.reduceAdd, Nat.reduceLeDiff, Nat.zero_add, Nat.reduceLT, hS.1.1.1, hS.1.1.2.2.1, hS.1.2.2.1, vp_oi hR, oi_nc hR, hS.2.1.r_dig hj16, lo_i (show inR (A (28 + j)) from ⟨by omega, by omega⟩), hS.2.2.2.1, pw_o, lo_divp hD hP hdu.1 hpj.1, lo_nat]
  have e10 : Int64.ofInt ((10 : Nat) : Int) = Int64.ofInt 10 := rfl
  have er := lo_remp hQ h10 hq1 (by omega : (0 : Int) < 10)
  simp only [e10]
  rw [er, du_dig hJ j hj]
  have hn0 : ¬ Int64.ofInt ((10 : Int) ^ j) = 0 := by rw [lo_0, lo_eq hP ⟨by omega, by omega⟩]; omega
  have hA1 : inL (A (28 + j)) := ⟨by omega, by omega⟩
  have hA2 : inL (A (116 + j)) := ⟨by omega, by omega⟩
  refine ⟨by omega, by omega, hn0, by decide, fun h => ?_, fun h => ?_⟩
  · rw [lg_e, lo_eq hA1 hA2] at h
    rw [if_pos h] at hq
    refine rt_X2_isWrongAt_29 ?_
    simp only [wp_c, wp_n, jj_n, v_ct, Int.reduceToNat, Int.toNat_natCast, stE, wlE, lgt, lpu, lpw, v_c2, va_s, true_and, and_true, Option.toList, List.nil_append, List.cons_append, List.take, List.drop, List.reverse, List.reverseAux, List.length_cons, List.length_nil, reduceCtorEq, false_implies, true_implies, forall_const, not_true_eq_false, not_false_eq_true, ite_true, ite_false, Bool.false_eq_true, I_I, J_J, Nat.add_left_cancel_iff, Nat.reduceEqDiff, Nat.add_eq_left, Nat.left_eq_add, false_and, and_false, Nat.reduceSub, Nat.sub_self, Nat.le_refl, Nat.zero_le, ge_iff_le, Nat.reduceAdd, Nat.reduceLeDiff, Nat.zero_add, Nat.reduceLT]
    refine rt_X2_isWrongAt_30 ?_
    simp only [wp_c, wp_n, jj_n, v_ct, Int.reduceToNat, Int.toNat_natCast, stE, wlE, lgt, lpu, lpw, v_c2, va_s, true_and, and_true, Option.toList, List.nil_append, List.cons_append, List.take, List.drop, List.reverse, List.reverseAux, List.length_cons, List.length_nil, reduceCtorEq, false_implies, true_implies, forall_const, not_true_eq_false, not_false_eq_true, ite_true, ite_false, Bool.false_eq_true, I_I, J_J, Nat.add_left_cancel_iff, Nat.reduceEqDiff, Nat.add_eq_left, Nat.left_eq_add, false_and, and_false, Nat.reduceSub, Nat.sub_self, Nat.le_refl, Nat.zero_le, ge_iff_le, Nat.reduceAdd, Nat.reduceLeDiff, Nat.zero_add, Nat.reduceLT, mr_X2_isWrongAt]
    exact ⟨Or.inl rfl, hq⟩
  · rw [lg_e, lo_eq hA1 hA2] at h
    rw [if_neg h] at hq
    refine rt_X2_isWrongAt_30 ?_
    simp only [wp_c, wp_n, jj_n, v_ct, Int.reduceToNat, Int.toNat_natCast, stE, wlE, lgt, lpu, lpw, v_c2, va_s, true_and, and_true, Option.toList, List.nil_append, List.cons_append, List.take, List.drop, List.reverse, List.reverseAux, List.length_cons, List.length_nil, reduceCtorEq, false_implies, true_implies, forall_const, not_true_eq_false, not_false_eq_true, ite_true, ite_false, Bool.false_eq_true, I_I, J_J, Nat.add_left_cancel_iff, Nat.reduceEqDiff, Nat.add_eq_left, Nat.left_eq_add, false_and, and_false, Nat.reduceSub, Nat.sub_self, Nat.le_refl, Nat.zero_le, ge_iff_le, Nat.reduceAdd, Nat.reduceLeDiff, Nat.zero_add, Nat.reduceLT, mr_X2_isWrongAt]
    exact ⟨Or.inr rfl, hq⟩
/-! taking a turn back -/
theorem lo32_div {a b : Int} (ha : inR a) (hb : inR b) (h1 : 0 < b) (hm : ¬ a = -2147483648) : Int32.ofInt a / Int32.ofInt b = Int32.ofInt (a.tdiv b) := by
  rw [← Int32.toInt_inj, Int32.toInt_div, oi_to ha, oi_to hb, Int32.toInt_ofInt]
theorem c_fmodI {a m : Int} {w : mW} {Q : mW → mO → Prop} (ha : inR a) (hm : inR m) (h0 : 0 < m) (hmin : ¬ a = -2147483648) (hq : Q w (.inl (some (.int (Int32.ofInt (a % m)))))) : CT n_J9_floorMod_7cf53 [.int (Int32.ofInt a), .int (Int32.ofInt m)] w Q := by
  have hm0 : ¬ Int32.ofInt m = 0 := by rw [oi_e0 hm]; omega
  have hml : ¬ Int32.ofInt m < 0 := by rw [oi_l0 hm]; omega
  have hr : Int32.ofInt a - Int32.ofInt a / Int32.ofInt m * Int32.ofInt m = Int32.ofInt (a.tmod m) := by
    rw [lo32_div ha hm h0 hmin, oi_mul, oi_sub, Int.tmod_def, Int.mul_comm m]
  have htm : a.tmod m = if a < 0 ∧ a % m ≠ 0 then a % m - m else a % m := by
    rw [Int.tmod_eq_emod]
    by_cases h1 : 0 ≤ a
    · rw [if_pos (Or.inl h1), if_neg (by omega)]; omega
    · by_cases h2 : a % m = 0
      · rw [if_pos (Or.inr (Int.dvd_of_emod_eq_zero h2)), if_neg (by omega)]; omega
      · have h3 : ¬ (0 ≤ a ∨ m ∣ a) := fun q => q.elim h1 (fun q => h2 (Int.emod_eq_zero_of_dvd q))
        rw [if_neg h3, if_pos ⟨by omega, h2⟩]; omega
  have hrL : inR (a.tmod m) := by
    have h1 := Int.emod_nonneg a (show m ≠ 0 by omega)
    have h2 := Int.emod_lt_of_pos a h0
    have h3 := hm.2
    rw [htm]; split <;> exact ⟨by omega, by omega⟩
  have hge : (0 ≤ Int32.ofInt a ^^^ Int32.ofInt m) ↔ ¬ a < 0 := by
    rw [← Int32.not_lt, xs_i, oi_l0 ha]
    simp only [hml, not_false_eq_true, iff_true]
  refine ct_J9_floorMod_7cf53 (rt_J9_floorMod_7cf53_0 ?_)
  simp only [wp_c, wp_n, jj_n, v_ct, Int.reduceToNat, Int.toNat_natCast, stE, wlE, lgt, lpu, lpw, v_c2, va_s, true_and, and_true, Option.toList, List.nil_append, List.cons_append, List.take, List.drop, List.reverse, List.reverseAux, List.length_cons, List.length_nil, reduceCtorEq, false_implies, true_implies, forall_const, not_true_eq_false, not_false_eq_true, ite_true, ite_false, Bool.false_eq_true, I_I, J_J, Nat.add_left_cancel_iff, Nat.reduceEqDiff, Nat.add_eq_left, Nat.left_eq_add, false_and, and_false, Nat.reduceSub, Nat.sub_self, Nat.le_refl, Nat.zero_le, ge_iff_le, Nat.reduceAdd, Nat.reduceLeDiff, Nat.zero_add, Nat.reduceLT, hr, hge, oi_e0 hrL, oi_add, mr_J9_floorMod_7cf53]
  have h18 : a.tmod m = a % m → RT n_J9_floorMod_7cf53 18 [.int (Int32.ofInt a), .int (Int32.ofInt m), .int (Int32.ofInt (a.tmod m))] [] w (0, 0, false) Q := by
    intro e
    refine rt_J9_floorMod_7cf53_18 ?_
    simp only [wp_c, wp_n, jj_n, v_ct, Int.reduceToNat, Int.toNat_natCast, stE, wlE, lgt, lpu, lpw, v_c2, va_s, true_and, and_true, Option.toList, List.nil_append, List.cons_append, List.take, List.drop, List.reverse, List.reverseAux, List.length_cons, List.length_nil, reduceCtorEq, false_implies, true_implies, forall_const, not_true_eq_false, not_false_eq_true, ite_true, ite_false, Bool.false_eq_true, I_I, J_J, Nat.add_left_cancel_iff, Nat.reduceEqDiff, Nat.add_eq_left, Nat.left_eq_add, false_and, and_false, Nat.reduceSub, Nat.sub_self, Nat.le_refl, Nat.zero_le, ge_iff_le, Nat.reduceAdd, Nat.reduceLeDiff, Nat.zero_add, Nat.reduceLT, mr_J9_floorMod_7cf53]
    rw [e]; exact hq
  refine ⟨hm0, fun h => h18 ?_, fun h => ⟨fun h' => h18 ?_, fun h' => ?_⟩⟩
  · rw [htm, if_neg (fun q => h q.1)]
  · rw [htm] at h' ⊢
    by_cases hz : a % m = 0
    · rw [if_neg (fun q => q.2 hz)]
    · have := Int.emod_lt_of_pos a h0
      rw [if_pos ⟨by omega, hz⟩] at h'
      omega
  · rw [htm] at h' ⊢
    by_cases hz : a % m = 0
    · rw [if_neg (fun q => q.2 hz)] at h'; exact absurd hz h'
    · rw [if_pos ⟨by omega, hz⟩, show a % m - m + m = a % m by omega]; exact hq
/-- moved wheels -/
def m_ct (A : Row) : Nat → Int
  | 0 => 0
  | n + 1 => m_ct A n + (if 0 < Int32.ofInt (A (84 + n)) then 1 else 0)
theorem c_mw_4 {b : Nat} {A : Row} {w : mW} {Q : mW → mO → Prop} (hM : Mb w b) (hA : MemA w b A) : ∀ (n j : Nat), j + n = 16 → Q w (.inl (some (.int (Int32.ofInt (m_ct A 16))))) →
    RT n_X4_movedWheels 4 [.ref (b + 9), .int (Int32.ofInt (m_ct A j)), .int (Int32.ofInt j)] [] w (0, 0, false) Q := by
  have s9 := hM.1.2.2.2.2.2.2.2.2.2.1
  have s11 := hM.1.2.2.2.2.2.2.2.2.2.2.2
  have q11 := hM.2.2.2.2.2.2.2.2.2.2.2
  intro n
  induction n with
  | zero =>
    intro j hn hq
    have hR : inR (j : Int) := ⟨by omega, by omega⟩
    refine rt_X4_movedWheels_4 ?_
    simp only [wp_c, wp_n, jj_n, v_ct, Int.reduceToNat, Int.toNat_natCast, stE, wlE, lgt, lpu, lpw, v_c2, va_s, true_and, and_true, Option.toList, List.nil_append, List.cons_append, List.take, List.drop, List.reverse, List.reverseAux, List.length_cons, List.length_nil, reduceCtorEq, false_implies, true_implies, forall_const, not_true_eq_false, not_false_eq_true, ite_true, ite_false, Bool.false_eq_true, I_I, J_J, Nat.add_left_cancel_iff, Nat.reduceEqDiff, Nat.add_eq_left, Nat.left_eq_add, false_and, and_false, Nat.reduceSub, Nat.sub_self, Nat.le_refl, Nat.zero_le, ge_iff_le, Nat.reduceAdd, Nat.reduceLeDiff, Nat.zero_add, Nat.reduceLT, oi_le (show inR 16 from ⟨by omega, by omega⟩) hR]
    refine ⟨fun _ => ?_, fun h => absurd (by omega) h⟩
    refine rt_X4_movedWheels_28 ?_
    simp only [wp_c, wp_n, jj_n, v_ct, Int.reduceToNat, Int.toNat_natCast, stE, wlE, lgt, lpu, lpw, v_c2, va_s, true_and, and_true, Option.toList, List.nil_append, List.cons_append, List.take, List.drop, List.reverse, List.reverseAux, List.length_cons, List.length_nil, reduceCtorEq, false_implies, true_implies, forall_const, not_true_eq_false, not_false_eq_true, ite_true, ite_false, Bool.false_eq_true, I_I, J_J, Nat.add_left_cancel_iff, Nat.reduceEqDiff, Nat.add_eq_left, Nat.left_eq_add, false_and, and_false, Nat.reduceSub, Nat.sub_self, Nat.le_refl, Nat.zero_le, ge_iff_le, Nat.reduceAdd, Nat.reduceLeDiff, Nat.zero_add, Nat.reduceLT, mr_X4_movedWheels]
    have e : j = 16 := by omega
    rw [e]; exact hq
  | succ n ih =>
    intro j hn hq
    have hR : inR (j : Int) := ⟨by omega, by omega⟩
    have hj : j < 16 := by omega
    have h22 : RT n_X4_movedWheels 22 [.ref (b + 9), .int (Int32.ofInt (m_ct A (j + 1))), .int (Int32.ofInt j)] [] w (0, 0, false) Q := by
      refine rt_X4_movedWheels_22 ?_
      simp only [wp_c, wp_n, jj_n, v_ct, Int.reduceToNat, Int.toNat_natCast, stE, wlE, lgt, lpu, lpw, v_c2, va_s, true_and, and_true, Option.toList, List.nil_append, List.cons_append, List.take, List.drop, List.reverse, List.reverseAux, List.length_cons, List.length_nil, reduceCtorEq, false_implies, true_implies, forall_const, not_true_eq_false, not_false_eq_true, ite_true, ite_false, Bool.false_eq_true, I_I, J_J, Nat.add_left_cancel_iff, Nat.reduceEqDiff, Nat.add_eq_left, Nat.left_eq_add, false_and, and_false, Nat.reduceSub, Nat.sub_self, Nat.le_refl, Nat.zero_le, ge_iff_le, Nat.reduceAdd, Nat.reduceLeDiff, Nat.zero_add, Nat.reduceLT, oi_add]
      exact ih (j + 1) (by omega) hq
    refine rt_X4_movedWheels_4 ?_
    simp only [wp_c, wp_n, jj_n, v_ct, Int.reduceToNat, Int.toNat_natCast, stE, wlE, lgt, lpu, lpw, v_c2, va_s, true_and, and_true, Option.toList, List.nil_append, List.cons_append, List.take, List.drop, List.reverse, List.reverseAux, List.length_cons, List.length_nil, reduceCtorEq, false_implies, true_implies, forall_const, not_true_eq_false, not_false_eq_true, ite_true, ite_false, Bool.false_eq_true, I_I, J_J, Nat.add_left_cancel_iff, Nat.reduceEqDiff, Nat.add_eq_left, Nat.left_eq_add, false_and, and_false, Nat.reduceSub, Nat.sub_self, Nat.le_refl, Nat.zero_le, ge_iff_le, Nat.reduceAdd, Nat.reduceLeDiff, Nat.zero_add, Nat.reduceLT, s9, s11, q11, oi_le (show inR 16 from ⟨by omega, by omega⟩) hR, vp_oi hR, oi_nc hR, hA.r_mov hj, oi_add]
    refine ⟨fun h => absurd h (by omega), fun _ => ⟨by omega, fun h => ?_, fun h => ?_⟩⟩
    · have e : m_ct A (j + 1) = m_ct A j := by simp only [m_ct]; rw [if_neg (Int32.not_lt.mpr h)]; omega
      rw [e] at h22; exact h22
    · have e : m_ct A (j + 1) = m_ct A j + 1 := by simp only [m_ct]; rw [if_pos (Int32.not_le.mp h)]
      rw [e] at h22; exact h22
theorem c_movedWheels {b : Nat} {A : Row} {w : mW} {Q : mW → mO → Prop} (hM : Mb w b) (hA : MemA w b A) (hq : Q w (.inl (some (.int (Int32.ofInt (m_ct A 16)))))) : CT n_X4_movedWheels [.ref (b + 9)] w Q := by
  refine ct_X4_movedWheels (rt_X4_movedWheels_0 ?_)
  simp only [wp_c, wp_n, jj_n, v_ct, Int.reduceToNat, Int.toNat_natCast, stE, wlE, lgt, lpu, lpw, v_c2, va_s, true_and, and_true, Option.toList, List.nil_append, List.cons_append, List.take, List.drop, List.reverse, List.reverseAux, List.length_cons, List.length_nil, reduceCtorEq, false_implies, true_implies, forall_const, not_true_eq_false, not_false_eq_true, ite_true, ite_false, Bool.false_eq_true, I_I, J_J, Nat.add_left_cancel_iff, Nat.reduceEqDiff, Nat.add_eq_left, Nat.left_eq_add, false_and, and_false, Nat.reduceSub, Nat.sub_self, Nat.le_refl, Nat.zero_le, ge_iff_le, Nat.reduceAdd, Nat.reduceLeDiff, Nat.zero_add, Nat.reduceLT]
  exact c_mw_4 hM hA 16 0 (by omega) hq
theorem MemA.st2 {w : mW} {b j : Nat} {A : Row} {u v : Int} (h : MemA w b A) (hj : j < 16) : MemA (s_I (s_I w (b + 2) j (Int32.ofInt u)) (b + 5) j (Int32.ofInt v)) b (up (up A (28 + j) u) (100 + j) v) := (h.dig hj).stp hj
def a_tb : Nat → Row → Nat → Row
  | 0, A, _ => A
  | n + 1, A, j => a_tb n (up (up A (28 + j) ((A (28 + j) - A 7 * A (84 + j)) % 10)) (100 + j) (A (100 + j) + A (84 + j))) (j + 1)
theorem tb_s : ∀ (n : Nat) (A : Row) (j i : Nat), (i < 28 ∨ (44 ≤ i ∧ i < 100) ∨ 116 ≤ i) → j + n ≤ 16 → a_tb n A j i = A i := by
  intro n
  induction n with
  | zero => intro A j i _ _; rfl
  | succ n ih => intro A j i hi hn; rw [a_tb, ih _ _ _ hi (by omega), up_eq, if_neg (by omega), up_eq, if_neg (by omega)]
theorem c_tb_10 {b : Nat} {d : Int} {y : Int32} {Q : mW → mO → Prop} (hd : d = 1 ∨ d = -1) : ∀ (n j : Nat) (A : Row) (w : mW) (x : Value), (j : Int) + n = A 1 → A 1 ≤ 16 → A 7 = d → Mb w b → MemA w b A → w_I w (b + 9) 2 = Int32.ofInt d → (∀ i, i < 16 → 0 ≤ A (84 + i) ∧ A (84 + i) ≤ 10) → (∀ i, i < 16 → 0 ≤ A (28 + i) ∧ A (28 + i) ≤ 9) →
    (∀ w' x', MemA w' b (a_tb n A j) → (∀ i, i < 16 → 0 ≤ a_tb n A j (28 + i) ∧ a_tb n A j (28 + i) ≤ 9) → Fr [b + 2, b + 5] w w' → RT n_X2_takeBackTurn 71 [.ref b, .int y, .int (Int32.ofInt (A 1)), x'] [] w' (0, 0, false) Q) →
    RT n_X2_takeBackTurn 10 [.ref b, .int y, .int (Int32.ofInt j), x] [] w (0, 0, false) Q := by
  intro n
  induction n with
  | zero =>
    intro j A w x hn h16 h7 hM hA hT hmv hdg hq
    have hR : inR (j : Int) := ⟨by omega, by omega⟩
    have hR1 : inR (A 1) := ⟨by omega, by omega⟩
    refine rt_X2_takeBackTurn_10 ?_
    simp only [wp_c, wp_n, jj_n, v_ct, Int.reduceToNat, Int.toNat_natCast, stE, wlE, lgt, lpu, lpw, v_c2, va_s, true_and, and_true, Option.toList, List.nil_append, List.cons_append, List.take, List.drop, List.reverse, List.reverseAux, List.length_cons, List.length_nil, reduceCtorEq, false_implies, true_implies, forall_const, not_true_eq_false, not_false_eq_true, ite_true, ite_false, Bool.false_eq_true, I_I, J_J, Nat.add_left_cancel_iff, Nat.reduceEqDiff, Nat.add_eq_left, Nat.left_eq_add, false_and, and_false, Nat.reduceSub, Nat.sub_self, Nat.le_refl, Nat.zero_le, ge_iff_le, Nat.reduceAdd, Nat.reduceLeDiff, Nat.zero_add, Nat.reduceLT, hM.1.1, hA.1.2.1, oi_le hR1 hR]
    refine ⟨fun _ => ?_, fun h => absurd (by omega) h⟩
    have e : (j : Int) = A 1 := by omega
    rw [e]
    exact hq w x hA hdg (Fr.refl _ _)
  | succ n ih =>
    intro j A w x hn h16 h7 hM hA hT hmv hdg hq
    have hM0 := hM
    obtain ⟨⟨s0, s1, s2, s3, s4, s5, s6, s7, s8, s9, s10, s11⟩, r6, r7, r8, r9, r10, r11, r12, r13, q2, q10, q11⟩ := hM
    have hR : inR (j : Int) := ⟨by omega, by omega⟩
    have hR1 : inR (A 1) := ⟨by omega, by omega⟩
    have hj : j < 16 := by omega
    have hm := hmv j hj
    have hg := hdg j hj
    have hv : -10 ≤ A (28 + j) - d * A (84 + j) ∧ A (28 + j) - d * A (84 + j) ≤ 19 := by rcases hd with h | h <;> rw [h] <;> constructor <;> omega
    refine rt_X2_takeBackTurn_10 ?_
    simp only [wp_c, wp_n, jj_n, v_ct, Int.reduceToNat, Int.toNat_natCast, stE, wlE, lgt, lpu, lpw, v_c2, va_s, true_and, and_true, Option.toList, List.nil_append, List.cons_append, List.take, List.drop, List.reverse, List.reverseAux, List.length_cons, List.length_nil, reduceCtorEq, false_implies, true_implies, forall_const, not_true_eq_false, not_false_eq_true, ite_true, ite_false, Bool.false_eq_true, I_I, J_J, Nat.add_left_cancel_iff, Nat.reduceEqDiff, Nat.add_eq_left, Nat.left_eq_add, false_and, and_false, Nat.reduceSub, Nat.sub_self, Nat.le_refl, Nat.zero_le, ge_iff_le, Nat.reduceAdd, Nat.reduceLeDiff, Nat.zero_add, Nat.reduceLT, s0, s2, s5, s9, s11, r7, r10, r13, q11, hA.1.2.1, hT, oi_le hR1 hR, vp_oi hR, oi_nc hR, hA.r_mov hj, hA.r_dig hj, oi_mul, oi_sub, mh_X2_takeBackTurn]
    refine ⟨fun h => absurd h (by omega), fun _ => ⟨by omega, by omega, ?_⟩⟩
    refine c_fmodI ⟨by omega, by omega⟩ ⟨by omega, by omega⟩ (by omega) (by omega) ?_
    simp only [wp_c, wp_n, jj_n, v_ct, Int.reduceToNat, Int.toNat_natCast, stE, wlE, lgt, lpu, lpw, v_c2, va_s, true_and, and_true, Option.toList, List.nil_append, List.cons_append, List.take, List.drop, List.reverse, List.reverseAux, List.length_cons, List.length_nil, reduceCtorEq, false_implies, true_implies, forall_const, not_true_eq_false, not_false_eq_true, ite_true, ite_false, Bool.false_eq_true, I_I, J_J, Nat.add_left_cancel_iff, Nat.reduceEqDiff, Nat.add_eq_left, Nat.left_eq_add, false_and, and_false, Nat.reduceSub, Nat.sub_self, Nat.le_refl, Nat.zero_le, ge_iff_le, Nat.reduceAdd, Nat.reduceLeDiff, Nat.zero_add, Nat.reduceLT, s0, s2, s5, r10, vp_oi hR, oi_nc hR, hA.r_stp hj, oi_add]
    refine ⟨by omega, by omega, by omega, ?_⟩
    have f : Fr [b + 2, b + 5] w (s_I (s_I w (b + 2) j (Int32.ofInt ((A (28 + j) - d * A (84 + j)) % 10))) (b + 5) j (Int32.ofInt (A (100 + j) + A (84 + j)))) := ((Fr.refl _ _).I (by simp)).I (by simp)
    rw [a_tb, h7] at hq
    refine ih (j + 1) (up (up A (28 + j) ((A (28 + j) - d * A (84 + j)) % 10)) (100 + j) (A (100 + j) + A (84 + j))) _ _ ?_ ?_ ?_ (hM0.fr f) (hA.st2 hj) ?_ (fun i hi => ?_) (fun i hi => ?_) (fun w' x' k1 k2 k3 => ?_)
    · rw [up_eq, if_neg (by omega), up_eq, if_neg (by omega)]; omega
    · rw [up_eq, if_neg (by omega), up_eq, if_neg (by omega)]; omega
    · rw [up_eq, if_neg (by omega), up_eq, if_neg (by omega)]; exact h7
    · rw [(f.2.2.2 (b + 9) (by simp)).1]; exact hT
    · rw [up_eq, if_neg (by omega), up_eq, if_neg (by omega)]; exact hmv i hi
    · rw [up_eq, if_neg (by omega), up_eq]
      split
      · omega
      · exact hdg i hi
    · have e1 : up (up A (28 + j) ((A (28 + j) - d * A (84 + j)) % 10)) (100 + j) (A (100 + j) + A (84 + j)) 1 = A 1 := by rw [up_eq, if_neg (by omega), up_eq, if_neg (by omega)]
      rw [e1]
      exact hq w' x' k1 k2 (f.trans k3 (fun _ q => q) (fun _ q => q))
def a_bk3 (B : Row) : Row := up (up (up B 14 (B 14 - B 9)) 15 (B 15 - B 10)) 16 (B 16 - B 11)
def a_bk (A : Row) : Row := up (a_beg (a_bk3 (a_tb (A 1).toNat A 0)) 1) 5 0
theorem bk3_s (B : Row) (i : Nat) (hi : i < 14 ∨ 16 < i) : a_bk3 B i = B i := by
  simp only [a_bk3, up_eq]
  rw [if_neg (by omega), if_neg (by omega), if_neg (by omega)]
theorem c_takeBack {b : Nat} {A : Row} {w : mW} {Q : mW → mO → Prop} (hS : MS w b A) (hJ : TJ A) (hJI : JI A) (hmv : ∀ i, i < 16 → 0 ≤ A (84 + i) ∧ A (84 + i) ≤ 10)
  (hq : ∀ w', MS w' b (a_bk A) → FrM b w w' → TJ (a_bk A) → Q w' (.inl (some (.int (Int32.ofInt (m_ct A 16)))))) : CT n_X2_takeBackTurn [.ref b] w Q := by
  have hz := TJ_sz hJ
  have hTI := TJ_TI hJ hJI.2.1
  obtain ⟨hM, hA, hL, hD, dv, d, p, pl, c, l, ⟨t0, t1, t2, t3, t4, t8, t9⟩, hdv, hl, hj⟩ := hS
  have h5 : 0 < A 5 := by obtain ⟨h | h, -⟩ := hJI <;> omega
  obtain ⟨e1, e2, e3, e4⟩ := hj h5
  have hM0 := hM
  obtain ⟨⟨s0, s1, s2, s3, s4, s5, s6, s7, s8, s9, s10, s11⟩, r6, r7, r8, r9, r10, r11, r12, r13, q2, q10, q11⟩ := hM
  refine ct_X2_takeBackTurn (rt_X2_takeBackTurn_0 ?_)
  simp only [wp_c, wp_n, jj_n, v_ct, Int.reduceToNat, Int.toNat_natCast, stE, wlE, lgt, lpu, lpw, v_c2, va_s, true_and, and_true, Option.toList, List.nil_append, List.cons_append, List.take, List.drop, List.reverse, List.reverseAux, List.length_cons, List.length_nil, reduceCtorEq, false_implies, true_implies, forall_const, not_true_eq_false, not_false_eq_true, ite_true, ite_false, Bool.false_eq_true, I_I, J_J, Nat.add_left_cancel_iff, Nat.reduceEqDiff, Nat.add_eq_left, Nat.left_eq_add, false_and, and_false, Nat.reduceSub, Nat.sub_self, Nat.le_refl, Nat.zero_le, ge_iff_le, Nat.reduceAdd, Nat.reduceLeDiff, Nat.zero_add, Nat.reduceLT, s0, s9, r13, mh_X2_takeBackTurn]
  refine c_movedWheels hM0 hA ?_
  simp only [wp_c, wp_n, jj_n, v_ct, Int.reduceToNat, Int.toNat_natCast, stE, wlE, lgt, lpu, lpw, v_c2, va_s, true_and, and_true, Option.toList, List.nil_append, List.cons_append, List.take, List.drop, List.reverse, List.reverseAux, List.length_cons, List.length_nil, reduceCtorEq, false_implies, true_implies, forall_const, not_true_eq_false, not_false_eq_true, ite_true, ite_false, Bool.false_eq_true, I_I, J_J, Nat.add_left_cancel_iff, Nat.reduceEqDiff, Nat.add_eq_left, Nat.left_eq_add, false_and, and_false, Nat.reduceSub, Nat.sub_self, Nat.le_refl, Nat.zero_le, ge_iff_le, Nat.reduceAdd, Nat.reduceLeDiff, Nat.zero_add, Nat.reduceLT]
  have hd := hJI.2.1
  rw [← e2] at hd
  have hts := tb_s (A 1).toNat A 0
  refine c_tb_10 (d := d) hd (A 1).toNat 0 A w .null (by omega) (by omega) e2.symm hM0 hA t2 hmv (fun i hi => TJ_dig hJ i hi) fun w1 x1 g1 gd f1 => ?_
  have hts' : ∀ i, (i < 28 ∨ (44 ≤ i ∧ i < 100) ∨ 116 ≤ i) → a_tb (A 1).toNat A 0 i = A i := fun i hi => hts i hi (by omega)
  have hbk : a_bk A = up (a_beg (a_bk3 (a_tb (A 1).toNat A 0)) 1) 5 0 := rfl
  rw [hbk] at hq
  generalize a_tb (A 1).toNat A 0 = B at g1 gd hts' hq
  clear hbk hts
  have m2 := g1.cts (i := 2) (v := B 14 - B 9) (by omega)
  have m3 := m2.cts (i := 3) (v := B 15 - B 10) (by omega)
  have m4 := m3.cts (i := 4) (v := B 16 - B 11) (by omega)
  have c2 := g1.r_cts (show 2 < 6 by omega)
  have c3 := g1.r_cts (show 3 < 6 by omega)
  have c4 := g1.r_cts (show 4 < 6 by omega)
  obtain ⟨o5, o6, o7⟩ := g1.2.2.2.2.2.2.2.1
  refine rt_X2_takeBackTurn_71 ?_
  simp only [wp_c, wp_n, jj_n, v_ct, Int.reduceToNat, Int.toNat_natCast, stE, wlE, lgt, lpu, lpw, v_c2, va_s, true_and, and_true, Option.toList, List.nil_append, List.cons_append, List.take, List.drop, List.reverse, List.reverseAux, List.length_cons, List.length_nil, reduceCtorEq, false_implies, true_implies, forall_const, not_true_eq_false, not_false_eq_true, ite_true, ite_false, Bool.false_eq_true, I_I, J_J, Nat.add_left_cancel_iff, Nat.reduceEqDiff, Nat.add_eq_left, Nat.left_eq_add, false_and, and_false, Nat.reduceSub, Nat.sub_self, Nat.le_refl, Nat.zero_le, ge_iff_le, Nat.reduceAdd, Nat.reduceLeDiff, Nat.zero_add, Nat.reduceLT, f1.1, f1.2.1, s0, s6, s9, r11, r13, c2, c3, c4, o5, o6, o7, oi_sub, vp_oi (show inR 2 from ⟨by omega, by omega⟩), oi_nc (show inR 2 from ⟨by omega, by omega⟩), vp_oi (show inR 3 from ⟨by omega, by omega⟩), oi_nc (show inR 3 from ⟨by omega, by omega⟩), vp_oi (show inR 4 from ⟨by omega, by omega⟩), oi_nc (show inR 4 from ⟨by omega, by omega⟩), mh_X2_takeBackTurn, mr_X2_takeBackTurn]
  refine ⟨by omega, by omega, by omega, by omega, by omega, by omega, ?_⟩
  have f2 : Fr [b + 2, b + 5, b + 6] w (s_I (s_I (s_I w1 (b + 6) 2 (Int32.ofInt (B 14 - B 9))) (b + 6) 3 (Int32.ofInt (B 15 - B 10))) (b + 6) 4 (Int32.ofInt (B 16 - B 11))) := (((f1.mono (by simp)).I (by simp)).I (by simp)).I (by simp)
  have m5 : MemA (s_I (s_I (s_I w1 (b + 6) 2 (Int32.ofInt (B 14 - B 9))) (b + 6) 3 (Int32.ofInt (B 15 - B 10))) (b + 6) 4 (Int32.ofInt (B 16 - B 11))) b (a_bk3 B) := m4
  generalize s_I (s_I (s_I w1 (b + 6) 2 (Int32.ofInt (B 14 - B 9))) (b + 6) 3 (Int32.ofInt (B 15 - B 10))) (b + 6) 4 (Int32.ofInt (B 16 - B 11)) = w2 at f2 m5
  refine c_begin (dv := 0) (way := 1) (hM0.fr f2) m5 (Or.inl rfl) fun w3 k1 k2 k3 => ?_
  simp only [wp_c, wp_n, jj_n, v_ct, Int.reduceToNat, Int.toNat_natCast, stE, wlE, lgt, lpu, lpw, v_c2, va_s, true_and, and_true, Option.toList, List.nil_append, List.cons_append, List.take, List.drop, List.reverse, List.reverseAux, List.length_cons, List.length_nil, reduceCtorEq, false_implies, true_implies, forall_const, not_true_eq_false, not_false_eq_true, ite_true, ite_false, Bool.false_eq_true, I_I, J_J, Nat.add_left_cancel_iff, Nat.reduceEqDiff, Nat.add_eq_left, Nat.left_eq_add, false_and, and_false, Nat.reduceSub, Nat.sub_self, Nat.le_refl, Nat.zero_le, ge_iff_le, Nat.reduceAdd, Nat.reduceLeDiff, Nat.zero_add, Nat.reduceLT]
  have f3 : Fr [b + 2, b + 5, b + 6, b + 9, b + 10, b + 11] w w3 := f2.trans k3 (by simp) (by simp)
  have hrow : ∀ i, i ≠ 5 → i ≠ 7 → (i < 9 ∨ (17 ≤ i ∧ i < 28) ∨ (44 ≤ i ∧ i < 52) ∨ (68 ≤ i ∧ i < 84) ∨ 116 ≤ i) → up (a_beg (a_bk3 B) 1) 5 0 i = A i := by
    intro i h1 h2 h3
    rw [up_eq, if_neg h1, beg_k _ _ _ (by omega), bk3_s _ _ (by omega), hts' _ (by omega)]
  refine hq w3 ⟨hM0.fr f3, k1.free (by omega), ?_, ?_, 0, 1, 0, 0, Int32.ofInt 0, Int32.ofInt 0, ?_, Or.inl rfl, by decide, fun h => ?_⟩ (f3.toM (by simp)) ?_
  · exact (hL.fr f3 (by simp) (by simp)).row (hrow _ (by omega) (by omega) (by omega)) (fun i hi => hrow i (by omega) (by omega) (by omega))
  · rw [(f3.2.2.2 b (by simp)).2, hD]; congr 1
    unfold du
    rw [hrow 1 (by omega) (by omega) (by omega)]
    exact (hn_c _ _ (fun i hi => hrow _ (by omega) (by omega) (by omega))).symm
  · rw [up_eq, if_pos rfl]; exact k2
  · rw [up_eq, if_pos rfl] at h; omega
  · refine ⟨?_, fun i hi => by rw [hrow _ (by omega) (by omega) (by omega)]; exact hJ.2 i hi⟩
    have hB : TI (up (a_bk3 B) 7 1) := by
      obtain ⟨h0, h7, h1, h2, h3, h4, h5'⟩ := hTI
      refine ⟨?_, ?_, fun i hi => ?_, fun i hi => ?_, fun i hi => ?_, fun i hi => ?_, fun i hi => ?_⟩
      · simp only [up_eq]
        rw [if_neg (by omega), if_neg (by omega), if_neg (by omega), if_neg (by omega), if_neg (by omega), bk3_s _ _ (by omega), bk3_s _ _ (by omega), bk3_s _ _ (by omega), bk3_s _ _ (by omega), bk3_s _ _ (by omega), hts' _ (by omega), hts' _ (by omega), hts' _ (by omega), hts' _ (by omega), hts' _ (by omega)]
        exact h0
      · rw [up_eq, if_pos rfl]; exact Or.inl rfl
      all_goals rw [up_eq, if_neg (by omega), bk3_s _ _ (by omega)]
      · rw [hts' _ (by omega)]; exact h1 i hi
      · exact gd i hi
      · rw [hts' _ (by omega)]; exact h3 i hi
      · rw [hts' _ (by omega)]; exact h4 i hi
      · rw [hts' _ (by omega)]; exact h5' i hi
    exact ((beg_TI hB (Or.inl rfl)).up (i := 5) (v := 0) (by omega)).of
/-! copies -/
theorem Fr.A {l : List Nat} {w w' : mW} {a : Nat} {f : Nat → Int32} (h : Fr l w w') (ha : a ∈ l) : Fr l w (s_A w' a f) :=
  ⟨h.1, h.2.1, h.2.2.1, fun c hc => ⟨by rw [← (h.2.2.2 c hc).1, A_I, if_neg (fun (q : c = a) => hc (q ▸ ha))], (h.2.2.2 c hc).2⟩⟩
theorem cpy_at (f g : Nat → Int32) (n j : Nat) : va_cpy f g 0 0 n j = if j < n then f j else g j := by
  simp only [va_cpy]
  by_cases h : j < n
  · rw [if_pos h, if_pos (by omega)]; congr 1; omega
  · rw [if_neg h, if_neg (by omega)]
theorem c_logCopy {b b' : Nat} {w : mW} {A : Row} {Q : mW → mO → Prop} (hM : Mb w b) (hM' : Mb w b') (hL : LogA w b' A) (hb : b + 12 ≤ b' ∨ b' + 12 ≤ b) (hq : ∀ w', LogA w' b A → Fr [b + 7, b + 8] w w' → Q w' (.inl none)) : CT n_X8_copyFrom [.ref (b + 7), .ref (b' + 7)] w Q := by
  have s7 := hM.1.2.2.2.2.2.2.2.1
  have s8 := hM.1.2.2.2.2.2.2.2.2.1
  have q2 := hM.2.2.2.2.2.2.2.2.2.1
  have s7' := hM'.1.2.2.2.2.2.2.2.1
  have s8' := hM'.1.2.2.2.2.2.2.2.2.1
  have q2' := hM'.2.2.2.2.2.2.2.2.2.1
  obtain ⟨o, h1, h2, h3, h4, h5, h6⟩ := hL
  have n1 : ¬ b' + 7 = b + 7 := by omega
  have n3 : ¬ b' + 8 = b + 7 := by omega
  refine ct_X8_copyFrom (rt_X8_copyFrom_0 ?_)
  simp only [wp_c, wp_n, jj_n, v_ct, Int.reduceToNat, Int.toNat_natCast, stE, wlE, lgt, lpu, lpw, v_c2, va_s, true_and, and_true, Option.toList, List.nil_append, List.cons_append, List.take, List.drop, List.reverse, List.reverseAux, List.length_cons, List.length_nil, reduceCtorEq, false_implies, true_implies, forall_const, not_true_eq_false, not_false_eq_true, ite_true, ite_false, Bool.false_eq_true, I_I, J_J, Nat.add_left_cancel_iff, Nat.reduceEqDiff, Nat.add_eq_left, Nat.left_eq_add, false_and, and_false, Nat.reduceSub, Nat.sub_self, Nat.le_refl, Nat.zero_le, ge_iff_le, Nat.reduceAdd, Nat.reduceLeDiff, Nat.zero_add, Nat.reduceLT, s7, s8, q2, s7', s8', q2', oi_l0 (show inR 0 from inR0), oi_l0 (show inR 120 from ⟨by omega, by omega⟩), oi_nc (show inR 0 from inR0), oi_nc (show inR 120 from ⟨by omega, by omega⟩), n1]
  refine ⟨by omega, by omega, by omega, hq _ ⟨o, h1, h2, h3, ?_, ?_, fun i k hi hk => ?_⟩ ((((Fr.refl _ _).I (by simp)).I (by simp)).A (by simp))⟩
  · simp only [A_I, wp_c, wp_n, jj_n, v_ct, Int.reduceToNat, Int.toNat_natCast, stE, wlE, lgt, lpu, lpw, v_c2, va_s, true_and, and_true, Option.toList, List.nil_append, List.cons_append, List.take, List.drop, List.reverse, List.reverseAux, List.length_cons, List.length_nil, reduceCtorEq, false_implies, true_implies, forall_const, not_true_eq_false, not_false_eq_true, ite_true, ite_false, Bool.false_eq_true, I_I, J_J, Nat.add_left_cancel_iff, Nat.reduceEqDiff, Nat.add_eq_left, Nat.left_eq_add, false_and, and_false, Nat.reduceSub, Nat.sub_self, Nat.le_refl, Nat.zero_le, ge_iff_le, Nat.reduceAdd, Nat.reduceLeDiff, Nat.zero_add, Nat.reduceLT, h4]
  · simp only [A_I, wp_c, wp_n, jj_n, v_ct, Int.reduceToNat, Int.toNat_natCast, stE, wlE, lgt, lpu, lpw, v_c2, va_s, true_and, and_true, Option.toList, List.nil_append, List.cons_append, List.take, List.drop, List.reverse, List.reverseAux, List.length_cons, List.length_nil, reduceCtorEq, false_implies, true_implies, forall_const, not_true_eq_false, not_false_eq_true, ite_true, ite_false, Bool.false_eq_true, I_I, J_J, Nat.add_left_cancel_iff, Nat.reduceEqDiff, Nat.add_eq_left, Nat.left_eq_add, false_and, and_false, Nat.reduceSub, Nat.sub_self, Nat.le_refl, Nat.zero_le, ge_iff_le, Nat.reduceAdd, Nat.reduceLeDiff, Nat.zero_add, Nat.reduceLT, h5]
  · simp only [A_I, wp_c, wp_n, jj_n, v_ct, Int.reduceToNat, Int.toNat_natCast, stE, wlE, lgt, lpu, lpw, v_c2, va_s, true_and, and_true, Option.toList, List.nil_append, List.cons_append, List.take, List.drop, List.reverse, List.reverseAux, List.length_cons, List.length_nil, reduceCtorEq, false_implies, true_implies, forall_const, not_true_eq_false, not_false_eq_true, ite_true, ite_false, Bool.false_eq_true, I_I, J_J, Nat.add_left_cancel_iff, Nat.reduceEqDiff, Nat.add_eq_left, Nat.left_eq_add, false_and, and_false, Nat.reduceSub, Nat.sub_self, Nat.le_refl, Nat.zero_le, ge_iff_le, Nat.reduceAdd, Nat.reduceLeDiff, Nat.zero_add, Nat.reduceLT, cpy_at]
    rw [if_pos (by omega)]
    rw [if_neg (fun q => by omega), if_neg (fun q => by omega)]
    exact h6 i k hi hk
theorem nar_b {v : Int} (h : 0 ≤ v ∧ v ≤ 1) : vp_nar .boolean (Int32.ofInt v) = Int32.ofInt v := by
  have : v = 0 ∨ v = 1 := by omega
  rcases this with rfl | rfl <;> rfl
theorem c_tc_82 {b b' : Nat} {Q : mW → mO → Prop} {lv : Nat → Int} (hb : b + 12 ≤ b' ∨ b' + 12 ≤ b) (hlv : ∀ j, j < 16 → 0 ≤ lv j ∧ lv j ≤ 1) : ∀ (n j : Nat) (w : mW), j + n = 16 → Mb w b → Mb w b' → (∀ i, i < 16 → w_I w (b' + 10) i = Int32.ofInt (lv i)) → (∀ i, i < j → w_I w (b + 10) i = w_I w (b' + 10) i ∧ w_I w (b + 11) i = w_I w (b' + 11) i) →
    (∀ w', (∀ i, i < 16 → w_I w' (b + 10) i = w_I w (b' + 10) i ∧ w_I w' (b + 11) i = w_I w (b' + 11) i) → Fr [b + 10, b + 11] w w' → Q w' (.inl none)) →
    RT n_X4_copyFrom 82 [.ref (b + 9), .ref (b' + 9), .int (Int32.ofInt j)] [] w (0, 0, false) Q := by
  intro n
  induction n with
  | zero =>
    intro j w hn hM hM' hl hc hq
    have hR : inR (j : Int) := ⟨by omega, by omega⟩
    refine rt_X4_copyFrom_82 ?_
    simp only [wp_c, wp_n, jj_n, v_ct, Int.reduceToNat, Int.toNat_natCast, stE, wlE, lgt, lpu, lpw, v_c2, va_s, true_and, and_true, Option.toList, List.nil_append, List.cons_append, List.take, List.drop, List.reverse, List.reverseAux, List.length_cons, List.length_nil, reduceCtorEq, false_implies, true_implies, forall_const, not_true_eq_false, not_false_eq_true, ite_true, ite_false, Bool.false_eq_true, I_I, J_J, Nat.add_left_cancel_iff, Nat.reduceEqDiff, Nat.add_eq_left, Nat.left_eq_add, false_and, and_false, Nat.reduceSub, Nat.sub_self, Nat.le_refl, Nat.zero_le, ge_iff_le, Nat.reduceAdd, Nat.reduceLeDiff, Nat.zero_add, Nat.reduceLT, oi_le (show inR 16 from ⟨by omega, by omega⟩) hR]
    refine ⟨fun _ => ?_, fun h => absurd (by omega) h⟩
    refine rt_X4_copyFrom_118 ?_
    simp only [wp_c, wp_n, jj_n, v_ct, Int.reduceToNat, Int.toNat_natCast, stE, wlE, lgt, lpu, lpw, v_c2, va_s, true_and, and_true, Option.toList, List.nil_append, List.cons_append, List.take, List.drop, List.reverse, List.reverseAux, List.length_cons, List.length_nil, reduceCtorEq, false_implies, true_implies, forall_const, not_true_eq_false, not_false_eq_true, ite_true, ite_false, Bool.false_eq_true, I_I, J_J, Nat.add_left_cancel_iff, Nat.reduceEqDiff, Nat.add_eq_left, Nat.left_eq_add, false_and, and_false, Nat.reduceSub, Nat.sub_self, Nat.le_refl, Nat.zero_le, ge_iff_le, Nat.reduceAdd, Nat.reduceLeDiff, Nat.zero_add, Nat.reduceLT]
    exact hq w (fun i hi => hc i (by omega)) (Fr.refl _ _)
  | succ n ih =>
    intro j w hn hM hM' hl hc hq
    have hR : inR (j : Int) := ⟨by omega, by omega⟩
    have hj : j < 16 := by omega
    have s9 := hM.1.2.2.2.2.2.2.2.2.2.1
    have s10 := hM.1.2.2.2.2.2.2.2.2.2.2.1
    have s11 := hM.1.2.2.2.2.2.2.2.2.2.2.2
    have q10 := hM.2.2.2.2.2.2.2.2.2.2.1
    have q11 := hM.2.2.2.2.2.2.2.2.2.2.2
    have s9' := hM'.1.2.2.2.2.2.2.2.2.2.1
    have s10' := hM'.1.2.2.2.2.2.2.2.2.2.2.1
    have s11' := hM'.1.2.2.2.2.2.2.2.2.2.2.2
    have q10' := hM'.2.2.2.2.2.2.2.2.2.2.1
    have q11' := hM'.2.2.2.2.2.2.2.2.2.2.2
    have n1 : ¬ b' + 11 = b + 10 := by omega
    have n2 : ¬ b' + 1 = b := by omega
    refine rt_X4_copyFrom_82 ?_
    simp only [wp_c, wp_n, jj_n, v_ct, Int.reduceToNat, Int.toNat_natCast, stE, wlE, lgt, lpu, lpw, v_c2, va_s, true_and, and_true, Option.toList, List.nil_append, List.cons_append, List.take, List.drop, List.reverse, List.reverseAux, List.length_cons, List.length_nil, reduceCtorEq, false_implies, true_implies, forall_const, not_true_eq_false, not_false_eq_true, ite_true, ite_false, Bool.false_eq_true, I_I, J_J, Nat.add_left_cancel_iff, Nat.reduceEqDiff, Nat.add_eq_left, Nat.left_eq_add, false_and, and_false, Nat.reduceSub, Nat.sub_self, Nat.le_refl, Nat.zero_le, ge_iff_le, Nat.reduceAdd, Nat.reduceLeDiff, Nat.zero_add, Nat.reduceLT, s9, s10, s11, q10, q11, s9', s10', s11', q10', q11', oi_le (show inR 16 from ⟨by omega, by omega⟩) hR, vp_oi hR, oi_nc hR, hl j hj, nar_b (hlv j hj), n1, n2, oi_add]
    refine ⟨fun h => absurd h (by omega), fun _ => ⟨by omega, by omega, by omega, by omega, ?_⟩⟩
    have f : Fr [b + 10, b + 11] w (s_I (s_I w (b + 10) j (Int32.ofInt (lv j))) (b + 11) j (w_I w (b' + 11) j)) := ((Fr.refl _ _).I (by simp)).I (by simp)
    have o10 : w_I (s_I (s_I w (b + 10) j (Int32.ofInt (lv j))) (b + 11) j (w_I w (b' + 11) j)) (b' + 10) = w_I w (b' + 10) := (f.2.2.2 _ (by simp; omega)).1
    have o11 : w_I (s_I (s_I w (b + 10) j (Int32.ofInt (lv j))) (b + 11) j (w_I w (b' + 11) j)) (b' + 11) = w_I w (b' + 11) := (f.2.2.2 _ (by simp; omega)).1
    have e10 : ∀ i, w_I (s_I (s_I w (b + 10) j (Int32.ofInt (lv j))) (b + 11) j (w_I w (b' + 11) j)) (b + 10) i = if i = j then Int32.ofInt (lv j) else w_I w (b + 10) i := fun i => by simp only [wp_c, wp_n, jj_n, v_ct, Int.reduceToNat, Int.toNat_natCast, stE, wlE, lgt, lpu, lpw, v_c2, va_s, true_and, and_true, Option.toList, List.nil_append, List.cons_append, List.take, List.drop, List.reverse, List.reverseAux, List.length_cons, List.length_nil, reduceCtorEq, false_implies, true_implies, forall_const, not_true_eq_false, not_false_eq_true, ite_true, ite_false, Bool.false_eq_true, I_I, J_J, Nat.add_left_cancel_iff, Nat.reduceEqDiff, Nat.add_eq_left, Nat.left_eq_add, false_and, and_false, Nat.reduceSub, Nat.sub_self, Nat.le_refl, Nat.zero_le, ge_iff_le, Nat.reduceAdd, Nat.reduceLeDiff, Nat.zero_add, Nat.reduceLT]
    have e11 : ∀ i, w_I (s_I (s_I w (b + 10) j (Int32.ofInt (lv j))) (b + 11) j (w_I w (b' + 11) j)) (b + 11) i = if i = j then w_I w (b' + 11) j else w_I w (b + 11) i := fun i => by simp only [wp_c, wp_n, jj_n, v_ct, Int.reduceToNat, Int.toNat_natCast, stE, wlE, lgt, lpu, lpw, v_c2, va_s, true_and, and_true, Option.toList, List.nil_append, List.cons_append, List.take, List.drop, List.reverse, List.reverseAux, List.length_cons, List.length_nil, reduceCtorEq, false_implies, true_implies, forall_const, not_true_eq_false, not_false_eq_true, ite_true, ite_false, Bool.false_eq_true, I_I, J_J, Nat.add_left_cancel_iff, Nat.reduceEqDiff, Nat.add_eq_left, Nat.left_eq_add, false_and, and_false, Nat.reduceSub, Nat.sub_self, Nat.le_refl, Nat.zero_le, ge_iff_le, Nat.reduceAdd, Nat.reduceLeDiff, Nat.zero_add, Nat.reduceLT]
    generalize s_I (s_I w (b + 10) j (Int32.ofInt (lv j))) (b + 11) j (w_I w (b' + 11) j) = w2 at f o10 o11 e10 e11
    refine ih (j + 1) w2 (by omega) (hM.fr f) (hM'.fr f) (fun i hi => by rw [o10]; exact hl i hi) (fun i hi => ?_) (fun w' k1 k2 => ?_)
    · rw [o10, o11, e10, e11]
      by_cases h : i = j
      · subst h; rw [if_pos rfl, if_pos rfl]; exact ⟨(hl _ hj).symm, rfl⟩
      · rw [if_neg h, if_neg h]; exact hc i (by omega)
    · rw [o10, o11] at k1
      exact hq w' k1 (f.trans k2 (fun _ q => q) (fun _ q => q))
theorem c_turnCopy {b b' : Nat} {A : Row} {w : mW} {Q : mW → mO → Prop} (hb : b + 12 ≤ b' ∨ b' + 12 ≤ b) (hM : Mb w b) (hM' : Mb w b') (hA : MemA w b' A) (hT : TR w b' A) (hlv : ∀ j, j < 16 → 0 ≤ A (52 + j) ∧ A (52 + j) ≤ 1)
  (hq : ∀ w', (∀ i, i < 10 → w_I w' (b + 9) i = w_I w (b' + 9) i) → (∀ i, i < 16 → w_I w' (b + 10) i = w_I w (b' + 10) i ∧ w_I w' (b + 11) i = w_I w (b' + 11) i) → Fr [b + 9, b + 10, b + 11] w w' → Q w' (.inl none)) : CT n_X4_copyFrom [.ref (b + 9), .ref (b' + 9)] w Q := by
  obtain ⟨dv, d, p, pl, c, l, ⟨t0, t1, t2, t3, t4, t8, t9⟩, hdv, -, -⟩ := hT
  have s9 := hM.1.2.2.2.2.2.2.2.2.2.1
  have s9' := hM'.1.2.2.2.2.2.2.2.2.2.1
  have n1 : ¬ b' = b := by omega
  have nn : ¬ b' + 9 = b + 9 := by omega
  have bj : Int32.ofInt (if 0 < A 5 then 1 else 0) = 0 ∨ Int32.ofInt (if 0 < A 5 then 1 else 0) = 1 := by split; exact Or.inr rfl; exact Or.inl rfl
  have bd : Int32.ofInt dv = 0 ∨ Int32.ofInt dv = 1 := by rcases hdv with rfl | rfl; exact Or.inl rfl; exact Or.inr rfl
  refine ct_X4_copyFrom (rt_X4_copyFrom_0 ?_)
  simp only [wp_c, wp_n, jj_n, v_ct, Int.reduceToNat, Int.toNat_natCast, stE, wlE, lgt, lpu, lpw, v_c2, va_s, true_and, and_true, Option.toList, List.nil_append, List.cons_append, List.take, List.drop, List.reverse, List.reverseAux, List.length_cons, List.length_nil, reduceCtorEq, false_implies, true_implies, forall_const, not_true_eq_false, not_false_eq_true, ite_true, ite_false, Bool.false_eq_true, I_I, J_J, Nat.add_left_cancel_iff, Nat.reduceEqDiff, Nat.add_eq_left, Nat.left_eq_add, false_and, and_false, Nat.reduceSub, Nat.sub_self, Nat.le_refl, Nat.zero_le, ge_iff_le, Nat.reduceAdd, Nat.reduceLeDiff, Nat.zero_add, Nat.reduceLT, s9, s9', t0, t1, nn, n1]
  refine ⟨bj, bd, ?_⟩
  have f : Fr [b + 9, b + 10, b + 11] w (s_I (s_I (s_I (s_I (s_I (s_I (s_I (s_I (s_I (s_I w (b + 9) 0 (Int32.ofInt (if 0 < A 5 then 1 else 0))) (b + 9) 1 (Int32.ofInt dv)) (b + 9) 2 (w_I w (b' + 9) 2)) (b + 9) 3 (w_I w (b' + 9) 3)) (b + 9) 4 (w_I w (b' + 9) 4)) (b + 9) 5 (w_I w (b' + 9) 5)) (b + 9) 6 (w_I w (b' + 9) 6)) (b + 9) 7 (w_I w (b' + 9) 7)) (b + 9) 8 (w_I w (b' + 9) 8)) (b + 9) 9 (w_I w (b' + 9) 9)) := ((((((((((Fr.refl _ _).I (by simp)).I (by simp)).I (by simp)).I (by simp)).I (by simp)).I (by simp)).I (by simp)).I (by simp)).I (by simp)).I (by simp)
  have o9 : w_I (s_I (s_I (s_I (s_I (s_I (s_I (s_I (s_I (s_I (s_I w (b + 9) 0 (Int32.ofInt (if 0 < A 5 then 1 else 0))) (b + 9) 1 (Int32.ofInt dv)) (b + 9) 2 (w_I w (b' + 9) 2)) (b + 9) 3 (w_I w (b' + 9) 3)) (b + 9) 4 (w_I w (b' + 9) 4)) (b + 9) 5 (w_I w (b' + 9) 5)) (b + 9) 6 (w_I w (b' + 9) 6)) (b + 9) 7 (w_I w (b' + 9) 7)) (b + 9) 8 (w_I w (b' + 9) 8)) (b + 9) 9 (w_I w (b' + 9) 9)) (b' + 9) = w_I w (b' + 9) := (f.2.2.2 _ (by simp; omega)).1
  have o10 : w_I (s_I (s_I (s_I (s_I (s_I (s_I (s_I (s_I (s_I (s_I w (b + 9) 0 (Int32.ofInt (if 0 < A 5 then 1 else 0))) (b + 9) 1 (Int32.ofInt dv)) (b + 9) 2 (w_I w (b' + 9) 2)) (b + 9) 3 (w_I w (b' + 9) 3)) (b + 9) 4 (w_I w (b' + 9) 4)) (b + 9) 5 (w_I w (b' + 9) 5)) (b + 9) 6 (w_I w (b' + 9) 6)) (b + 9) 7 (w_I w (b' + 9) 7)) (b + 9) 8 (w_I w (b' + 9) 8)) (b + 9) 9 (w_I w (b' + 9) 9)) (b' + 10) = w_I w (b' + 10) := (f.2.2.2 _ (by simp; omega)).1
  have o11 : w_I (s_I (s_I (s_I (s_I (s_I (s_I (s_I (s_I (s_I (s_I w (b + 9) 0 (Int32.ofInt (if 0 < A 5 then 1 else 0))) (b + 9) 1 (Int32.ofInt dv)) (b + 9) 2 (w_I w (b' + 9) 2)) (b + 9) 3 (w_I w (b' + 9) 3)) (b + 9) 4 (w_I w (b' + 9) 4)) (b + 9) 5 (w_I w (b' + 9) 5)) (b + 9) 6 (w_I w (b' + 9) 6)) (b + 9) 7 (w_I w (b' + 9) 7)) (b + 9) 8 (w_I w (b' + 9) 8)) (b + 9) 9 (w_I w (b' + 9) 9)) (b' + 11) = w_I w (b' + 11) := (f.2.2.2 _ (by simp; omega)).1
  have e9 : ∀ i, i < 10 → w_I (s_I (s_I (s_I (s_I (s_I (s_I (s_I (s_I (s_I (s_I w (b + 9) 0 (Int32.ofInt (if 0 < A 5 then 1 else 0))) (b + 9) 1 (Int32.ofInt dv)) (b + 9) 2 (w_I w (b' + 9) 2)) (b + 9) 3 (w_I w (b' + 9) 3)) (b + 9) 4 (w_I w (b' + 9) 4)) (b + 9) 5 (w_I w (b' + 9) 5)) (b + 9) 6 (w_I w (b' + 9) 6)) (b + 9) 7 (w_I w (b' + 9) 7)) (b + 9) 8 (w_I w (b' + 9) 8)) (b + 9) 9 (w_I w (b' + 9) 9)) (b + 9) i = w_I w (b' + 9) i := by
    intro i hi
    rcases (show i = 0 ∨ i = 1 ∨ i = 2 ∨ i = 3 ∨ i = 4 ∨ i = 5 ∨ i = 6 ∨ i = 7 ∨ i = 8 ∨ i = 9 by omega) with rfl | rfl | rfl | rfl | rfl | rfl | rfl | rfl | rfl | rfl <;> simp only [wp_c, wp_n, jj_n, v_ct, Int.reduceToNat, Int.toNat_natCast, stE, wlE, lgt, lpu, lpw, v_c2, va_s, true_and, and_true, Option.toList, List.nil_append, List.cons_append, List.take, List.drop, List.reverse, List.reverseAux, List.length_cons, List.length_nil, reduceCtorEq, false_implies, true_implies, forall_const, not_true_eq_false, not_false_eq_true, ite_true, ite_false, Bool.false_eq_true, I_I, J_J, Nat.add_left_cancel_iff, Nat.reduceEqDiff, Nat.add_eq_left, Nat.left_eq_add, false_and, and_false, Nat.reduceSub, Nat.sub_self, Nat.le_refl, Nat.zero_le, ge_iff_le, Nat.reduceAdd, Nat.reduceLeDiff, Nat.zero_add, Nat.reduceLT, t0, t1, n1]
  generalize s_I (s_I (s_I (s_I (s_I (s_I (s_I (s_I (s_I (s_I w (b + 9) 0 (Int32.ofInt (if 0 < A 5 then 1 else 0))) (b + 9) 1 (Int32.ofInt dv)) (b + 9) 2 (w_I w (b' + 9) 2)) (b + 9) 3 (w_I w (b' + 9) 3)) (b + 9) 4 (w_I w (b' + 9) 4)) (b + 9) 5 (w_I w (b' + 9) 5)) (b + 9) 6 (w_I w (b' + 9) 6)) (b + 9) 7 (w_I w (b' + 9) 7)) (b + 9) 8 (w_I w (b' + 9) 8)) (b + 9) 9 (w_I w (b' + 9) 9) = w2 at f o9 o10 o11 e9
  refine c_tc_82 (lv := fun j => A (52 + j)) hb hlv 16 0 w2 rfl (hM.fr f) (hM'.fr f) (fun i hi => by rw [o10]; exact hA.r_lev hi) (fun i hi => absurd hi (by omega)) fun w' k1 k2 => ?_
  rw [o10, o11] at k1
  refine hq w' (fun i hi => ?_) k1 (f.trans k2 (fun _ q => q) (by simp))
  rw [(k2.2.2.2 (b + 9) (by simp)).1]
  exact e9 i hi
/-- a Machine's cells equal to another's -/
theorem MemA.cp {w w' : mW} {b b' : Nat} {A : Row} (h : MemA w b' A) (e0 : ∀ i, i < 5 → w_I w' b i = w_I w b' i) (e1 : ∀ i, i < 8 → w_I w' (b + 1) i = w_I w (b' + 1) i) (e2 : ∀ i, i < 16 → w_I w' (b + 2) i = w_I w (b' + 2) i) (e3 : ∀ i, i < 8 → w_I w' (b + 3) i = w_I w (b' + 3) i) (e4 : ∀ i, i < 16 → w_I w' (b + 4) i = w_I w (b' + 4) i) (e5 : ∀ i, i < 16 → w_I w' (b + 5) i = w_I w (b' + 5) i) (e6 : ∀ i, i < 6 → w_I w' (b + 6) i = w_I w (b' + 6) i) (e9 : ∀ i, i < 10 → w_I w' (b + 9) i = w_I w (b' + 9) i) (e10 : ∀ i, i < 16 → w_I w' (b + 10) i = w_I w (b' + 10) i ∧ w_I w' (b + 11) i = w_I w (b' + 11) i) : MemA w' b A := by
  obtain ⟨⟨b0, b1, b2, b3, b4⟩, a1, a2, a3, a4, a5, a6, ⟨c5, c6, c7⟩, a8, a9⟩ := h
  refine ⟨⟨(e0 0 (by omega)).trans b0, (e0 1 (by omega)).trans b1, (e0 2 (by omega)).trans b2, (e0 3 (by omega)).trans b3, (e0 4 (by omega)).trans b4⟩, fun j hj => (e1 j hj).trans (a1 j hj), fun j hj => (e2 j hj).trans (a2 j hj), fun j hj => (e3 j hj).trans (a3 j hj), fun j hj => (e4 j hj).trans (a4 j hj), fun j hj => (e5 j hj).trans (a5 j hj), fun j hj => (e6 j hj).trans (a6 j hj), ⟨(e9 5 (by omega)).trans c5, (e9 6 (by omega)).trans c6, (e9 7 (by omega)).trans c7⟩, fun j hj => (e10 j hj).1.trans (a8 j hj), fun j hj => (e10 j hj).2.trans (a9 j hj)⟩
theorem TR.cp {w w' : mW} {b b' : Nat} {A : Row} (h : TR w b' A) (e9 : ∀ i, i < 10 → w_I w' (b + 9) i = w_I w (b' + 9) i) : TR w' b A := by
  obtain ⟨dv, d, p, pl, c, l, ⟨t0, t1, t2, t3, t4, t8, t9⟩, r⟩ := h
  exact ⟨dv, d, p, pl, c, l, ⟨(e9 0 (by omega)).trans t0, (e9 1 (by omega)).trans t1, (e9 2 (by omega)).trans t2, (e9 3 (by omega)).trans t3, (e9 4 (by omega)).trans t4, (e9 8 (by omega)).trans t8, (e9 9 (by omega)).trans t9⟩, r⟩
theorem c_copyFrom {b b' : Nat} {A : Row} {w : mW} {Q : mW → mO → Prop} (hb : b + 12 ≤ b' ∨ b' + 12 ≤ b) (hM : Mb w b) (hS : MS w b' A) (hJ : TJ A) (hq : ∀ w', MS w' b A → FrM b w w' → Q w' (.inl none)) : CT n_X2_copyFrom [.ref b, .ref b'] w Q := by
  obtain ⟨hM', hA, hL, hD, hT⟩ := hS
  have hM0 := hM
  have hM0' := hM'
  obtain ⟨⟨s0, s1, s2, s3, s4, s5, s6, s7, s8, s9, s10, s11⟩, r6, r7, r8, r9, r10, r11, r12, r13, q2, q10, q11⟩ := hM
  obtain ⟨⟨s0', s1', s2', s3', s4', s5', s6', s7', s8', s9', s10', s11'⟩, r6', r7', r8', r9', r10', r11', r12', r13', q2', q10', q11'⟩ := hM'
  have z0 : Int32.ofInt 0 < 0 ↔ (0 : Int) < 0 := oi_l0 inR0
  have z8 : Int32.ofInt 8 < 0 ↔ (8 : Int) < 0 := oi_l0 ⟨by omega, by omega⟩
  have z16 : Int32.ofInt 16 < 0 ↔ (16 : Int) < 0 := oi_l0 ⟨by omega, by omega⟩
  have z6 : Int32.ofInt 6 < 0 ↔ (6 : Int) < 0 := oi_l0 ⟨by omega, by omega⟩
  have y0 : (Int32.ofInt 0).toNatClampNeg = 0 := rfl
  have y8 : (Int32.ofInt 8).toNatClampNeg = 8 := rfl
  have y16 : (Int32.ofInt 16).toNatClampNeg = 16 := rfl
  have y6 : (Int32.ofInt 6).toNatClampNeg = 6 := rfl
  refine ct_X2_copyFrom (rt_X2_copyFrom_0 ?_)
  simp only [wp_c, wp_n, jj_n, v_ct, Int.reduceToNat, Int.toNat_natCast, stE, wlE, lgt, lpu, lpw, v_c2, va_s, true_and, and_true, Option.toList, List.nil_append, List.cons_append, List.take, List.drop, List.reverse, List.reverseAux, List.length_cons, List.length_nil, reduceCtorEq, false_implies, true_implies, forall_const, not_true_eq_false, not_false_eq_true, ite_true, ite_false, Bool.false_eq_true, I_I, J_J, Nat.add_left_cancel_iff, Nat.reduceEqDiff, Nat.add_eq_left, Nat.left_eq_add, false_and, and_false, Nat.reduceSub, Nat.sub_self, Nat.le_refl, Nat.zero_le, ge_iff_le, Nat.reduceAdd, Nat.reduceLeDiff, Nat.zero_add, Nat.reduceLT, s0, s1, s2, s3, s4, s5, s6, s7, s9, r6, r7, r8, r9, r10, r11, r12, r13, s0', s1', s2', s3', s4', s5', s6', s7', s9', r6', r7', r8', r9', r10', r11', r12', r13', z0, z8, z16, z6, y0, y8, y16, y6, mh_X2_copyFrom]
  have nn : ¬ b' = b := by omega
  have na1 : ¬ b' + 1 = b := by omega
  have na2 : ¬ b' + 2 = b := by omega
  have na3 : ¬ b' + 3 = b := by omega
  have na4 : ¬ b' + 4 = b := by omega
  have na5 : ¬ b' + 5 = b := by omega
  have na6 : ¬ b' + 6 = b := by omega
  have nb1 : ¬ b' = b + 1 := by omega
  have nb2 : ¬ b' = b + 2 := by omega
  have nb3 : ¬ b' = b + 3 := by omega
  have nb4 : ¬ b' = b + 4 := by omega
  have nb5 : ¬ b' = b + 5 := by omega
  have nb6 : ¬ b' = b + 6 := by omega
  refine ⟨by omega, by omega, by omega, by omega, by omega, by omega, by omega, by omega, by omega, by omega, by omega, by omega, by omega, by omega, by omega, by omega, by omega, by omega, ?_⟩
  have key : ∀ W1 : mW, Fr [b, b + 1, b + 2, b + 3, b + 4, b + 5, b + 6] w W1 → (∀ i, i < 5 → w_I W1 b i = w_I w b' i) → (∀ i, i < 8 → w_I W1 (b + 1) i = w_I w (b' + 1) i) → (∀ i, i < 16 → w_I W1 (b + 2) i = w_I w (b' + 2) i) → (∀ i, i < 8 → w_I W1 (b + 3) i = w_I w (b' + 3) i) → (∀ i, i < 16 → w_I W1 (b + 4) i = w_I w (b' + 4) i) → (∀ i, i < 16 → w_I W1 (b + 5) i = w_I w (b' + 5) i) → (∀ i, i < 6 → w_I W1 (b + 6) i = w_I w (b' + 6) i) → w_J W1 b 5 = w_J w b' 5 →
      CT n_X8_copyFrom [.ref (b + 7), .ref (b' + 7)] W1 (fun w' o => match o with
        | .inl a => wpS n_X2_copyFrom (jj n_X2_copyFrom Q) Q [(149, .aload_n 0, 0, 0, 0, 0, 0), (150, .getfield 38, 2, 13, 2, 0, 0), (153, .aload_n 1, 0, 0, 0, 0, 0), (154, .getfield 38, 2, 13, 2, 0, 0), (157, .invokevirtual 88, n_X4_copyFrom, 2, 14, 0, 0), (160, .return_, 0, 0, 0, 0, 0)] 161 [.ref b, .ref b'] (a.toList ++ []) w' (0, 0, false)
        | .inr E => Q w' (.inr E)) := by
    intro W1 f e0 e1 e2 e3 e4 e5 e6 eJ
    refine c_logCopy (A := A) (hM0.fr f) (hM0'.fr f) (hL.fr f (by simp; omega) (by simp; omega)) hb fun w2 g1 g2 => ?_
    have f2 := f.trans g2 (l'' := [b, b + 1, b + 2, b + 3, b + 4, b + 5, b + 6, b + 7, b + 8]) (by simp) (by simp)
    simp only [wp_c, wp_n, jj_n, v_ct, Int.reduceToNat, Int.toNat_natCast, stE, wlE, lgt, lpu, lpw, v_c2, va_s, true_and, and_true, Option.toList, List.nil_append, List.cons_append, List.take, List.drop, List.reverse, List.reverseAux, List.length_cons, List.length_nil, reduceCtorEq, false_implies, true_implies, forall_const, not_true_eq_false, not_false_eq_true, ite_true, ite_false, Bool.false_eq_true, I_I, J_J, Nat.add_left_cancel_iff, Nat.reduceEqDiff, Nat.add_eq_left, Nat.left_eq_add, false_and, and_false, Nat.reduceSub, Nat.sub_self, Nat.le_refl, Nat.zero_le, ge_iff_le, Nat.reduceAdd, Nat.reduceLeDiff, Nat.zero_add, Nat.reduceLT, f2.1, f2.2.1, s0, s0', s9, r13, r13', mh_X2_copyFrom]
    refine c_turnCopy (A := A) hb (hM0.fr f2) (hM0'.fr f2) (hA.fr f2 (fun c h1 h2 h3 => by simp; omega)) (hT.fr f2 (by simp; omega) (fun _ _ _ => rfl)) (fun j hj => TJ_lev hJ j hj) fun w3 k1 k2 k3 => ?_
    simp only [wp_c, wp_n, jj_n, v_ct, Int.reduceToNat, Int.toNat_natCast, stE, wlE, lgt, lpu, lpw, v_c2, va_s, true_and, and_true, Option.toList, List.nil_append, List.cons_append, List.take, List.drop, List.reverse, List.reverseAux, List.length_cons, List.length_nil, reduceCtorEq, false_implies, true_implies, forall_const, not_true_eq_false, not_false_eq_true, ite_true, ite_false, Bool.false_eq_true, I_I, J_J, Nat.add_left_cancel_iff, Nat.reduceEqDiff, Nat.add_eq_left, Nat.left_eq_add, false_and, and_false, Nat.reduceSub, Nat.sub_self, Nat.le_refl, Nat.zero_le, ge_iff_le, Nat.reduceAdd, Nat.reduceLeDiff, Nat.zero_add, Nat.reduceLT]
    have f3 := f2.trans k3 (l'' := [b, b + 1, b + 2, b + 3, b + 4, b + 5, b + 6, b + 7, b + 8, b + 9, b + 10, b + 11]) (by simp) (by simp)
    have o9 : w_I w2 (b' + 9) = w_I w (b' + 9) := (f2.2.2.2 _ (by simp; omega)).1
    have o10 : w_I w2 (b' + 10) = w_I w (b' + 10) := (f2.2.2.2 _ (by simp; omega)).1
    have o11 : w_I w2 (b' + 11) = w_I w (b' + 11) := (f2.2.2.2 _ (by simp; omega)).1
    rw [o9] at k1
    rw [o10, o11] at k2
    have back : ∀ c, c < 7 → w_I w3 (b + c) = w_I W1 (b + c) := fun c hc => ((k3.2.2.2 (b + c) (by simp; omega)).1).trans ((g2.2.2.2 (b + c) (by simp; omega)).1)
    have back0 : w_I w3 b = w_I W1 b := back 0 (by omega)
    refine hq w3 ⟨hM0.fr f3, hA.cp (fun i hi => by rw [back0]; exact e0 i hi) (fun i hi => by rw [back 1 (by omega)]; exact e1 i hi) (fun i hi => by rw [back 2 (by omega)]; exact e2 i hi) (fun i hi => by rw [back 3 (by omega)]; exact e3 i hi) (fun i hi => by rw [back 4 (by omega)]; exact e4 i hi) (fun i hi => by rw [back 5 (by omega)]; exact e5 i hi) (fun i hi => by rw [back 6 (by omega)]; exact e6 i hi) k1 k2, g1.fr k3 (by simp) (by simp), ?_, hT.cp k1⟩ (f3.toM (by simp))
    rw [(k3.2.2.2 b (by simp)).2, (g2.2.2.2 b (by simp)).2, eJ]; exact hD
  refine CT.mono (key _ ?_ ?_ ?_ ?_ ?_ ?_ ?_ ?_ ?_) (fun w' o h => ?_)
  · exact ((((((((((((((Fr.refl _ _).I (by simp)).I (by simp)).I (by simp)).I (by simp)).I (by simp)).J (by simp)).A (by simp)).A (by simp)).A (by simp)).A (by simp)).A (by simp)).A (by simp)))
  · intro i hi
    rcases (show i = 0 ∨ i = 1 ∨ i = 2 ∨ i = 3 ∨ i = 4 by omega) with rfl | rfl | rfl | rfl | rfl <;> simp only [A_I, wp_c, wp_n, jj_n, v_ct, Int.reduceToNat, Int.toNat_natCast, stE, wlE, lgt, lpu, lpw, v_c2, va_s, true_and, and_true, Option.toList, List.nil_append, List.cons_append, List.take, List.drop, List.reverse, List.reverseAux, List.length_cons, List.length_nil, reduceCtorEq, false_implies, true_implies, forall_const, not_true_eq_false, not_false_eq_true, ite_true, ite_false, Bool.false_eq_true, I_I, J_J, Nat.add_left_cancel_iff, Nat.reduceEqDiff, Nat.add_eq_left, Nat.left_eq_add, false_and, and_false, Nat.reduceSub, Nat.sub_self, Nat.le_refl, Nat.zero_le, ge_iff_le, Nat.reduceAdd, Nat.reduceLeDiff, Nat.zero_add, Nat.reduceLT, nn, na1, na2, na3, na4, na5, na6, nb1, nb2, nb3, nb4, nb5, nb6]
  · intro i hi
    simp only [A_I, wp_c, wp_n, jj_n, v_ct, Int.reduceToNat, Int.toNat_natCast, stE, wlE, lgt, lpu, lpw, v_c2, va_s, true_and, and_true, Option.toList, List.nil_append, List.cons_append, List.take, List.drop, List.reverse, List.reverseAux, List.length_cons, List.length_nil, reduceCtorEq, false_implies, true_implies, forall_const, not_true_eq_false, not_false_eq_true, ite_true, ite_false, Bool.false_eq_true, I_I, J_J, Nat.add_left_cancel_iff, Nat.reduceEqDiff, Nat.add_eq_left, Nat.left_eq_add, false_and, and_false, Nat.reduceSub, Nat.sub_self, Nat.le_refl, Nat.zero_le, ge_iff_le, Nat.reduceAdd, Nat.reduceLeDiff, Nat.zero_add, Nat.reduceLT, cpy_at, nn, na1, na2, na3, na4, na5, na6, nb1, nb2, nb3, nb4, nb5, nb6]
    rw [if_pos hi]
  · intro i hi
    simp only [A_I, wp_c, wp_n, jj_n, v_ct, Int.reduceToNat, Int.toNat_natCast, stE, wlE, lgt, lpu, lpw, v_c2, va_s, true_and, and_true, Option.toList, List.nil_append, List.cons_append, List.take, List.drop, List.reverse, List.reverseAux, List.length_cons, List.length_nil, reduceCtorEq, false_implies, true_implies, forall_const, not_true_eq_false, not_false_eq_true, ite_true, ite_false, Bool.false_eq_true, I_I, J_J, Nat.add_left_cancel_iff, Nat.reduceEqDiff, Nat.add_eq_left, Nat.left_eq_add, false_and, and_false, Nat.reduceSub, Nat.sub_self, Nat.le_refl, Nat.zero_le, ge_iff_le, Nat.reduceAdd, Nat.reduceLeDiff, Nat.zero_add, Nat.reduceLT, cpy_at, nn, na1, na2, na3, na4, na5, na6, nb1, nb2, nb3, nb4, nb5, nb6]
    rw [if_pos hi]
  · intro i hi
    simp only [A_I, wp_c, wp_n, jj_n, v_ct, Int.reduceToNat, Int.toNat_natCast, stE, wlE, lgt, lpu, lpw, v_c2, va_s, true_and, and_true, Option.toList, List.nil_append, List.cons_append, List.take, List.drop, List.reverse, List.reverseAux, List.length_cons, List.length_nil, reduceCtorEq, false_implies, true_implies, forall_const, not_true_eq_false, not_false_eq_true, ite_true, ite_false, Bool.false_eq_true, I_I, J_J, Nat.add_left_cancel_iff, Nat.reduceEqDiff, Nat.add_eq_left, Nat.left_eq_add, false_and, and_false, Nat.reduceSub, Nat.sub_self, Nat.le_refl, Nat.zero_le, ge_iff_le, Nat.reduceAdd, Nat.reduceLeDiff, Nat.zero_add, Nat.reduceLT, cpy_at, nn, na1, na2, na3, na4, na5, na6, nb1, nb2, nb3, nb4, nb5, nb6]
    rw [if_pos hi]
  · intro i hi
    simp only [A_I, wp_c, wp_n, jj_n, v_ct, Int.reduceToNat, Int.toNat_natCast, stE, wlE, lgt, lpu, lpw, v_c2, va_s, true_and, and_true, Option.toList, List.nil_append, List.cons_append, List.take, List.drop, List.reverse, List.reverseAux, List.length_cons, List.length_nil, reduceCtorEq, false_implies, true_implies, forall_const, not_true_eq_false, not_false_eq_true, ite_true, ite_false, Bool.false_eq_true, I_I, J_J, Nat.add_left_cancel_iff, Nat.reduceEqDiff, Nat.add_eq_left, Nat.left_eq_add, false_and, and_false, Nat.reduceSub, Nat.sub_self, Nat.le_refl, Nat.zero_le, ge_iff_le, Nat.reduceAdd, Nat.reduceLeDiff, Nat.zero_add, Nat.reduceLT, cpy_at, nn, na1, na2, na3, na4, na5, na6, nb1, nb2, nb3, nb4, nb5, nb6]
    rw [if_pos hi]
  · intro i hi
    simp only [A_I, wp_c, wp_n, jj_n, v_ct, Int.reduceToNat, Int.toNat_natCast, stE, wlE, lgt, lpu, lpw, v_c2, va_s, true_and, and_true, Option.toList, List.nil_append, List.cons_append, List.take, List.drop, List.reverse, List.reverseAux, List.length_cons, List.length_nil, reduceCtorEq, false_implies, true_implies, forall_const, not_true_eq_false, not_false_eq_true, ite_true, ite_false, Bool.false_eq_true, I_I, J_J, Nat.add_left_cancel_iff, Nat.reduceEqDiff, Nat.add_eq_left, Nat.left_eq_add, false_and, and_false, Nat.reduceSub, Nat.sub_self, Nat.le_refl, Nat.zero_le, ge_iff_le, Nat.reduceAdd, Nat.reduceLeDiff, Nat.zero_add, Nat.reduceLT, cpy_at, nn, na1, na2, na3, na4, na5, na6, nb1, nb2, nb3, nb4, nb5, nb6]
    rw [if_pos hi]
  · intro i hi
    simp only [A_I, wp_c, wp_n, jj_n, v_ct, Int.reduceToNat, Int.toNat_natCast, stE, wlE, lgt, lpu, lpw, v_c2, va_s, true_and, and_true, Option.toList, List.nil_append, List.cons_append, List.take, List.drop, List.reverse, List.reverseAux, List.length_cons, List.length_nil, reduceCtorEq, false_implies, true_implies, forall_const, not_true_eq_false, not_false_eq_true, ite_true, ite_false, Bool.false_eq_true, I_I, J_J, Nat.add_left_cancel_iff, Nat.reduceEqDiff, Nat.add_eq_left, Nat.left_eq_add, false_and, and_false, Nat.reduceSub, Nat.sub_self, Nat.le_refl, Nat.zero_le, ge_iff_le, Nat.reduceAdd, Nat.reduceLeDiff, Nat.zero_add, Nat.reduceLT, cpy_at, nn, na1, na2, na3, na4, na5, na6, nb1, nb2, nb3, nb4, nb5, nb6]
    rw [if_pos hi]
  · simp only [A_J, J_J, wp_c, wp_n, jj_n, v_ct, Int.reduceToNat, Int.toNat_natCast, stE, wlE, lgt, lpu, lpw, v_c2, va_s, true_and, and_true, Option.toList, List.nil_append, List.cons_append, List.take, List.drop, List.reverse, List.reverseAux, List.length_cons, List.length_nil, reduceCtorEq, false_implies, true_implies, forall_const, not_true_eq_false, not_false_eq_true, ite_true, ite_false, Bool.false_eq_true, I_I, J_J, Nat.add_left_cancel_iff, Nat.reduceEqDiff, Nat.add_eq_left, Nat.left_eq_add, false_and, and_false, Nat.reduceSub, Nat.sub_self, Nat.le_refl, Nat.zero_le, ge_iff_le, Nat.reduceAdd, Nat.reduceLeDiff, Nat.zero_add, Nat.reduceLT]
  · cases o with
    | inl a => simp only [wp_c, wp_n, jj_n, v_ct, Int.reduceToNat, Int.toNat_natCast, stE, wlE, lgt, lpu, lpw, v_c2, va_s, true_and, and_true, Option.toList, List.nil_append, List.cons_append, List.take, List.drop, List.reverse, List.reverseAux, List.length_cons, List.length_nil, reduceCtorEq, false_implies, true_implies, forall_const, not_true_eq_false, not_false_eq_true, ite_true, ite_false, Bool.false_eq_true, I_I, J_J, Nat.add_left_cancel_iff, Nat.reduceEqDiff, Nat.add_eq_left, Nat.left_eq_add, false_and, and_false, Nat.reduceSub, Nat.sub_self, Nat.le_refl, Nat.zero_le, ge_iff_le, Nat.reduceAdd, Nat.reduceLeDiff, Nat.zero_add, Nat.reduceLT, mh_X2_copyFrom] at h ⊢; exact h
    | inr E => exact h
/-! Arrays.fill -/
theorem c_fill_5 {a n : Nat} {x : Int32} {Q : mW → mO → Prop} (hn : n ≤ 1000) : ∀ (m k : Nat) (w : mW), k + m = n → w_sh w a = (1, n) → (∀ i, i < k → w_I w a i = x) → (∀ w', (∀ i, i < n → w_I w' a i = x) → Fr [a] w w' → Q w' (.inl none)) →
    RT n_J7_fill_53178 5 [.ref a, .int x, .int (Int32.ofInt k), .int (Int32.ofInt n)] [] w (0, 0, false) Q := by
  intro m
  induction m with
  | zero =>
    intro k w hk hs hx hq
    have hR : inR (k : Int) := ⟨by omega, by omega⟩
    have hRn : inR (n : Int) := ⟨by omega, by omega⟩
    refine rt_J7_fill_53178_5 ?_
    simp only [wp_c, wp_n, jj_n, v_ct, Int.reduceToNat, Int.toNat_natCast, stE, wlE, lgt, lpu, lpw, v_c2, va_s, true_and, and_true, Option.toList, List.nil_append, List.cons_append, List.take, List.drop, List.reverse, List.reverseAux, List.length_cons, List.length_nil, reduceCtorEq, false_implies, true_implies, forall_const, not_true_eq_false, not_false_eq_true, ite_true, ite_false, Bool.false_eq_true, I_I, J_J, Nat.add_left_cancel_iff, Nat.reduceEqDiff, Nat.add_eq_left, Nat.left_eq_add, false_and, and_false, Nat.reduceSub, Nat.sub_self, Nat.le_refl, Nat.zero_le, ge_iff_le, Nat.reduceAdd, Nat.reduceLeDiff, Nat.zero_add, Nat.reduceLT, oi_le hRn hR]
    refine ⟨fun _ => ?_, fun h => absurd (by omega) h⟩
    refine rt_J7_fill_53178_20 ?_
    simp only [wp_c, wp_n, jj_n, v_ct, Int.reduceToNat, Int.toNat_natCast, stE, wlE, lgt, lpu, lpw, v_c2, va_s, true_and, and_true, Option.toList, List.nil_append, List.cons_append, List.take, List.drop, List.reverse, List.reverseAux, List.length_cons, List.length_nil, reduceCtorEq, false_implies, true_implies, forall_const, not_true_eq_false, not_false_eq_true, ite_true, ite_false, Bool.false_eq_true, I_I, J_J, Nat.add_left_cancel_iff, Nat.reduceEqDiff, Nat.add_eq_left, Nat.left_eq_add, false_and, and_false, Nat.reduceSub, Nat.sub_self, Nat.le_refl, Nat.zero_le, ge_iff_le, Nat.reduceAdd, Nat.reduceLeDiff, Nat.zero_add, Nat.reduceLT]
    exact hq w (fun i hi => hx i (by omega)) (Fr.refl _ _)
  | succ m ih =>
    intro k w hk hs hx hq
    have hR : inR (k : Int) := ⟨by omega, by omega⟩
    have hRn : inR (n : Int) := ⟨by omega, by omega⟩
    refine rt_J7_fill_53178_5 ?_
    simp only [wp_c, wp_n, jj_n, v_ct, Int.reduceToNat, Int.toNat_natCast, stE, wlE, lgt, lpu, lpw, v_c2, va_s, true_and, and_true, Option.toList, List.nil_append, List.cons_append, List.take, List.drop, List.reverse, List.reverseAux, List.length_cons, List.length_nil, reduceCtorEq, false_implies, true_implies, forall_const, not_true_eq_false, not_false_eq_true, ite_true, ite_false, Bool.false_eq_true, I_I, J_J, Nat.add_left_cancel_iff, Nat.reduceEqDiff, Nat.add_eq_left, Nat.left_eq_add, false_and, and_false, Nat.reduceSub, Nat.sub_self, Nat.le_refl, Nat.zero_le, ge_iff_le, Nat.reduceAdd, Nat.reduceLeDiff, Nat.zero_add, Nat.reduceLT, hs, oi_le hRn hR, vp_oi hR, oi_nc hR, oi_add]
    refine ⟨fun h => absurd h (by omega), fun _ => ⟨by omega, ?_⟩⟩
    have f : Fr [a] w (s_I w a k x) := (Fr.refl _ _).I (by simp)
    refine ih (k + 1) (s_I w a k x) (by omega) hs (fun i hi => ?_) (fun w' q1 q2 => hq w' q1 (f.trans q2 (fun _ q => q) (fun _ q => q)))
    rw [I_I]
    by_cases h : i = k
    · rw [if_pos ⟨rfl, h⟩]
    · rw [if_neg (fun q => h q.2)]; exact hx i (by omega)
theorem c_fill {a n : Nat} {x : Int32} {w : mW} {Q : mW → mO → Prop} (hn : n ≤ 1000) (hs : w_sh w a = (1, n)) (hq : ∀ w', (∀ i, i < n → w_I w' a i = x) → Fr [a] w w' → Q w' (.inl none)) : CT n_J7_fill_53178 [.ref a, .int x] w Q := by
  refine ct_J7_fill_53178 (rt_J7_fill_53178_0 ?_)
  simp only [wp_c, wp_n, jj_n, v_ct, Int.reduceToNat, Int.toNat_natCast, stE, wlE, lgt, lpu, lpw, v_c2, va_s, true_and, and_true, Option.toList, List.nil_append, List.cons_append, List.take, List.drop, List.reverse, List.reverseAux, List.length_cons, List.length_nil, reduceCtorEq, false_implies, true_implies, forall_const, not_true_eq_false, not_false_eq_true, ite_true, ite_false, Bool.false_eq_true, I_I, J_J, Nat.add_left_cancel_iff, Nat.reduceEqDiff, Nat.add_eq_left, Nat.left_eq_add, false_and, and_false, Nat.reduceSub, Nat.sub_self, Nat.le_refl, Nat.zero_le, ge_iff_le, Nat.reduceAdd, Nat.reduceLeDiff, Nat.zero_add, Nat.reduceLT, hs, oi_nat]
  exact c_fill_5 hn n 0 w (by omega) hs (fun i hi => absurd hi (by omega)) hq
/-! a new machine -/
def n_row : Row := fun j => if j = 0 then 4 else if j = 1 then 8 else if j = 2 then 4 else if j = 3 then 16 else 0
theorem n_row0 (j : Nat) (h : 4 ≤ j) : n_row j = 0 := by
  unfold n_row; rw [if_neg (by omega), if_neg (by omega), if_neg (by omega), if_neg (by omega)]
theorem c_makeNew {b : Nat} {w : mW} {Q : mW → mO → Prop} (hM : Mb w b) (hq : ∀ w', MS w' b n_row → FrM b w w' → Q w' (.inl none)) : CT n_X2_makeNew [.ref b] w Q := by
  have hM0 := hM
  obtain ⟨⟨s0, s1, s2, s3, s4, s5, s6, s7, s8, s9, s10, s11⟩, r6, r7, r8, r9, r10, r11, r12, r13, q2, q10, q11⟩ := hM
  refine ct_X2_makeNew (rt_X2_makeNew_0 ?_)
  simp only [wp_c, wp_n, jj_n, v_ct, Int.reduceToNat, Int.toNat_natCast, stE, wlE, lgt, lpu, lpw, v_c2, va_s, true_and, and_true, Option.toList, List.nil_append, List.cons_append, List.take, List.drop, List.reverse, List.reverseAux, List.length_cons, List.length_nil, reduceCtorEq, false_implies, true_implies, forall_const, not_true_eq_false, not_false_eq_true, ite_true, ite_false, Bool.false_eq_true, I_I, J_J, Nat.add_left_cancel_iff, Nat.reduceEqDiff, Nat.add_eq_left, Nat.left_eq_add, false_and, and_false, Nat.reduceSub, Nat.sub_self, Nat.le_refl, Nat.zero_le, ge_iff_le, Nat.reduceAdd, Nat.reduceLeDiff, Nat.zero_add, Nat.reduceLT, s0, r6, mh_X2_makeNew]
  have f0 : Fr [b] w (s_J (s_I (s_I (s_I (s_I (s_I w b 0 (Int32.ofInt 4)) b 1 (Int32.ofInt 8)) b 2 (Int32.ofInt 4)) b 3 (Int32.ofInt 16)) b 4 (Int32.ofInt 0)) b 5 0) := ((((((Fr.refl _ _).I (by simp)).I (by simp)).I (by simp)).I (by simp)).I (by simp)).J (by simp)
  have v0 : ∀ i, i < 5 → w_I (s_J (s_I (s_I (s_I (s_I (s_I w b 0 (Int32.ofInt 4)) b 1 (Int32.ofInt 8)) b 2 (Int32.ofInt 4)) b 3 (Int32.ofInt 16)) b 4 (Int32.ofInt 0)) b 5 0) b i = Int32.ofInt (n_row i) := by
    intro i hi
    rcases (show i = 0 ∨ i = 1 ∨ i = 2 ∨ i = 3 ∨ i = 4 by omega) with rfl | rfl | rfl | rfl | rfl <;> simp only [wp_c, wp_n, jj_n, v_ct, Int.reduceToNat, Int.toNat_natCast, stE, wlE, lgt, lpu, lpw, v_c2, va_s, true_and, and_true, Option.toList, List.nil_append, List.cons_append, List.take, List.drop, List.reverse, List.reverseAux, List.length_cons, List.length_nil, reduceCtorEq, false_implies, true_implies, forall_const, not_true_eq_false, not_false_eq_true, ite_true, ite_false, Bool.false_eq_true, I_I, J_J, Nat.add_left_cancel_iff, Nat.reduceEqDiff, Nat.add_eq_left, Nat.left_eq_add, false_and, and_false, Nat.reduceSub, Nat.sub_self, Nat.le_refl, Nat.zero_le, ge_iff_le, Nat.reduceAdd, Nat.reduceLeDiff, Nat.zero_add, Nat.reduceLT] <;> rfl
  have vJ : w_J (s_J (s_I (s_I (s_I (s_I (s_I w b 0 (Int32.ofInt 4)) b 1 (Int32.ofInt 8)) b 2 (Int32.ofInt 4)) b 3 (Int32.ofInt 16)) b 4 (Int32.ofInt 0)) b 5 0) b 5 = Int64.ofInt 0 := by
    rw [J_J, if_pos ⟨rfl, rfl⟩]; rfl
  generalize s_J (s_I (s_I (s_I (s_I (s_I w b 0 (Int32.ofInt 4)) b 1 (Int32.ofInt 8)) b 2 (Int32.ofInt 4)) b 3 (Int32.ofInt 16)) b 4 (Int32.ofInt 0)) b 5 0 = w0 at f0 v0 vJ
  refine c_fill (n := 8) (by omega) (by rw [f0.1]; exact s1) fun w1 g1 f1 => ?_
  have h1 := f0.trans f1 (l'' := [b, b + 1]) (by simp) (by simp)
  simp only [wp_c, wp_n, jj_n, v_ct, Int.reduceToNat, Int.toNat_natCast, stE, wlE, lgt, lpu, lpw, v_c2, va_s, true_and, and_true, Option.toList, List.nil_append, List.cons_append, List.take, List.drop, List.reverse, List.reverseAux, List.length_cons, List.length_nil, reduceCtorEq, false_implies, true_implies, forall_const, not_true_eq_false, not_false_eq_true, ite_true, ite_false, Bool.false_eq_true, I_I, J_J, Nat.add_left_cancel_iff, Nat.reduceEqDiff, Nat.add_eq_left, Nat.left_eq_add, false_and, and_false, Nat.reduceSub, Nat.sub_self, Nat.le_refl, Nat.zero_le, ge_iff_le, Nat.reduceAdd, Nat.reduceLeDiff, Nat.zero_add, Nat.reduceLT, h1.1, h1.2.1, s0, r7, mh_X2_makeNew]
  refine c_fill (n := 16) (by omega) (by rw [h1.1]; exact s2) fun w2 g2 f2 => ?_
  have h2 := h1.trans f2 (l'' := [b, b + 1, b + 2]) (by simp) (by simp)
  simp only [wp_c, wp_n, jj_n, v_ct, Int.reduceToNat, Int.toNat_natCast, stE, wlE, lgt, lpu, lpw, v_c2, va_s, true_and, and_true, Option.toList, List.nil_append, List.cons_append, List.take, List.drop, List.reverse, List.reverseAux, List.length_cons, List.length_nil, reduceCtorEq, false_implies, true_implies, forall_const, not_true_eq_false, not_false_eq_true, ite_true, ite_false, Bool.false_eq_true, I_I, J_J, Nat.add_left_cancel_iff, Nat.reduceEqDiff, Nat.add_eq_left, Nat.left_eq_add, false_and, and_false, Nat.reduceSub, Nat.sub_self, Nat.le_refl, Nat.zero_le, ge_iff_le, Nat.reduceAdd, Nat.reduceLeDiff, Nat.zero_add, Nat.reduceLT, h2.1, h2.2.1, s0, r8, mh_X2_makeNew]
  refine c_fill (n := 8) (by omega) (by rw [h2.1]; exact s3) fun w3 g3 f3 => ?_
  have h3 := h2.trans f3 (l'' := [b, b + 1, b + 2, b + 3]) (by simp) (by simp)
  simp only [wp_c, wp_n, jj_n, v_ct, Int.reduceToNat, Int.toNat_natCast, stE, wlE, lgt, lpu, lpw, v_c2, va_s, true_and, and_true, Option.toList, List.nil_append, List.cons_append, List.take, List.drop, List.reverse, List.reverseAux, List.length_cons, List.length_nil, reduceCtorEq, false_implies, true_implies, forall_const, not_true_eq_false, not_false_eq_true, ite_true, ite_false, Bool.false_eq_true, I_I, J_J, Nat.add_left_cancel_iff, Nat.reduceEqDiff, Nat.add_eq_left, Nat.left_eq_add, false_and, and_false, Nat.reduceSub, Nat.sub_self, Nat.le_refl, Nat.zero_le, ge_iff_le, Nat.reduceAdd, Nat.reduceLeDiff, Nat.zero_add, Nat.reduceLT, h3.1, h3.2.1, s0, r9, mh_X2_makeNew]
  refine c_fill (n := 16) (by omega) (by rw [h3.1]; exact s4) fun w4 g4 f4 => ?_
  have h4 := h3.trans f4 (l'' := [b, b + 1, b + 2, b + 3, b + 4]) (by simp) (by simp)
  simp only [wp_c, wp_n, jj_n, v_ct, Int.reduceToNat, Int.toNat_natCast, stE, wlE, lgt, lpu, lpw, v_c2, va_s, true_and, and_true, Option.toList, List.nil_append, List.cons_append, List.take, List.drop, List.reverse, List.reverseAux, List.length_cons, List.length_nil, reduceCtorEq, false_implies, true_implies, forall_const, not_true_eq_false, not_false_eq_true, ite_true, ite_false, Bool.false_eq_true, I_I, J_J, Nat.add_left_cancel_iff, Nat.reduceEqDiff, Nat.add_eq_left, Nat.left_eq_add, false_and, and_false, Nat.reduceSub, Nat.sub_self, Nat.le_refl, Nat.zero_le, ge_iff_le, Nat.reduceAdd, Nat.reduceLeDiff, Nat.zero_add, Nat.reduceLT, h4.1, h4.2.1, s0, r10, mh_X2_makeNew]
  refine c_fill (n := 16) (by omega) (by rw [h4.1]; exact s5) fun w5 g5 f5 => ?_
  have h5 := h4.trans f5 (l'' := [b, b + 1, b + 2, b + 3, b + 4, b + 5]) (by simp) (by simp)
  simp only [wp_c, wp_n, jj_n, v_ct, Int.reduceToNat, Int.toNat_natCast, stE, wlE, lgt, lpu, lpw, v_c2, va_s, true_and, and_true, Option.toList, List.nil_append, List.cons_append, List.take, List.drop, List.reverse, List.reverseAux, List.length_cons, List.length_nil, reduceCtorEq, false_implies, true_implies, forall_const, not_true_eq_false, not_false_eq_true, ite_true, ite_false, Bool.false_eq_true, I_I, J_J, Nat.add_left_cancel_iff, Nat.reduceEqDiff, Nat.add_eq_left, Nat.left_eq_add, false_and, and_false, Nat.reduceSub, Nat.sub_self, Nat.le_refl, Nat.zero_le, ge_iff_le, Nat.reduceAdd, Nat.reduceLeDiff, Nat.zero_add, Nat.reduceLT, h5.1, h5.2.1, s0, r11, mh_X2_makeNew]
  refine c_fill (n := 6) (by omega) (by rw [h5.1]; exact s6) fun w6 g6 f6 => ?_
  have h6 := h5.trans f6 (l'' := [b, b + 1, b + 2, b + 3, b + 4, b + 5, b + 6]) (by simp) (by simp)
  simp only [wp_c, wp_n, jj_n, v_ct, Int.reduceToNat, Int.toNat_natCast, stE, wlE, lgt, lpu, lpw, v_c2, va_s, true_and, and_true, Option.toList, List.nil_append, List.cons_append, List.take, List.drop, List.reverse, List.reverseAux, List.length_cons, List.length_nil, reduceCtorEq, false_implies, true_implies, forall_const, not_true_eq_false, not_false_eq_true, ite_true, ite_false, Bool.false_eq_true, I_I, J_J, Nat.add_left_cancel_iff, Nat.reduceEqDiff, Nat.add_eq_left, Nat.left_eq_add, false_and, and_false, Nat.reduceSub, Nat.sub_self, Nat.le_refl, Nat.zero_le, ge_iff_le, Nat.reduceAdd, Nat.reduceLeDiff, Nat.zero_add, Nat.reduceLT, h6.1, h6.2.1, s0, s7, r12, mh_X2_makeNew]
  refine ct_X8_forgetAll (rt_X8_forgetAll_0 ?_)
  simp only [wp_c, wp_n, jj_n, v_ct, Int.reduceToNat, Int.toNat_natCast, stE, wlE, lgt, lpu, lpw, v_c2, va_s, true_and, and_true, Option.toList, List.nil_append, List.cons_append, List.take, List.drop, List.reverse, List.reverseAux, List.length_cons, List.length_nil, reduceCtorEq, false_implies, true_implies, forall_const, not_true_eq_false, not_false_eq_true, ite_true, ite_false, Bool.false_eq_true, I_I, J_J, Nat.add_left_cancel_iff, Nat.reduceEqDiff, Nat.add_eq_left, Nat.left_eq_add, false_and, and_false, Nat.reduceSub, Nat.sub_self, Nat.le_refl, Nat.zero_le, ge_iff_le, Nat.reduceAdd, Nat.reduceLeDiff, Nat.zero_add, Nat.reduceLT, h6.1, h6.2.1, s0, s7, s9, r13, mh_X2_makeNew]
  have h7 : Fr [b, b + 1, b + 2, b + 3, b + 4, b + 5, b + 6, b + 7] w (s_I (s_I w6 (b + 7) 0 (Int32.ofInt 0)) (b + 7) 1 (Int32.ofInt 0)) := ((h6.mono (by simp)).I (by simp)).I (by simp)
  have p7 : Fr [b + 7] w6 (s_I (s_I w6 (b + 7) 0 (Int32.ofInt 0)) (b + 7) 1 (Int32.ofInt 0)) := ((Fr.refl _ _).I (by simp)).I (by simp)
  have l0 : w_I (s_I (s_I w6 (b + 7) 0 (Int32.ofInt 0)) (b + 7) 1 (Int32.ofInt 0)) (b + 7) 0 = Int32.ofInt 0 := by simp only [wp_c, wp_n, jj_n, v_ct, Int.reduceToNat, Int.toNat_natCast, stE, wlE, lgt, lpu, lpw, v_c2, va_s, true_and, and_true, Option.toList, List.nil_append, List.cons_append, List.take, List.drop, List.reverse, List.reverseAux, List.length_cons, List.length_nil, reduceCtorEq, false_implies, true_implies, forall_const, not_true_eq_false, not_false_eq_true, ite_true, ite_false, Bool.false_eq_true, I_I, J_J, Nat.add_left_cancel_iff, Nat.reduceEqDiff, Nat.add_eq_left, Nat.left_eq_add, false_and, and_false, Nat.reduceSub, Nat.sub_self, Nat.le_refl, Nat.zero_le, ge_iff_le, Nat.reduceAdd, Nat.reduceLeDiff, Nat.zero_add, Nat.reduceLT]
  have l1 : w_I (s_I (s_I w6 (b + 7) 0 (Int32.ofInt 0)) (b + 7) 1 (Int32.ofInt 0)) (b + 7) 1 = Int32.ofInt 0 := by simp only [wp_c, wp_n, jj_n, v_ct, Int.reduceToNat, Int.toNat_natCast, stE, wlE, lgt, lpu, lpw, v_c2, va_s, true_and, and_true, Option.toList, List.nil_append, List.cons_append, List.take, List.drop, List.reverse, List.reverseAux, List.length_cons, List.length_nil, reduceCtorEq, false_implies, true_implies, forall_const, not_true_eq_false, not_false_eq_true, ite_true, ite_false, Bool.false_eq_true, I_I, J_J, Nat.add_left_cancel_iff, Nat.reduceEqDiff, Nat.add_eq_left, Nat.left_eq_add, false_and, and_false, Nat.reduceSub, Nat.sub_self, Nat.le_refl, Nat.zero_le, ge_iff_le, Nat.reduceAdd, Nat.reduceLeDiff, Nat.zero_add, Nat.reduceLT]
  generalize s_I (s_I w6 (b + 7) 0 (Int32.ofInt 0)) (b + 7) 1 (Int32.ofInt 0) = w7 at h7 p7 l0 l1
  -- what lies where
  have p6 := f6.trans p7 (l'' := [b + 6, b + 7]) (by simp) (by simp)
  have p5 := f5.trans p6 (l'' := [b + 5, b + 6, b + 7]) (by simp) (by simp)
  have p4 := f4.trans p5 (l'' := [b + 4, b + 5, b + 6, b + 7]) (by simp) (by simp)
  have p3 := f3.trans p4 (l'' := [b + 3, b + 4, b + 5, b + 6, b + 7]) (by simp) (by simp)
  have p2 := f2.trans p3 (l'' := [b + 2, b + 3, b + 4, b + 5, b + 6, b + 7]) (by simp) (by simp)
  have p1 := f1.trans p2 (l'' := [b + 1, b + 2, b + 3, b + 4, b + 5, b + 6, b + 7]) (by simp) (by simp)
  have x0 : w_I w7 b = w_I w0 b := (p1.2.2.2 b (by simp)).1
  have xJ : w_J w7 b = w_J w0 b := (p1.2.2.2 b (by simp)).2
  have x1 : w_I w7 (b + 1) = w_I w1 (b + 1) := (p2.2.2.2 _ (by simp)).1
  have x2 : w_I w7 (b + 2) = w_I w2 (b + 2) := (p3.2.2.2 _ (by simp)).1
  have x3 : w_I w7 (b + 3) = w_I w3 (b + 3) := (p4.2.2.2 _ (by simp)).1
  have x4 : w_I w7 (b + 4) = w_I w4 (b + 4) := (p5.2.2.2 _ (by simp)).1
  have x5 : w_I w7 (b + 5) = w_I w5 (b + 5) := (p6.2.2.2 _ (by simp)).1
  have x6 : w_I w7 (b + 6) = w_I w6 (b + 6) := (p7.2.2.2 _ (by simp)).1
  obtain ⟨B, hB⟩ : ∃ B : Row, B = fun j => if 9 ≤ j ∧ j < 12 then (w_I w7 (b + 9) (j - 4)).toInt else if 52 ≤ j ∧ j < 68 then (w_I w7 (b + 10) (j - 52)).toInt else if 84 ≤ j ∧ j < 100 then (w_I w7 (b + 11) (j - 84)).toInt else n_row j := ⟨_, rfl⟩
  have b1 : ∀ j, ¬ (9 ≤ j ∧ j < 12) → ¬ (52 ≤ j ∧ j < 68) → ¬ (84 ≤ j ∧ j < 100) → B j = n_row j := fun j q1 q2 q3 => by rw [hB]; simp only; rw [if_neg q1, if_neg q2, if_neg q3]
  have b2 : ∀ j, j < 3 → B (9 + j) = (w_I w7 (b + 9) (5 + j)).toInt := fun j q => by rw [hB]; simp only; rw [if_pos (by omega)]; congr 2; omega
  have b3 : ∀ j, j < 16 → B (52 + j) = (w_I w7 (b + 10) j).toInt := fun j q => by rw [hB]; simp only; rw [if_neg (by omega), if_pos (by omega)]; congr 2; omega
  have b4 : ∀ j, j < 16 → B (84 + j) = (w_I w7 (b + 11) j).toInt := fun j q => by rw [hB]; simp only; rw [if_neg (by omega), if_neg (by omega), if_pos (by omega)]; congr 2; omega
  have hA : MemA w7 b B := by
    have z : ∀ i, i < 5 → w_I w7 b i = Int32.ofInt (B i) := fun i hi => by rw [x0, v0 i hi, b1 i (by omega) (by omega) (by omega)]
    refine ⟨⟨z 0 (by omega), z 1 (by omega), z 2 (by omega), z 3 (by omega), z 4 (by omega)⟩, fun j hj => ?_, fun j hj => ?_, fun j hj => ?_, fun j hj => ?_, fun j hj => ?_, fun j hj => ?_, ⟨?_, ?_, ?_⟩, fun j hj => ?_, fun j hj => ?_⟩
    · rw [x1, g1 j hj, b1 _ (by omega) (by omega) (by omega), n_row0 _ (by omega)]
    · rw [x2, g2 j hj, b1 _ (by omega) (by omega) (by omega), n_row0 _ (by omega)]
    · rw [x3, g3 j hj, b1 _ (by omega) (by omega) (by omega), n_row0 _ (by omega)]
    · rw [x4, g4 j hj, b1 _ (by omega) (by omega) (by omega), n_row0 _ (by omega)]
    · rw [x5, g5 j hj, b1 _ (by omega) (by omega) (by omega), n_row0 _ (by omega)]
    · rw [x6, g6 j hj, b1 _ (by omega) (by omega) (by omega), n_row0 _ (by omega)]
    · rw [b2 0 (by omega), Int32.ofInt_toInt]
    · rw [b2 1 (by omega), Int32.ofInt_toInt]
    · rw [b2 2 (by omega), Int32.ofInt_toInt]
    · rw [b3 j hj, Int32.ofInt_toInt]
    · rw [b4 j hj, Int32.ofInt_toInt]
  refine c_begin (dv := 0) (way := 1) (hM0.fr h7) hA (Or.inl rfl) fun w8 k1 k2 k3 => ?_
  simp only [wp_c, wp_n, jj_n, v_ct, Int.reduceToNat, Int.toNat_natCast, stE, wlE, lgt, lpu, lpw, v_c2, va_s, true_and, and_true, Option.toList, List.nil_append, List.cons_append, List.take, List.drop, List.reverse, List.reverseAux, List.length_cons, List.length_nil, reduceCtorEq, false_implies, true_implies, forall_const, not_true_eq_false, not_false_eq_true, ite_true, ite_false, Bool.false_eq_true, I_I, J_J, Nat.add_left_cancel_iff, Nat.reduceEqDiff, Nat.add_eq_left, Nat.left_eq_add, false_and, and_false, Nat.reduceSub, Nat.sub_self, Nat.le_refl, Nat.zero_le, ge_iff_le, Nat.reduceAdd, Nat.reduceLeDiff, Nat.zero_add, Nat.reduceLT]
  have h8 := h7.trans k3 (l'' := [b, b + 1, b + 2, b + 3, b + 4, b + 5, b + 6, b + 7, b + 9, b + 10, b + 11]) (by simp) (by simp)
  have hrow : ∀ j, j < 116 → j ≠ 7 → a_beg B 1 j = n_row j := by
    intro j hj h7'
    by_cases q1 : (9 ≤ j ∧ j < 12) ∨ (52 ≤ j ∧ j < 68) ∨ (84 ≤ j ∧ j < 100)
    · rw [n_row0 j (by omega)]
      simp only [a_beg, up_eq, zr]
      rw [if_neg h7']
      split
      · rfl
      · split
        · rfl
        · split
          · rfl
          · split
            · rfl
            · omega
    · rw [beg_k _ _ _ (by omega), b1 _ (by omega) (by omega) (by omega)]
  refine hq w8 ⟨hM0.fr h8, ?_, ⟨0, by omega, ?_, ?_, ?_, ?_, fun i k hi hk => ?_⟩, ?_, 0, 1, 0, 0, Int32.ofInt 0, Int32.ofInt 0, ?_, Or.inl rfl, by decide, fun h => ?_⟩ (h8.toM (by simp))
  · refine MemA.row (A := up (a_beg B 1) 7 0) (k1.free (by omega)) (fun j hj h5 => ?_)
    rw [up_eq]
    split
    · rename_i e; rw [e, n_row0 _ (by omega)]
    · rename_i e; rw [hrow j hj e]
  · rw [n_row0 _ (by omega)]; omega
  · rw [n_row0 _ (by omega)]; omega
  · rw [(k3.2.2.2 (b + 7) (by simp)).1, l0, n_row0 _ (by omega)]
  · rw [(k3.2.2.2 (b + 7) (by simp)).1, l1]; rfl
  · rw [n_row0 _ (by omega)] at hi; omega
  · rw [(k3.2.2.2 b (by simp)).2, xJ, vJ, du_z (fun j hj => n_row0 _ (by omega)) (by decide)]
  · rw [n_row0 5 (by omega)]; exact k2
  · rw [n_row0 5 (by omega)] at h; omega
/-! Multiplication -/
def Mu (w : mW) (p : Nat) : Prop := w_sh w p = (0, 3) ∧ w_sh w (p + 1) = (1, 7) ∧ w_R w p 1 = some (p + 1)
theorem Mu.fr {l : List Nat} {w w' : mW} {p : Nat} (h : Mu w p) (f : Fr l w w') : Mu w' p := by
  unfold Mu; rw [f.1, f.2.1]; exact h
def a_pl : Nat → Int → Int → Int → List Int
  | 0, _, _, _ => []
  | f + 1, r, c, s => if r + c ≤ 0 then [] else
    (r % 10 + c - 10 * (if ¬ s = 0 ∧ 6 ≤ r % 10 + c then 1 else 0)) :: a_pl f (r / 10) (if ¬ s = 0 ∧ 6 ≤ r % 10 + c then 1 else 0) s
/-- what is planned -/
def PL (w : mW) (p : Nat) (l : List Int) : Prop := w_I w p 0 = Int32.ofInt l.length ∧ ∀ i, i < l.length → w_I w (p + 1) i = Int32.ofInt (l.getD i 0)
theorem c_plan_10 {p : Nat} {x : Int32} {s : Int} {Q : mW → mO → Prop} (hs : s = 0 ∨ s = 1) : ∀ (f : Nat) (r c : Int) (done : List Int) (w : mW) (z : Value), done.length + f = 7 → 0 ≤ r ∧ r ≤ 999999 → (c = 0 ∨ c = 1) → Mu w p → PL w p done → (∀ w', PL w' p (done ++ a_pl f r c s) → Fr [p, p + 1] w w' → Q w' (.inl none)) →
    RT n_X3_plan 10 [.ref p, .int x, .int (Int32.ofInt s), .int (Int32.ofInt r), .int (Int32.ofInt c), z] [] w (0, 0, false) Q := by
  intro f
  induction f with
  | zero =>
    intro r c done w z hf hr hc hM hP hq
    have hR : inR (done.length : Int) := ⟨by omega, by omega⟩
    refine rt_X3_plan_10 ?_
    simp only [wp_c, wp_n, jj_n, v_ct, Int.reduceToNat, Int.toNat_natCast, stE, wlE, lgt, lpu, lpw, v_c2, va_s, true_and, and_true, Option.toList, List.nil_append, List.cons_append, List.take, List.drop, List.reverse, List.reverseAux, List.length_cons, List.length_nil, reduceCtorEq, false_implies, true_implies, forall_const, not_true_eq_false, not_false_eq_true, ite_true, ite_false, Bool.false_eq_true, I_I, J_J, Nat.add_left_cancel_iff, Nat.reduceEqDiff, Nat.add_eq_left, Nat.left_eq_add, false_and, and_false, Nat.reduceSub, Nat.sub_self, Nat.le_refl, Nat.zero_le, ge_iff_le, Nat.reduceAdd, Nat.reduceLeDiff, Nat.zero_add, Nat.reduceLT, hM.1, hP.1, oi_le (show inR 7 from ⟨by omega, by omega⟩) hR]
    refine ⟨fun _ => ?_, fun h => absurd (by omega) h⟩
    refine rt_X3_plan_88 ?_
    simp only [wp_c, wp_n, jj_n, v_ct, Int.reduceToNat, Int.toNat_natCast, stE, wlE, lgt, lpu, lpw, v_c2, va_s, true_and, and_true, Option.toList, List.nil_append, List.cons_append, List.take, List.drop, List.reverse, List.reverseAux, List.length_cons, List.length_nil, reduceCtorEq, false_implies, true_implies, forall_const, not_true_eq_false, not_false_eq_true, ite_true, ite_false, Bool.false_eq_true, I_I, J_J, Nat.add_left_cancel_iff, Nat.reduceEqDiff, Nat.add_eq_left, Nat.left_eq_add, false_and, and_false, Nat.reduceSub, Nat.sub_self, Nat.le_refl, Nat.zero_le, ge_iff_le, Nat.reduceAdd, Nat.reduceLeDiff, Nat.zero_add, Nat.reduceLT]
    exact hq w (by simpa [a_pl] using hP) (Fr.refl _ _)
  | succ f ih =>
    intro r c done w z hf hr hc hM hP hq
    have hR : inR (done.length : Int) := ⟨by omega, by omega⟩
    have hrR : inR r := ⟨by omega, by omega⟩
    have h10 : inR (10 : Int) := ⟨by omega, by omega⟩
    have hrc : inR (r + c) := ⟨by omega, by omega⟩
    have hsum : inR (r % 10 + c) := ⟨by omega, by omega⟩
    have hsR : inR s := ⟨by omega, by omega⟩
    have er := oi_rem hrR h10 hr.1 (by omega : (0 : Int) < 10)
    have ed := oi_div hrR h10 hr.1 (by omega : (0 : Int) < 10)
    rw [a_pl] at hq
    -- behind the choice
    have h51 : ¬ r + c ≤ 0 → ∀ c' : Int, c' = (if ¬ s = 0 ∧ 6 ≤ r % 10 + c then 1 else 0) → RT n_X3_plan 51 [.ref p, .int x, .int (Int32.ofInt s), .int (Int32.ofInt r), .int (Int32.ofInt c), .int (Int32.ofInt (r % 10 + c))] [.int (Int32.ofInt c')] w (0, 0, false) Q := by
      intro hpos c' hc'
      have hc01 : c' = 0 ∨ c' = 1 := by rw [hc']; split; exact Or.inr rfl; exact Or.inl rfl
      rw [if_neg hpos, ← hc'] at hq
      refine rt_X3_plan_51 ?_
      simp only [wp_c, wp_n, jj_n, v_ct, Int.reduceToNat, Int.toNat_natCast, stE, wlE, lgt, lpu, lpw, v_c2, va_s, true_and, and_true, Option.toList, List.nil_append, List.cons_append, List.take, List.drop, List.reverse, List.reverseAux, List.length_cons, List.length_nil, reduceCtorEq, false_implies, true_implies, forall_const, not_true_eq_false, not_false_eq_true, ite_true, ite_false, Bool.false_eq_true, I_I, J_J, Nat.add_left_cancel_iff, Nat.reduceEqDiff, Nat.add_eq_left, Nat.left_eq_add, false_and, and_false, Nat.reduceSub, Nat.sub_self, Nat.le_refl, Nat.zero_le, ge_iff_le, Nat.reduceAdd, Nat.reduceLeDiff, Nat.zero_add, Nat.reduceLT, hM.1, hM.2.1, hM.2.2, hP.1, vp_oi hR, oi_nc hR, oi_mul, oi_sub, ed, oi_add]
      refine ⟨by omega, by decide, ?_⟩
      have f1 : Fr [p, p + 1] w (s_I (s_I w (p + 1) done.length (Int32.ofInt (r % 10 + c - 10 * c'))) p 0 (Int32.ofInt ((done.length : Int) + 1))) := ((Fr.refl _ _).I (by simp)).I (by simp)
      refine ih (r / 10) c' (done ++ [r % 10 + c - 10 * c']) _ _ (by simp; omega) (by omega) hc01 (hM.fr f1) ⟨?_, fun i hi => ?_⟩ (fun w' q1 q2 => ?_)
      · simp only [wp_c, wp_n, jj_n, v_ct, Int.reduceToNat, Int.toNat_natCast, stE, wlE, lgt, lpu, lpw, v_c2, va_s, true_and, and_true, Option.toList, List.nil_append, List.cons_append, List.take, List.drop, List.reverse, List.reverseAux, List.length_cons, List.length_nil, reduceCtorEq, false_implies, true_implies, forall_const, not_true_eq_false, not_false_eq_true, ite_true, ite_false, Bool.false_eq_true, I_I, J_J, Nat.add_left_cancel_iff, Nat.reduceEqDiff, Nat.add_eq_left, Nat.left_eq_add, false_and, and_false, Nat.reduceSub, Nat.sub_self, Nat.le_refl, Nat.zero_le, ge_iff_le, Nat.reduceAdd, Nat.reduceLeDiff, Nat.zero_add, Nat.reduceLT, List.length_append]; push_cast; rfl
      · simp only [List.length_append, List.length_cons, List.length_nil] at hi
        simp only [wp_c, wp_n, jj_n, v_ct, Int.reduceToNat, Int.toNat_natCast, stE, wlE, lgt, lpu, lpw, v_c2, va_s, true_and, and_true, Option.toList, List.nil_append, List.cons_append, List.take, List.drop, List.reverse, List.reverseAux, List.length_cons, List.length_nil, reduceCtorEq, false_implies, true_implies, forall_const, not_true_eq_false, not_false_eq_true, ite_true, ite_false, Bool.false_eq_true, I_I, J_J, Nat.add_left_cancel_iff, Nat.reduceEqDiff, Nat.add_eq_left, Nat.left_eq_add, false_and, and_false, Nat.reduceSub, Nat.sub_self, Nat.le_refl, Nat.zero_le, ge_iff_le, Nat.reduceAdd, Nat.reduceLeDiff, Nat.zero_add, Nat.reduceLT]
        by_cases h : i = done.length
        · rw [if_pos h, h]; simp
        · rw [if_neg h, hP.2 i (by omega)]
          congr 1
          simp [List.getD_eq_getElem?_getD, List.getElem?_append_left (show i < done.length by omega)]
      · refine hq w' ?_ (f1.trans q2 (fun _ q => q) (fun _ q => q))
        simpa using q1
    refine rt_X3_plan_10 ?_
    simp only [wp_c, wp_n, jj_n, v_ct, Int.reduceToNat, Int.toNat_natCast, stE, wlE, lgt, lpu, lpw, v_c2, va_s, true_and, and_true, Option.toList, List.nil_append, List.cons_append, List.take, List.drop, List.reverse, List.reverseAux, List.length_cons, List.length_nil, reduceCtorEq, false_implies, true_implies, forall_const, not_true_eq_false, not_false_eq_true, ite_true, ite_false, Bool.false_eq_true, I_I, J_J, Nat.add_left_cancel_iff, Nat.reduceEqDiff, Nat.add_eq_left, Nat.left_eq_add, false_and, and_false, Nat.reduceSub, Nat.sub_self, Nat.le_refl, Nat.zero_le, ge_iff_le, Nat.reduceAdd, Nat.reduceLeDiff, Nat.zero_add, Nat.reduceLT, hM.1, hP.1, oi_le (show inR 7 from ⟨by omega, by omega⟩) hR, oi_add, oi_le0 hrc, er, oi_e0 hsR, oi_lt hsum (show inR 6 from ⟨by omega, by omega⟩)]
    have h50 : ¬ r + c ≤ 0 → ¬ (¬ s = 0 ∧ 6 ≤ r % 10 + c) → RT n_X3_plan 50 [.ref p, .int x, .int (Int32.ofInt s), .int (Int32.ofInt r), .int (Int32.ofInt c), .int (Int32.ofInt (r % 10 + c))] [] w (0, 0, false) Q := by
      intro h1 h2
      refine rt_X3_plan_50 ?_
      simp only [wp_c, wp_n, jj_n, v_ct, Int.reduceToNat, Int.toNat_natCast, stE, wlE, lgt, lpu, lpw, v_c2, va_s, true_and, and_true, Option.toList, List.nil_append, List.cons_append, List.take, List.drop, List.reverse, List.reverseAux, List.length_cons, List.length_nil, reduceCtorEq, false_implies, true_implies, forall_const, not_true_eq_false, not_false_eq_true, ite_true, ite_false, Bool.false_eq_true, I_I, J_J, Nat.add_left_cancel_iff, Nat.reduceEqDiff, Nat.add_eq_left, Nat.left_eq_add, false_and, and_false, Nat.reduceSub, Nat.sub_self, Nat.le_refl, Nat.zero_le, ge_iff_le, Nat.reduceAdd, Nat.reduceLeDiff, Nat.zero_add, Nat.reduceLT]
      exact h51 h1 0 (by rw [if_neg h2])
    refine ⟨fun h => absurd h (by omega), fun _ => ⟨fun h => ?_, fun h => ⟨by decide, fun h1 => h50 h (fun q => q.1 h1), fun h1 => ⟨fun h2 => h50 h (fun q => by omega), fun h2 => h51 h 1 (by rw [if_pos ⟨h1, by omega⟩])⟩⟩⟩⟩
    rw [if_pos h] at hq
    refine rt_X3_plan_88 ?_
    simp only [wp_c, wp_n, jj_n, v_ct, Int.reduceToNat, Int.toNat_natCast, stE, wlE, lgt, lpu, lpw, v_c2, va_s, true_and, and_true, Option.toList, List.nil_append, List.cons_append, List.take, List.drop, List.reverse, List.reverseAux, List.length_cons, List.length_nil, reduceCtorEq, false_implies, true_implies, forall_const, not_true_eq_false, not_false_eq_true, ite_true, ite_false, Bool.false_eq_true, I_I, J_J, Nat.add_left_cancel_iff, Nat.reduceEqDiff, Nat.add_eq_left, Nat.left_eq_add, false_and, and_false, Nat.reduceSub, Nat.sub_self, Nat.le_refl, Nat.zero_le, ge_iff_le, Nat.reduceAdd, Nat.reduceLeDiff, Nat.zero_add, Nat.reduceLT]
    exact hq w (by simpa using hP) (Fr.refl _ _)
theorem c_plan {p : Nat} {v s : Int} {w : mW} {Q : mW → mO → Prop} (hs : s = 0 ∨ s = 1) (hv : 0 ≤ v ∧ v ≤ 999999) (hM : Mu w p) (hq : ∀ w', PL w' p (a_pl 7 v 0 s) → Fr [p, p + 1] w w' → Q w' (.inl none)) : CT n_X3_plan [.ref p, .int (Int32.ofInt v), .int (Int32.ofInt s)] w Q := by
  refine ct_X3_plan (rt_X3_plan_0 ?_)
  simp only [wp_c, wp_n, jj_n, v_ct, Int.reduceToNat, Int.toNat_natCast, stE, wlE, lgt, lpu, lpw, v_c2, va_s, true_and, and_true, Option.toList, List.nil_append, List.cons_append, List.take, List.drop, List.reverse, List.reverseAux, List.length_cons, List.length_nil, reduceCtorEq, false_implies, true_implies, forall_const, not_true_eq_false, not_false_eq_true, ite_true, ite_false, Bool.false_eq_true, I_I, J_J, Nat.add_left_cancel_iff, Nat.reduceEqDiff, Nat.add_eq_left, Nat.left_eq_add, false_and, and_false, Nat.reduceSub, Nat.sub_self, Nat.le_refl, Nat.zero_le, ge_iff_le, Nat.reduceAdd, Nat.reduceLeDiff, Nat.zero_add, Nat.reduceLT, hM.1]
  have f1 : Fr [p, p + 1] w (s_I w p 0 (Int32.ofInt 0)) := (Fr.refl _ _).I (by simp)
  refine c_plan_10 (s := s) hs 7 v 0 [] _ _ rfl hv (Or.inl rfl) (hM.fr f1) ⟨by simp only [wp_c, wp_n, jj_n, v_ct, Int.reduceToNat, Int.toNat_natCast, stE, wlE, lgt, lpu, lpw, v_c2, va_s, true_and, and_true, Option.toList, List.nil_append, List.cons_append, List.take, List.drop, List.reverse, List.reverseAux, List.length_cons, List.length_nil, reduceCtorEq, false_implies, true_implies, forall_const, not_true_eq_false, not_false_eq_true, ite_true, ite_false, Bool.false_eq_true, I_I, J_J, Nat.add_left_cancel_iff, Nat.reduceEqDiff, Nat.add_eq_left, Nat.left_eq_add, false_and, and_false, Nat.reduceSub, Nat.sub_self, Nat.le_refl, Nat.zero_le, ge_iff_le, Nat.reduceAdd, Nat.reduceLeDiff, Nat.zero_add, Nat.reduceLT]; rfl, fun i hi => absurd hi (by simp)⟩ (fun w' q1 q2 => ?_)
  exact hq w' (by simpa using q1) (f1.trans q2 (fun _ q => q) (fun _ q => q))
theorem c_fits {p b : Nat} {l : List Int} {A : Row} {w : mW} {Q : mW → mO → Prop} (hl : l.length ≤ 7) (hM : Mu w p) (hP : PL w p l) (hB : Mb w b) (hA : MemA w b A) (hz : 0 ≤ A 1 - A 0 ∧ A 1 ≤ 16 ∧ 0 ≤ A 0) (hq : Q w (.inl (some (.int (Int32.ofInt (if (l.length : Int) - 1 ≤ A 1 - A 0 then 1 else 0)))))) : CT n_X3_fits [.ref p, .ref b] w Q := by
  have h1 : inR ((l.length : Int) - 1) := ⟨by omega, by omega⟩
  have h2 : inR (A 1 - A 0) := ⟨by omega, by omega⟩
  have s0 := hB.1.1
  refine ct_X3_fits (rt_X3_fits_0 ?_)
  simp only [wp_c, wp_n, jj_n, v_ct, Int.reduceToNat, Int.toNat_natCast, stE, wlE, lgt, lpu, lpw, v_c2, va_s, true_and, and_true, Option.toList, List.nil_append, List.cons_append, List.take, List.drop, List.reverse, List.reverseAux, List.length_cons, List.length_nil, reduceCtorEq, false_implies, true_implies, forall_const, not_true_eq_false, not_false_eq_true, ite_true, ite_false, Bool.false_eq_true, I_I, J_J, Nat.add_left_cancel_iff, Nat.reduceEqDiff, Nat.add_eq_left, Nat.left_eq_add, false_and, and_false, Nat.reduceSub, Nat.sub_self, Nat.le_refl, Nat.zero_le, ge_iff_le, Nat.reduceAdd, Nat.reduceLeDiff, Nat.zero_add, Nat.reduceLT, hM.1, hP.1, s0, oi_sub, mh_X3_fits]
  refine c_highest hB hA ?_
  simp only [wp_c, wp_n, jj_n, v_ct, Int.reduceToNat, Int.toNat_natCast, stE, wlE, lgt, lpu, lpw, v_c2, va_s, true_and, and_true, Option.toList, List.nil_append, List.cons_append, List.take, List.drop, List.reverse, List.reverseAux, List.length_cons, List.length_nil, reduceCtorEq, false_implies, true_implies, forall_const, not_true_eq_false, not_false_eq_true, ite_true, ite_false, Bool.false_eq_true, I_I, J_J, Nat.add_left_cancel_iff, Nat.reduceEqDiff, Nat.add_eq_left, Nat.left_eq_add, false_and, and_false, Nat.reduceSub, Nat.sub_self, Nat.le_refl, Nat.zero_le, ge_iff_le, Nat.reduceAdd, Nat.reduceLeDiff, Nat.zero_add, Nat.reduceLT, oi_lt h2 h1]
  refine ⟨fun h => ?_, fun h => ?_⟩
  · rw [if_neg (by omega)] at hq
    refine rt_X3_fits_17 ?_
    simp only [wp_c, wp_n, jj_n, v_ct, Int.reduceToNat, Int.toNat_natCast, stE, wlE, lgt, lpu, lpw, v_c2, va_s, true_and, and_true, Option.toList, List.nil_append, List.cons_append, List.take, List.drop, List.reverse, List.reverseAux, List.length_cons, List.length_nil, reduceCtorEq, false_implies, true_implies, forall_const, not_true_eq_false, not_false_eq_true, ite_true, ite_false, Bool.false_eq_true, I_I, J_J, Nat.add_left_cancel_iff, Nat.reduceEqDiff, Nat.add_eq_left, Nat.left_eq_add, false_and, and_false, Nat.reduceSub, Nat.sub_self, Nat.le_refl, Nat.zero_le, ge_iff_le, Nat.reduceAdd, Nat.reduceLeDiff, Nat.zero_add, Nat.reduceLT]
    refine rt_X3_fits_18 ?_
    simp only [wp_c, wp_n, jj_n, v_ct, Int.reduceToNat, Int.toNat_natCast, stE, wlE, lgt, lpu, lpw, v_c2, va_s, true_and, and_true, Option.toList, List.nil_append, List.cons_append, List.take, List.drop, List.reverse, List.reverseAux, List.length_cons, List.length_nil, reduceCtorEq, false_implies, true_implies, forall_const, not_true_eq_false, not_false_eq_true, ite_true, ite_false, Bool.false_eq_true, I_I, J_J, Nat.add_left_cancel_iff, Nat.reduceEqDiff, Nat.add_eq_left, Nat.left_eq_add, false_and, and_false, Nat.reduceSub, Nat.sub_self, Nat.le_refl, Nat.zero_le, ge_iff_le, Nat.reduceAdd, Nat.reduceLeDiff, Nat.zero_add, Nat.reduceLT, mr_X3_fits]
    exact ⟨Or.inl rfl, hq⟩
  · rw [if_pos (by omega)] at hq
    refine rt_X3_fits_18 ?_
    simp only [wp_c, wp_n, jj_n, v_ct, Int.reduceToNat, Int.toNat_natCast, stE, wlE, lgt, lpu, lpw, v_c2, va_s, true_and, and_true, Option.toList, List.nil_append, List.cons_append, List.take, List.drop, List.reverse, List.reverseAux, List.length_cons, List.length_nil, reduceCtorEq, false_implies, true_implies, forall_const, not_true_eq_false, not_false_eq_true, ite_true, ite_false, Bool.false_eq_true, I_I, J_J, Nat.add_left_cancel_iff, Nat.reduceEqDiff, Nat.add_eq_left, Nat.left_eq_add, false_and, and_false, Nat.reduceSub, Nat.sub_self, Nat.le_refl, Nat.zero_le, ge_iff_le, Nat.reduceAdd, Nat.reduceLeDiff, Nat.zero_add, Nat.reduceLT, mr_X3_fits]
    exact ⟨Or.inr rfl, hq⟩
theorem c_abs {x : Int} {w : mW} {Q : mW → mO → Prop} (hx : inR x) (hq : Q w (.inl (some (.int (Int32.ofInt (if x < 0 then -x else x)))))) : CT n_J9_abs_0f7a4 [.int (Int32.ofInt x)] w Q := by
  refine ct_J9_abs_0f7a4 (rt_J9_abs_0f7a4_0 ?_)
  simp only [wp_c, wp_n, jj_n, v_ct, Int.reduceToNat, Int.toNat_natCast, stE, wlE, lgt, lpu, lpw, v_c2, va_s, true_and, and_true, Option.toList, List.nil_append, List.cons_append, List.take, List.drop, List.reverse, List.reverseAux, List.length_cons, List.length_nil, reduceCtorEq, false_implies, true_implies, forall_const, not_true_eq_false, not_false_eq_true, ite_true, ite_false, Bool.false_eq_true, I_I, J_J, Nat.add_left_cancel_iff, Nat.reduceEqDiff, Nat.add_eq_left, Nat.left_eq_add, false_and, and_false, Nat.reduceSub, Nat.sub_self, Nat.le_refl, Nat.zero_le, ge_iff_le, Nat.reduceAdd, Nat.reduceLeDiff, Nat.zero_add, Nat.reduceLT, oi_ge0 hx, oi_neg]
  refine ⟨fun h => ?_, fun h => ?_⟩
  · rw [if_neg (by omega)] at hq
    refine rt_J9_abs_0f7a4_9 ?_
    simp only [wp_c, wp_n, jj_n, v_ct, Int.reduceToNat, Int.toNat_natCast, stE, wlE, lgt, lpu, lpw, v_c2, va_s, true_and, and_true, Option.toList, List.nil_append, List.cons_append, List.take, List.drop, List.reverse, List.reverseAux, List.length_cons, List.length_nil, reduceCtorEq, false_implies, true_implies, forall_const, not_true_eq_false, not_false_eq_true, ite_true, ite_false, Bool.false_eq_true, I_I, J_J, Nat.add_left_cancel_iff, Nat.reduceEqDiff, Nat.add_eq_left, Nat.left_eq_add, false_and, and_false, Nat.reduceSub, Nat.sub_self, Nat.le_refl, Nat.zero_le, ge_iff_le, Nat.reduceAdd, Nat.reduceLeDiff, Nat.zero_add, Nat.reduceLT]
    refine rt_J9_abs_0f7a4_10 ?_
    simp only [wp_c, wp_n, jj_n, v_ct, Int.reduceToNat, Int.toNat_natCast, stE, wlE, lgt, lpu, lpw, v_c2, va_s, true_and, and_true, Option.toList, List.nil_append, List.cons_append, List.take, List.drop, List.reverse, List.reverseAux, List.length_cons, List.length_nil, reduceCtorEq, false_implies, true_implies, forall_const, not_true_eq_false, not_false_eq_true, ite_true, ite_false, Bool.false_eq_true, I_I, J_J, Nat.add_left_cancel_iff, Nat.reduceEqDiff, Nat.add_eq_left, Nat.left_eq_add, false_and, and_false, Nat.reduceSub, Nat.sub_self, Nat.le_refl, Nat.zero_le, ge_iff_le, Nat.reduceAdd, Nat.reduceLeDiff, Nat.zero_add, Nat.reduceLT, mr_J9_abs_0f7a4]
    exact hq
  · rw [if_pos (by omega)] at hq
    refine rt_J9_abs_0f7a4_10 ?_
    simp only [wp_c, wp_n, jj_n, v_ct, Int.reduceToNat, Int.toNat_natCast, stE, wlE, lgt, lpu, lpw, v_c2, va_s, true_and, and_true, Option.toList, List.nil_append, List.cons_append, List.take, List.drop, List.reverse, List.reverseAux, List.length_cons, List.length_nil, reduceCtorEq, false_implies, true_implies, forall_const, not_true_eq_false, not_false_eq_true, ite_true, ite_false, Bool.false_eq_true, I_I, J_J, Nat.add_left_cancel_iff, Nat.reduceEqDiff, Nat.add_eq_left, Nat.left_eq_add, false_and, and_false, Nat.reduceSub, Nat.sub_self, Nat.le_refl, Nat.zero_le, ge_iff_le, Nat.reduceAdd, Nat.reduceLeDiff, Nat.zero_add, Nat.reduceLT, mr_J9_abs_0f7a4]
    exact hq
def a_tt (l : List Int) : Nat → Int
  | 0 => 0
  | n + 1 => a_tt l n + (if l.getD n 0 < 0 then -(l.getD n 0) else l.getD n 0)
theorem c_tt_4 {p : Nat} {l : List Int} {w : mW} {Q : mW → mO → Prop} (hl : l.length ≤ 7) (hM : Mu w p) (hP : PL w p l) (hr : ∀ i, inR (l.getD i 0)) : ∀ (n j : Nat), j + n = l.length → Q w (.inl (some (.int (Int32.ofInt (a_tt l l.length))))) →
    RT n_X3_turnTotal 4 [.ref p, .int (Int32.ofInt (a_tt l j)), .int (Int32.ofInt j)] [] w (0, 0, false) Q := by
  intro n
  induction n with
  | zero =>
    intro j hn hq
    have h1 : inR (j : Int) := ⟨by omega, by omega⟩
    have h2 : inR (l.length : Int) := ⟨by omega, by omega⟩
    refine rt_X3_turnTotal_4 ?_
    simp only [wp_c, wp_n, jj_n, v_ct, Int.reduceToNat, Int.toNat_natCast, stE, wlE, lgt, lpu, lpw, v_c2, va_s, true_and, and_true, Option.toList, List.nil_append, List.cons_append, List.take, List.drop, List.reverse, List.reverseAux, List.length_cons, List.length_nil, reduceCtorEq, false_implies, true_implies, forall_const, not_true_eq_false, not_false_eq_true, ite_true, ite_false, Bool.false_eq_true, I_I, J_J, Nat.add_left_cancel_iff, Nat.reduceEqDiff, Nat.add_eq_left, Nat.left_eq_add, false_and, and_false, Nat.reduceSub, Nat.sub_self, Nat.le_refl, Nat.zero_le, ge_iff_le, Nat.reduceAdd, Nat.reduceLeDiff, Nat.zero_add, Nat.reduceLT, hM.1, hP.1, oi_le h2 h1]
    refine ⟨fun _ => ?_, fun h => absurd (by omega) h⟩
    refine rt_X3_turnTotal_30 ?_
    simp only [wp_c, wp_n, jj_n, v_ct, Int.reduceToNat, Int.toNat_natCast, stE, wlE, lgt, lpu, lpw, v_c2, va_s, true_and, and_true, Option.toList, List.nil_append, List.cons_append, List.take, List.drop, List.reverse, List.reverseAux, List.length_cons, List.length_nil, reduceCtorEq, false_implies, true_implies, forall_const, not_true_eq_false, not_false_eq_true, ite_true, ite_false, Bool.false_eq_true, I_I, J_J, Nat.add_left_cancel_iff, Nat.reduceEqDiff, Nat.add_eq_left, Nat.left_eq_add, false_and, and_false, Nat.reduceSub, Nat.sub_self, Nat.le_refl, Nat.zero_le, ge_iff_le, Nat.reduceAdd, Nat.reduceLeDiff, Nat.zero_add, Nat.reduceLT, mr_X3_turnTotal]
    have e : j = l.length := by omega
    rw [e]; exact hq
  | succ n ih =>
    intro j hn hq
    have h1 : inR (j : Int) := ⟨by omega, by omega⟩
    have h2 : inR (l.length : Int) := ⟨by omega, by omega⟩
    refine rt_X3_turnTotal_4 ?_
    simp only [wp_c, wp_n, jj_n, v_ct, Int.reduceToNat, Int.toNat_natCast, stE, wlE, lgt, lpu, lpw, v_c2, va_s, true_and, and_true, Option.toList, List.nil_append, List.cons_append, List.take, List.drop, List.reverse, List.reverseAux, List.length_cons, List.length_nil, reduceCtorEq, false_implies, true_implies, forall_const, not_true_eq_false, not_false_eq_true, ite_true, ite_false, Bool.false_eq_true, I_I, J_J, Nat.add_left_cancel_iff, Nat.reduceEqDiff, Nat.add_eq_left, Nat.left_eq_add, false_and, and_false, Nat.reduceSub, Nat.sub_self, Nat.le_refl, Nat.zero_le, ge_iff_le, Nat.reduceAdd, Nat.reduceLeDiff, Nat.zero_add, Nat.reduceLT, hM.1, hM.2.1, hM.2.2, hP.1, oi_le h2 h1, vp_oi h1, oi_nc h1, hP.2 j (by omega), mh_X3_turnTotal]
    refine ⟨fun h => absurd h (by omega), fun _ => ⟨by omega, ?_⟩⟩
    refine c_abs (hr j) ?_
    simp only [wp_c, wp_n, jj_n, v_ct, Int.reduceToNat, Int.toNat_natCast, stE, wlE, lgt, lpu, lpw, v_c2, va_s, true_and, and_true, Option.toList, List.nil_append, List.cons_append, List.take, List.drop, List.reverse, List.reverseAux, List.length_cons, List.length_nil, reduceCtorEq, false_implies, true_implies, forall_const, not_true_eq_false, not_false_eq_true, ite_true, ite_false, Bool.false_eq_true, I_I, J_J, Nat.add_left_cancel_iff, Nat.reduceEqDiff, Nat.add_eq_left, Nat.left_eq_add, false_and, and_false, Nat.reduceSub, Nat.sub_self, Nat.le_refl, Nat.zero_le, ge_iff_le, Nat.reduceAdd, Nat.reduceLeDiff, Nat.zero_add, Nat.reduceLT, oi_add]
    exact ih (j + 1) (by omega) hq
theorem c_turnTotal {p : Nat} {l : List Int} {w : mW} {Q : mW → mO → Prop} (hl : l.length ≤ 7) (hM : Mu w p) (hP : PL w p l) (hr : ∀ i, inR (l.getD i 0)) (hq : Q w (.inl (some (.int (Int32.ofInt (a_tt l l.length)))))) : CT n_X3_turnTotal [.ref p] w Q := by
  refine ct_X3_turnTotal (rt_X3_turnTotal_0 ?_)
  simp only [wp_c, wp_n, jj_n, v_ct, Int.reduceToNat, Int.toNat_natCast, stE, wlE, lgt, lpu, lpw, v_c2, va_s, true_and, and_true, Option.toList, List.nil_append, List.cons_append, List.take, List.drop, List.reverse, List.reverseAux, List.length_cons, List.length_nil, reduceCtorEq, false_implies, true_implies, forall_const, not_true_eq_false, not_false_eq_true, ite_true, ite_false, Bool.false_eq_true, I_I, J_J, Nat.add_left_cancel_iff, Nat.reduceEqDiff, Nat.add_eq_left, Nat.left_eq_add, false_and, and_false, Nat.reduceSub, Nat.sub_self, Nat.le_refl, Nat.zero_le, ge_iff_le, Nat.reduceAdd, Nat.reduceLeDiff, Nat.zero_add, Nat.reduceLT]
  exact c_tt_4 hl hM hP hr l.length 0 (by omega) hq
theorem pl_r : ∀ (f : Nat) (r c s : Int), 0 ≤ r → (c = 0 ∨ c = 1) → (a_pl f r c s).length ≤ f ∧ ∀ x ∈ a_pl f r c s, -10 ≤ x ∧ x ≤ 10 := by
  intro f
  induction f with
  | zero => intro r c s _ _; simp [a_pl]
  | succ f ih =>
    intro r c s hr hc
    rw [a_pl]
    split
    · simp
    · obtain ⟨h1, h2⟩ := ih (r / 10) (if ¬ s = 0 ∧ 6 ≤ r % 10 + c then 1 else 0) s (by omega) (by split; exact Or.inr rfl; exact Or.inl rfl)
      refine ⟨by simp only [List.length_cons]; omega, fun x hx => ?_⟩
      rcases List.mem_cons.mp hx with rfl | hx
      · split <;> omega
      · exact h2 x hx
