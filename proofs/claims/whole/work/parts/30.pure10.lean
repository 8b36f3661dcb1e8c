/-! no NaN -/
theorem fk32 : FP.Core.b32.tails = 8388608 ∧ FP.Core.b32.exps = 256 ∧ FP.Core.b32.qmin = -149 ∧ FP.Core.b32.qmax = 104 ∧ FP.Core.b32.p = 24 := by decide
theorem fk64 : FP.Core.b64.tails = 4503599627370496 ∧ FP.Core.b64.exps = 2048 ∧ FP.Core.b64.qmin = -1074 ∧ FP.Core.b64.qmax = 971 ∧ FP.Core.b64.p = 53 := by decide
/-- what rounding leaves, encoded -/
theorem st32 (s : Bool) (c : Nat) (q : Int) (hq : -149 ≤ q) : FP.Core.encode FP.Core.b32 (FP.Core.settle FP.Core.b32 s c q) % 2147483648 ≤ 2139095040 ∧ FP.Core.encode FP.Core.b32 (FP.Core.settle FP.Core.b32 s c q) < 4294967296 := by
  obtain ⟨k1, k2, k3, k4, k5⟩ := fk32
  have hs : s.toNat ≤ 1 := by cases s <;> decide
  unfold FP.Core.settle FP.Core.bound
  rw [k5]
  by_cases h1 : c < 2 ^ 24
  · rw [if_pos h1]
    by_cases h2 : q ≤ FP.Core.b32.qmax
    · rw [if_pos h2]
      unfold FP.Core.encode FP.Core.assemble
      simp only [k1, k2, k3]
      rw [k4] at h2
      split <;> omega
    · rw [if_neg h2]
      unfold FP.Core.encode FP.Core.assemble
      simp only [k1, k2]
      omega
  · rw [if_neg h1]
    by_cases h2 : q + 1 ≤ FP.Core.b32.qmax
    · rw [if_pos h2]
      unfold FP.Core.encode FP.Core.assemble
      simp only [k1, k2, k3]
      rw [k4] at h2
      split <;> omega
    · rw [if_neg h2]
      unfold FP.Core.encode FP.Core.assemble
      simp only [k1, k2]
      omega
theorem st64 (s : Bool) (c : Nat) (q : Int) (hq : -1074 ≤ q) : FP.Core.encode FP.Core.b64 (FP.Core.settle FP.Core.b64 s c q) % 9223372036854775808 ≤ 9218868437227405312 ∧ FP.Core.encode FP.Core.b64 (FP.Core.settle FP.Core.b64 s c q) < 18446744073709551616 := by
  obtain ⟨k1, k2, k3, k4, k5⟩ := fk64
  have hs : s.toNat ≤ 1 := by cases s <;> decide
  unfold FP.Core.settle FP.Core.bound
  rw [k5]
  by_cases h1 : c < 2 ^ 53
  · rw [if_pos h1]
    by_cases h2 : q ≤ FP.Core.b64.qmax
    · rw [if_pos h2]
      unfold FP.Core.encode FP.Core.assemble
      simp only [k1, k2, k3]
      rw [k4] at h2
      split <;> omega
    · rw [if_neg h2]
      unfold FP.Core.encode FP.Core.assemble
      simp only [k1, k2]
      omega
  · rw [if_neg h1]
    by_cases h2 : q + 1 ≤ FP.Core.b64.qmax
    · rw [if_pos h2]
      unfold FP.Core.encode FP.Core.assemble
      simp only [k1, k2, k3]
      rw [k4] at h2
      split <;> omega
    · rw [if_neg h2]
      unfold FP.Core.encode FP.Core.assemble
      simp only [k1, k2]
      omega
theorem rr32 (s : Bool) (A B : Nat) (e : Int) : FP.Core.encode FP.Core.b32 (FP.Core.roundRatio FP.Core.b32 s A B e) % 2147483648 ≤ 2139095040 ∧ FP.Core.encode FP.Core.b32 (FP.Core.roundRatio FP.Core.b32 s A B e) < 4294967296 := by
  obtain ⟨k1, k2, k3, k4, k5⟩ := fk32
  have hs : s.toNat ≤ 1 := by cases s <;> decide
  unfold FP.Core.roundRatio
  by_cases h : A = 0
  · rw [if_pos h]
    unfold FP.Core.encode FP.Core.assemble
    simp only [k1, k2, k3]
    split <;> omega
  · rw [if_neg h]
    unfold FP.Core.roundAt
    refine st32 _ _ _ ?_
    unfold FP.Core.quantum
    rw [k3]; omega
theorem rr64 (s : Bool) (A B : Nat) (e : Int) : FP.Core.encode FP.Core.b64 (FP.Core.roundRatio FP.Core.b64 s A B e) % 9223372036854775808 ≤ 9218868437227405312 ∧ FP.Core.encode FP.Core.b64 (FP.Core.roundRatio FP.Core.b64 s A B e) < 18446744073709551616 := by
  obtain ⟨k1, k2, k3, k4, k5⟩ := fk64
  have hs : s.toNat ≤ 1 := by cases s <;> decide
  unfold FP.Core.roundRatio
  by_cases h : A = 0
  · rw [if_pos h]
    unfold FP.Core.encode FP.Core.assemble
    simp only [k1, k2, k3]
    split <;> omega
  · rw [if_neg h]
    unfold FP.Core.roundAt
    refine st64 _ _ _ ?_
    unfold FP.Core.quantum
    rw [k3]; omega
theorem n32 {n : Nat} (h : n % 2147483648 ≤ 2139095040) (h2 : n < 4294967296) : vf_n32 (UInt32.ofNat n) := by
  unfold vf_n32
  rw [UInt32.le_iff_toNat_le, UInt32.toNat_and]
  have e : (UInt32.ofNat n).toNat = n := UInt32.toNat_ofNat_of_lt' (by simpa using h2)
  rw [e]
  have e2 : n &&& (0x7fffffff : UInt32).toNat = n % 2147483648 := Nat.and_two_pow_sub_one_eq_mod n 31
  rw [e2]
  exact h
theorem n64 {n : Nat} (h : n % 9223372036854775808 ≤ 9218868437227405312) (h2 : n < 18446744073709551616) : vf_n64 (UInt64.ofNat n) := by
  unfold vf_n64
  rw [UInt64.le_iff_toNat_le, UInt64.toNat_and]
  have e : (UInt64.ofNat n).toNat = n := UInt64.toNat_ofNat_of_lt' (by simpa using h2)
  rw [e]
  have e2 : n &&& (0x7fffffffffffffff : UInt64).toNat = n % 9223372036854775808 := Nat.and_two_pow_sub_one_eq_mod n 63
  rw [e2]
  exact h
/-- a whole number of 32 bits, rounded -/
theorem ri32 (s : Bool) (A : Nat) (hA : A ≤ 2147483648) : ∃ c q, FP.Core.roundRatio FP.Core.b32 s A 1 0 = .fin s c q ∧ c < 16777216 ∧ -149 ≤ q ∧ q ≤ 104 ∧ (0 < A → 0 < c) := by
  obtain ⟨k1, k2, k3, k4, k5⟩ := fk32
  unfold FP.Core.roundRatio
  by_cases h : A = 0
  · rw [if_pos h]; exact ⟨0, _, rfl, by omega, by omega, by omega, fun q => by omega⟩
  · rw [if_neg h]
    have l1 := Nat.log2_self_le h
    have l2 := Nat.lt_log2_self (n := A)
    have hL : A.log2 ≤ 31 := by
      have := (Nat.log2_lt h (k := 32)).mpr (by omega)
      omega
    have hlead : FP.Core.leading A 1 = (A.log2 : Int) := by
      unfold FP.Core.leading
      have e1 : Nat.log2 1 = 0 := by decide
      rw [e1]
      have e2 : ((A.log2 : Int) - ((0 : Nat) : Int)).toNat = A.log2 := by omega
      have e3 : (-((A.log2 : Int) - ((0 : Nat) : Int))).toNat = 0 := by omega
      simp only [e2, e3]
      rw [if_pos (by omega)]
      omega
    have hqu : FP.Core.quantum FP.Core.b32 A 1 0 = (A.log2 : Int) - 23 := by
      unfold FP.Core.quantum
      rw [hlead, k3, k5]; omega
    unfold FP.Core.roundAt
    rw [hqu]
    -- the significand
    have hc : 8388608 ≤ FP.Core.nearest (FP.Core.unitsNum A 0 ((A.log2 : Int) - 23)) (FP.Core.unitsDen 1 0 ((A.log2 : Int) - 23)) ∧ FP.Core.nearest (FP.Core.unitsNum A 0 ((A.log2 : Int) - 23)) (FP.Core.unitsDen 1 0 ((A.log2 : Int) - 23)) ≤ 16777216 := by
      unfold FP.Core.unitsNum FP.Core.unitsDen FP.Core.nearest
      generalize A.log2 = L at l1 l2 hL
      have hcs : L = 0 ∨ L = 1 ∨ L = 2 ∨ L = 3 ∨ L = 4 ∨ L = 5 ∨ L = 6 ∨ L = 7 ∨ L = 8 ∨ L = 9 ∨ L = 10 ∨ L = 11 ∨ L = 12 ∨ L = 13 ∨ L = 14 ∨ L = 15 ∨ L = 16 ∨ L = 17 ∨ L = 18 ∨ L = 19 ∨ L = 20 ∨ L = 21 ∨ L = 22 ∨ L = 23 ∨ L = 24 ∨ L = 25 ∨ L = 26 ∨ L = 27 ∨ L = 28 ∨ L = 29 ∨ L = 30 ∨ L = 31 := by omega
      rcases hcs with rfl | rfl | rfl | rfl | rfl | rfl | rfl | rfl | rfl | rfl | rfl | rfl | rfl | rfl | rfl | rfl | rfl | rfl | rfl | rfl | rfl | rfl | rfl | rfl | rfl | rfl | rfl | rfl | rfl | rfl | rfl | rfl
      all_goals simp at l1 l2 ⊢
      all_goals (split <;> (try split) <;> omega)
    generalize FP.Core.nearest (FP.Core.unitsNum A 0 ((A.log2 : Int) - 23)) (FP.Core.unitsDen 1 0 ((A.log2 : Int) - 23)) = c at hc
    unfold FP.Core.settle FP.Core.bound
    rw [k5, k4, k1]
    by_cases h1 : c < 2 ^ 24
    · rw [if_pos h1, if_pos (by omega)]
      exact ⟨c, _, rfl, by omega, by omega, by omega, fun _ => by omega⟩
    · rw [if_neg h1, if_pos (by omega)]
      exact ⟨8388608, _, rfl, by omega, by omega, by omega, fun _ => by omega⟩
theorem de32 (s : Bool) (c : Nat) (q : Int) (hc : c < 16777216) (h1 : -149 ≤ q) (h2 : q ≤ 104) : ∃ s' c' q', FP.Core.decode FP.Core.b32 (FP.Core.encode FP.Core.b32 (.fin s c q)) = .fin s' c' q' ∧ (0 < c → 0 < c') := by
  obtain ⟨k1, k2, k3, k4, k5⟩ := fk32
  have hs : s.toNat ≤ 1 := by cases s <;> decide
  unfold FP.Core.decode FP.Core.encode FP.Core.assemble FP.Core.fieldE FP.Core.fieldT
  simp only [k1, k2, k3]
  by_cases h : c < 8388608
  · rw [if_pos h, if_neg (by omega), if_pos (by omega)]
    exact ⟨_, _, _, rfl, fun _ => by omega⟩
  · rw [if_neg h, if_neg (by omega), if_neg (by omega)]
    exact ⟨_, _, _, rfl, fun _ => by omega⟩
theorem i2f_v (a : Int) (ha : -2147483648 ≤ a ∧ a ≤ 2147483647) : ∃ s c q, FP.Core.decode FP.Core.b32 (FP.i2f (Int32.ofInt a)).toNat = .fin s c q ∧ (¬ a = 0 → 0 < c) := by
  have e : (Int32.ofInt a).toInt = a := oi_to ⟨ha.1, ha.2⟩
  obtain ⟨c, q, h1, h2, h3, h4, h5⟩ := ri32 (decide (a < 0)) a.natAbs (by omega)
  have hv : FP.i2f (Int32.ofInt a) = UInt32.ofNat (FP.Core.encode FP.Core.b32 (.fin (decide (a < 0)) c q)) := by
    show UInt32.ofNat (FP.Core.fromInt FP.Core.b32 (Int32.ofInt a).toInt) = _
    rw [e]
    unfold FP.Core.fromInt FP.Core.ofInt FP.Core.round
    simp only
    rw [h1]
  have hlt : FP.Core.encode FP.Core.b32 (.fin (decide (a < 0)) c q) < 4294967296 := by
    rw [← h1]; exact (rr32 _ _ _ _).2
  rw [hv, UInt32.toNat_ofNat_of_lt' (by simpa using hlt)]
  obtain ⟨s', c', q', g1, g2⟩ := de32 (decide (a < 0)) c q h2 h3 h4
  exact ⟨s', c', q', g1, fun hne => g2 (h5 (by omega))⟩
theorem fdiv_ok {a b : Int} (ha : -2147483648 ≤ a ∧ a ≤ 2147483647) (hb : -2147483648 ≤ b ∧ b ≤ 2147483647) (h : ¬ b = 0) : vf_n32 (FP.fdiv (FP.i2f (Int32.ofInt a)) (FP.i2f (Int32.ofInt b))) := by
  obtain ⟨s, c, q, h1, -⟩ := i2f_v a ha
  obtain ⟨t, d, r, h2, h3⟩ := i2f_v b hb
  have hd := h3 h
  show vf_n32 (UInt32.ofNat (FP.Core.div FP.Core.b32 _ _))
  unfold FP.Core.div
  rw [h1, h2]
  unfold FP.Core.quotient
  simp only
  rw [if_neg (by omega)]
  have := rr32 (s != t) c d (q - r)
  exact n32 this.1 this.2
theorem f2d_ok {x : UInt32} (h : vf_n32 x) : vf_n64 (FP.f2d x) := by
  obtain ⟨k1, k2, k3, k4, k5⟩ := fk32
  have hx : x.toNat % 2147483648 ≤ 2139095040 := by
    unfold vf_n32 at h
    rw [UInt32.le_iff_toNat_le, UInt32.toNat_and] at h
    have e2 : x.toNat &&& (0x7fffffff : UInt32).toNat = x.toNat % 2147483648 := Nat.and_two_pow_sub_one_eq_mod _ 31
    rw [e2] at h
    exact h
  have hdn : FP.Core.decode FP.Core.b32 x.toNat ≠ .nan := by
    unfold FP.Core.decode FP.Core.fieldE FP.Core.fieldT
    simp only [k1, k2]
    by_cases h1 : x.toNat / 8388608 % 256 = 256 - 1
    · rw [if_pos h1, if_pos (by omega)]; intro q; cases q
    · rw [if_neg h1]; split <;> (intro q; cases q)
  have hnn : FP.Core.fIsNaN x = false := by
    unfold FP.Core.fIsNaN FP.Core.isNaN
    exact decide_eq_false hdn
  unfold FP.f2d
  rw [hnn, if_neg (by decide)]
  show vf_n64 (UInt64.ofNat (FP.Core.convert FP.Core.b32 FP.Core.b64 x.toNat))
  unfold FP.Core.convert
  cases hd : FP.Core.decode FP.Core.b32 x.toNat with
  | nan => exact absurd hd hdn
  | inf s =>
    unfold FP.Core.round FP.Core.encode FP.Core.assemble
    obtain ⟨j1, j2, j3, j4, j5⟩ := fk64
    have hs : s.toNat ≤ 1 := by cases s <;> decide
    simp only [j1, j2]
    exact n64 (by omega) (by omega)
  | fin s c q =>
    unfold FP.Core.round
    have := rr64 s c 1 q
    exact n64 this.1 this.2
/-! soundness -/
def snd (A : Row) : UInt32 := if Int32.ofInt (A 15 + A 16) = 0 then FP.fconst1 else FP.fdiv (FP.i2f (Int32.ofInt (A 15))) (FP.i2f (Int32.ofInt (A 15 + A 16)))
theorem snd_ok (A : Row) (h : ¬ Int32.ofInt (A 15 + A 16) = 0) : vf_n32 (FP.fdiv (FP.i2f (Int32.ofInt (A 15))) (FP.i2f (Int32.ofInt (A 15 + A 16)))) := by
  generalize Int32.ofInt (A 15) = a
  generalize Int32.ofInt (A 15 + A 16) = b at h ⊢
  have ra : -2147483648 ≤ a.toInt ∧ a.toInt ≤ 2147483647 := ⟨a.le_toInt, by have := a.toInt_lt; omega⟩
  have rb : -2147483648 ≤ b.toInt ∧ b.toInt ≤ 2147483647 := ⟨b.le_toInt, by have := b.toInt_lt; omega⟩
  have := fdiv_ok ra rb (fun q => h (by rw [← Int32.ofInt_toInt b, q]; rfl))
  rwa [Int32.ofInt_toInt, Int32.ofInt_toInt] at this
theorem snd_f (A : Row) : vf_n32 (snd A) := by
  unfold snd
  split
  · show FP.fconst1 &&& 0x7fffffff ≤ 0x7f800000
    decide
  · rename_i h; exact snd_ok A h
theorem r_soundness {r : Nat} {w : mW} {A : Row} {Z : Zx} {Y : Yx} {X : Xx} {U : Ux} {Q : mW → mO → Prop} (hS : RS w r A Z Y X U) (hG : GR A) (hq : ∀ w', RS w' r A Z Y X U → FrB r 26 w w' → Q w' (.inl (some (.float (snd A))))) : CT n_X10_soundness [.ref r] w Q := by
  obtain ⟨hR, hW, hA, hF, hO⟩ := hS
  have hw := rs_self hA
  generalize w_I w r = F at hF hw
  rw [← hw]
  have hR0 := hR
  obtain ⟨sh, rf⟩ := hR
  obtain ⟨k1, k2, k3⟩ := rq (th := 0) (A := A) hR0 hW hF hO rfl
  have e := hq _ k1 k2
  have ev : (Int32.ofInt (A 15) + Int32.ofInt (A 16)) = Int32.ofInt (A 15 + A 16) := oi_add ..
  refine ct_X10_soundness (rt_X10_soundness_0 ?_)
  simp (disch := omega) only [wp_c, wp_n, jj_n, Int.reduceToNat, Int.toNat_natCast, stE, wlE, lgt, lpu, lpw, v_c2, va_s, true_and, and_true, Option.toList, List.nil_append, List.cons_append, List.take, List.drop, List.reverse, List.reverseAux, List.length_cons, List.length_nil, reduceCtorEq, false_implies, true_implies, forall_const, not_true_eq_false, not_false_eq_true, ite_true, ite_false, Bool.false_eq_true, I_I, J_J, Nat.add_left_cancel_iff, Nat.reduceEqDiff, Nat.add_eq_left, Nat.left_eq_add, false_and, and_false, Nat.reduceSub, Nat.sub_self, Nat.le_refl, Nat.zero_le, ge_iff_le, Nat.reduceAdd, Nat.reduceLeDiff, Nat.zero_add, Nat.reduceLT, z_lt, z_le, z_eq, z_l0, z_g0, z_le0, z_ge0, z_e0, z_e1, z_vp, z_nc, z_rem, z_div, i_ltT, i_ltF, i_leT, i_leF, i_eqT, i_eqF, n_ltT, n_ltF, n_leT, n_leF, n_eqT, n_eqF, tn_9, tn_12, tn_14, tn_20, tn_28, tn_44, tn_52, tn_68, tn_84, tn_100, tn_116, tn_132, fu_e, up_eq, ob_0, ob_b, oi_add, oi_sub, oi_mul, oi_neg, rs_sh, rs_R, rs_N, rs_J, rs_F, rs_A, rs_o, rs_wA, rs_wF, rs_w, Int.add_zero, Int.zero_add, or_true, true_or, or_false, false_or, and_self, z_i2l, z_l2i, lo_nat, lo_add, lo_sub, lo_mul, lo_0, e_rem, mr_X10_soundness, mh_X10_soundness, sh, rf, ev]
  refine ⟨fun h => ?_, fun h => ?_⟩
  · refine rt_X10_soundness_29 ?_
    simp (disch := omega) only [wp_c, wp_n, jj_n, Int.reduceToNat, Int.toNat_natCast, stE, wlE, lgt, lpu, lpw, v_c2, va_s, true_and, and_true, Option.toList, List.nil_append, List.cons_append, List.take, List.drop, List.reverse, List.reverseAux, List.length_cons, List.length_nil, reduceCtorEq, false_implies, true_implies, forall_const, not_true_eq_false, not_false_eq_true, ite_true, ite_false, Bool.false_eq_true, I_I, J_J, Nat.add_left_cancel_iff, Nat.reduceEqDiff, Nat.add_eq_left, Nat.left_eq_add, false_and, and_false, Nat.reduceSub, Nat.sub_self, Nat.le_refl, Nat.zero_le, ge_iff_le, Nat.reduceAdd, Nat.reduceLeDiff, Nat.zero_add, Nat.reduceLT, z_lt, z_le, z_eq, z_l0, z_g0, z_le0, z_ge0, z_e0, z_e1, z_vp, z_nc, z_rem, z_div, i_ltT, i_ltF, i_leT, i_leF, i_eqT, i_eqF, n_ltT, n_ltF, n_leT, n_leF, n_eqT, n_eqF, tn_9, tn_12, tn_14, tn_20, tn_28, tn_44, tn_52, tn_68, tn_84, tn_100, tn_116, tn_132, fu_e, up_eq, ob_0, ob_b, oi_add, oi_sub, oi_mul, oi_neg, rs_sh, rs_R, rs_N, rs_J, rs_F, rs_A, rs_o, rs_wA, rs_wF, rs_w, Int.add_zero, Int.zero_add, or_true, true_or, or_false, false_or, and_self, z_i2l, z_l2i, lo_nat, lo_add, lo_sub, lo_mul, lo_0, e_rem, mr_X10_soundness, mh_X10_soundness, sh, rf, ev]
    refine ⟨snd_ok A h, ?_⟩
    refine rt_X10_soundness_40 ?_
    simp only [wp_c, wp_n, jj_n, Int.reduceToNat, Int.toNat_natCast, stE, wlE, lgt, lpu, lpw, v_c2, va_s, true_and, and_true, Option.toList, List.nil_append, List.cons_append, List.take, List.drop, List.reverse, List.reverseAux, List.length_cons, List.length_nil, reduceCtorEq, false_implies, true_implies, forall_const, not_true_eq_false, not_false_eq_true, ite_true, ite_false, Bool.false_eq_true, I_I, J_J, Nat.add_left_cancel_iff, Nat.reduceEqDiff, Nat.add_eq_left, Nat.left_eq_add, false_and, and_false, Nat.reduceSub, Nat.sub_self, Nat.le_refl, Nat.zero_le, ge_iff_le, Nat.reduceAdd, Nat.reduceLeDiff, Nat.zero_add, Nat.reduceLT, mr_X10_soundness]
    unfold snd at e
    rw [if_neg (fun q => absurd q h)] at e
    exact e
  · refine rt_X10_soundness_40 ?_
    simp only [wp_c, wp_n, jj_n, Int.reduceToNat, Int.toNat_natCast, stE, wlE, lgt, lpu, lpw, v_c2, va_s, true_and, and_true, Option.toList, List.nil_append, List.cons_append, List.take, List.drop, List.reverse, List.reverseAux, List.length_cons, List.length_nil, reduceCtorEq, false_implies, true_implies, forall_const, not_true_eq_false, not_false_eq_true, ite_true, ite_false, Bool.false_eq_true, I_I, J_J, Nat.add_left_cancel_iff, Nat.reduceEqDiff, Nat.add_eq_left, Nat.left_eq_add, false_and, and_false, Nat.reduceSub, Nat.sub_self, Nat.le_refl, Nat.zero_le, ge_iff_le, Nat.reduceAdd, Nat.reduceLeDiff, Nat.zero_add, Nat.reduceLT, mr_X10_soundness]
    unfold snd at e
    rw [if_pos (Decidable.not_not.mp h)] at e
    exact e
