/-! a new own machine -/
def lenf (f : Nat) : Nat × Nat := if f = 24 then (7, 30) else (1, olen f)
/-- so many of its rows are there -/
def IN (w0 : mW) (o k : Nat) (w : mW) : Prop := w_n w = w_n w0 + k ∧ (∀ a, a < 100 + w_n w0 → ¬ a = o → w_sh w a = w_sh w0 a ∧ w_R w a = w_R w0 a ∧ w_I w a = w_I w0 a ∧ w_J w a = w_J w0 a) ∧ (w_sh w o = (0, 10) ∧ (∀ i, i ≤ 12 → w_I w o i = Int32.ofInt (n_row (of i))) ∧ w_J w o 13 = Int64.ofInt 0 ∧ w_J w o 14 = Int64.ofInt 0) ∧
  ∀ f, 15 ≤ f → f < 15 + k → w_R w o f = some (100 + w_n w0 + (f - 15)) ∧ w_sh w (100 + w_n w0 + (f - 15)) = lenf f ∧ w_I w (100 + w_n w0 + (f - 15)) = fun _ => 0
theorem IN.step {w0 w : mW} {o k p : Nat} {z : Nat × Nat} (h : IN w0 o k w) (ho : o < 100 + w_n w0) (hp : p = 100 + w_n w0 + k) (hz : z = lenf (15 + k)) : IN w0 o (k + 1) (s_R (s_N w z) o (15 + k) (some p)) := by
  obtain ⟨h1, h2, ⟨h3, h4, h5, h6⟩, h7⟩ := h
  have no : ¬ o = 100 + w_n w := by omega
  refine ⟨?_, fun a ha hao => ?_, ⟨?_, fun i hi => ?_, ?_, ?_⟩, fun f f1 f2 => ?_⟩
  · rw [R_n, N_n]; omega
  · have na : ¬ a = 100 + w_n w := by omega
    rw [R_sh, N_sh, if_neg na, R_ne hao, N_Rc, if_neg na, R_Ic, N_Ic, if_neg na, R_Jc, N_Jc, if_neg na]
    exact h2 a ha hao
  · rw [R_sh, N_sh, if_neg no]; exact h3
  · rw [R_Ic, N_Ic, if_neg no]; exact h4 i hi
  · rw [R_Jc, N_Jc, if_neg no]; exact h5
  · rw [R_Jc, N_Jc, if_neg no]; exact h6
  · by_cases e : f = 15 + k
    · subst e
      have ep : 100 + w_n w0 + (15 + k - 15) = 100 + w_n w := by omega
      rw [ep]
      refine ⟨?_, ?_, ?_⟩
      · rw [R_R, if_pos ⟨rfl, rfl⟩, hp]; congr 1; omega
      · rw [R_sh, N_sh, if_pos rfl, hz]
      · rw [R_Ic, N_Ic, if_pos rfl]
    · obtain ⟨k1, k2, k3⟩ := h7 f f1 (by omega)
      have na : ¬ 100 + w_n w0 + (f - 15) = 100 + w_n w := by omega
      refine ⟨?_, ?_, ?_⟩
      · rw [R_R, if_neg (fun q => e q.2), N_Rj, if_neg no]; exact k1
      · rw [R_sh, N_sh, if_neg na]; exact k2
      · rw [R_Ic, N_Ic, if_neg na]; exact k3
theorem IN.ow {w0 w : mW} {o b : Nat} (h : IN w0 o 10 w) (ho : o < 100 + w_n w0) (hb : b ≤ o) : OW w b o (fun f => 100 + w_n w0 + (f - 15)) n_row := by
  obtain ⟨h1, h2, ⟨h3, h4, h5, h6⟩, h7⟩ := h
  have z0 : ∀ j, 4 ≤ j → n_row j = 0 := n_row0
  refine ⟨⟨h3, ⟨hb, by omega⟩, fun f f1 f2 => ?_, ?_, fun f f1 f2 => ?_, fun f g f1 f2 g1 g2 ne => ?_⟩, ⟨h4, ⟨?_, ?_⟩, fun f i f1 f2 hi => ?_⟩, ⟨by rw [z0 _ (by omega)]; omega, by rw [z0 _ (by omega)]; omega⟩, fun i hi => ?_⟩
  · have := (h7 f f1 (by omega)).2.1
    unfold lenf at this
    rw [if_neg (by omega)] at this
    exact this
  · exact (h7 24 (by omega) (by omega)).2.1
  · exact ⟨(h7 f f1 (by omega)).1, by show b ≤ 100 + w_n w0 + (f - 15); omega, by show 100 + w_n w0 + (f - 15) < 100 + w_n w; omega⟩
  · show 100 + w_n w0 + (f - 15) ≠ 100 + w_n w0 + (g - 15)
    omega
  · rw [z0 _ (by omega)]; exact h5
  · rw [z0 _ (by omega)]; exact h6
  · have := oi_rng ⟨f1, f2⟩ hi
    rw [(h7 f f1 (by omega)).2.2, z0 _ (by omega)]
    rfl
  · rw [z0 _ (by omega)] at hi; omega
theorem IN.fo {w0 w : mW} {o b : Nat} (h : IN w0 o 10 w) (ho : UB b w0 o) (hb : b ≤ 100 + w_n w0) : FO b w0 w := by
  refine ⟨fun c hc => ?_, by rw [h.1]; omega⟩
  have hn := ho.no hc
  have hl : c < 100 + w_n w0 := by
    rcases hc with q | q
    · omega
    · exact q.1
  exact h.2.1 c hl hn
theorem z_init {o : Nat} {w : mW} {Q : mW → mO → Prop} (hs : w_sh w o = (0, 10)) (ho : o < 100 + w_n w) (hI : w_I w o = fun _ => 0) (hJ : w_J w o = fun _ => 0) (hq : ∀ w', IN w o 10 w' → Q w' (.inl none)) : CT n_X10_init [.ref o] w Q := by
  have c8 : (Int32.ofInt 8).toNatClampNeg = 8 := by decide
  have c16 : (Int32.ofInt 16).toNatClampNeg = 16 := by decide
  have c6 : (Int32.ofInt 6).toNatClampNeg = 6 := by decide
  have c30 : (Int32.ofInt 30).toNatClampNeg = 30 := by decide
  have h0 : IN w o 0 (s_I (s_I (s_I (s_I w o 1 (Int32.ofInt 4)) o 2 (Int32.ofInt 8)) o 3 (Int32.ofInt 4)) o 4 (Int32.ofInt 16)) := by
    refine ⟨rfl, fun a ha hao => ⟨rfl, rfl, ?_, rfl⟩, ⟨hs, fun i hi => ?_, ?_, ?_⟩, fun f f1 f2 => absurd f2 (by omega)⟩
    · funext j
      rw [I_I, if_neg (fun q => hao q.1), I_I, if_neg (fun q => hao q.1), I_I, if_neg (fun q => hao q.1), I_I, if_neg (fun q => hao q.1)]
    · rw [I_I, I_I, I_I, I_I, hI]
      rcases (show i = 0 ∨ i = 1 ∨ i = 2 ∨ i = 3 ∨ i = 4 ∨ i = 5 ∨ i = 6 ∨ i = 7 ∨ i = 8 ∨ i = 9 ∨ i = 10 ∨ i = 11 ∨ i = 12 by omega) with rfl | rfl | rfl | rfl | rfl | rfl | rfl | rfl | rfl | rfl | rfl | rfl | rfl <;> simp [of, n_row] <;> rfl
    · show w_J w o 13 = _; rw [hJ]; rfl
    · show w_J w o 14 = _; rw [hJ]; rfl
  refine ct_X10_init (rt_X10_init_0 ?_)
  simp (disch := omega) only [wp_c, wp_n, jj_n, v_ct, Int.reduceToNat, Int.toNat_natCast, stE, wlE, lgt, lpu, lpw, v_c2, va_s, true_and, and_true, Option.toList, List.nil_append, List.cons_append, List.take, List.drop, List.reverse, List.reverseAux, List.length_cons, List.length_nil, reduceCtorEq, false_implies, true_implies, forall_const, not_true_eq_false, not_false_eq_true, ite_true, ite_false, Bool.false_eq_true, I_I, J_J, Nat.add_left_cancel_iff, Nat.reduceEqDiff, Nat.add_eq_left, Nat.left_eq_add, false_and, and_false, Nat.reduceSub, Nat.sub_self, Nat.le_refl, Nat.zero_le, ge_iff_le, Nat.reduceAdd, Nat.reduceLeDiff, Nat.zero_add, Nat.reduceLT, z_lt, z_le, z_eq, z_l0, z_g0, z_le0, z_ge0, z_e0, z_e1, z_vp, z_nc, z_rem, z_div, i_ltT, i_ltF, i_leT, i_leF, i_eqT, i_eqF, n_ltT, n_ltF, n_leT, n_leF, n_eqT, n_eqF, tn_9, tn_12, tn_14, tn_20, tn_28, tn_44, tn_52, tn_68, tn_84, tn_100, tn_116, tn_132, fu_e, up_eq, ob_0, ob_b, oi_add, oi_sub, oi_mul, oi_neg, Int.add_zero, Int.zero_add, or_true, true_or, or_false, false_or, and_self, z_i2l, z_l2i, lo_nat, lo_add, lo_sub, lo_mul, lo_0, e_rem, hs, c8, c16, c6, c30, N_sh, R_sh, N_n, R_n]
  refine hq _ (IN.step (k := 9) (IN.step (k := 8) (IN.step (k := 7) (IN.step (k := 6) (IN.step (k := 5) (IN.step (k := 4) (IN.step (k := 3) (IN.step (k := 2) (IN.step (k := 1) (IN.step (k := 0) h0 ho ?_ rfl) ho ?_ rfl) ho ?_ rfl) ho ?_ rfl) ho ?_ rfl) ho ?_ rfl) ho ?_ rfl) ho ?_ rfl) ho ?_ rfl) ho ?_ rfl)
  all_goals omega
