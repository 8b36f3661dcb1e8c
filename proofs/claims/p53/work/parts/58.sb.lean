/-- shapes that a text under way has none of -/
def sb (z : Nat × Nat) : Prop := z ≠ (0, 12) ∧ z.1 ≠ 3
def FB (b : Nat) (w w' : mW) : Prop := (∀ a, (a < b ∨ (a < 100 + w_n w ∧ sb (w_sh w a))) → w_sh w' a = w_sh w a ∧ w_R w' a = w_R w a ∧ w_I w' a = w_I w a ∧ w_J w' a = w_J w a) ∧ w_n w ≤ w_n w'
def UC (b : Nat) (w : mW) (a : Nat) : Prop := b ≤ a ∧ (¬ sb (w_sh w a) ∨ 100 + w_n w ≤ a)
theorem UC.no {b a c : Nat} {w : mW} (h : UC b w a) (hc : c < b ∨ (c < 100 + w_n w ∧ sb (w_sh w c))) : ¬ c = a := by
  intro e
  subst e
  rcases hc with q | q
  · have := h.1; omega
  · rcases h.2 with r | r
    · exact r q.2
    · have := q.1; omega
theorem FB.refl (b : Nat) (w : mW) : FB b w w := ⟨fun _ _ => ⟨rfl, rfl, rfl, rfl⟩, Nat.le_refl _⟩
theorem FB.trans {b : Nat} {w w' w'' : mW} (h : FB b w w') (h' : FB b w' w'') : FB b w w'' :=
  ⟨fun a ha => by
    have e := h.1 a ha
    have e' := h'.1 a (by
      rcases ha with q | q
      · exact Or.inl q
      · refine Or.inr ⟨by have := h.2; have := q.1; omega, ?_⟩
        rw [e.1]; exact q.2)
    exact ⟨e'.1.trans e.1, e'.2.1.trans e.2.1, e'.2.2.1.trans e.2.2.1, e'.2.2.2.trans e.2.2.2⟩, Nat.le_trans h.2 h'.2⟩
theorem FB.low {b c : Nat} {w w' : mW} (h : FB b w w') (hc : c ≤ b) : FB c w w' := ⟨fun a ha => h.1 a (by rcases ha with q | q; left; omega; exact Or.inr q), h.2⟩
theorem FB.I {b a i : Nat} {x : Int32} {w w' : mW} (h : FB b w w') (ha : UC b w a) : FB b w (s_I w' a i x) :=
  ⟨fun c hc => ⟨(h.1 c hc).1, (h.1 c hc).2.1, by rw [← (h.1 c hc).2.2.1]; funext j; rw [I_I, if_neg (fun q => ha.no hc q.1)], (h.1 c hc).2.2.2⟩, h.2⟩
theorem FB.I' {b a i : Nat} {x : Int32} {w w' : mW} (h : FB b w w') (ha : UC b w' a) : FB b w (s_I w' a i x) := h.trans ((FB.refl _ _).I ha)
theorem FB.J {b a i : Nat} {x : Int64} {w w' : mW} (h : FB b w w') (ha : UC b w a) : FB b w (s_J w' a i x) :=
  ⟨fun c hc => ⟨(h.1 c hc).1, (h.1 c hc).2.1, (h.1 c hc).2.2.1, by rw [← (h.1 c hc).2.2.2]; funext j; rw [J_J, if_neg (fun q => ha.no hc q.1)]⟩, h.2⟩
theorem FB.R {b a i : Nat} {x : Option Nat} {w w' : mW} (h : FB b w w') (ha : UC b w a) : FB b w (s_R w' a i x) :=
  ⟨fun c hc => ⟨(h.1 c hc).1, by rw [← (h.1 c hc).2.1]; funext j; rw [R_R, if_neg (fun q => ha.no hc q.1)], (h.1 c hc).2.2.1, (h.1 c hc).2.2.2⟩, h.2⟩
theorem FB.lv {b c : Nat} {w w' : mW} (h : FB b w w') (hb : b ≤ 100 + w_n w') (hc : c < b ∨ (c < 100 + w_n w ∧ sb (w_sh w c))) : c < 100 + w_n w' := by
  have := h.2
  rcases hc with q | q
  · omega
  · have := q.1; omega
theorem FB.N {b q : Nat} {z : Nat × Nat} {w w' : mW} (h : FB b w w') (hq : w_n w' ≤ q) (hb : b ≤ 100 + w_n w') : FB b w (s_N (s_K w' q) z) :=
  ⟨fun c hc => by
    have hl := h.lv hb hc
    have hn : ¬ c = 100 + w_n (s_K w' q) := by show ¬ c = 100 + q; omega
    refine ⟨?_, ?_, ?_, ?_⟩
    · rw [N_sh, if_neg hn]; exact (h.1 c hc).1
    · rw [N_Rc, if_neg hn]; exact (h.1 c hc).2.1
    · rw [N_Ic, if_neg hn]; exact (h.1 c hc).2.2.1
    · rw [N_Jc, if_neg hn]; exact (h.1 c hc).2.2.2, by rw [N_n]; show w_n w ≤ q + 1; have := h.2; omega⟩
theorem FB.A {b a : Nat} {x : Nat → Int32} {w w' : mW} (h : FB b w w') (ha : UC b w a) : FB b w (s_A w' a x) :=
  ⟨fun c hc => ⟨(h.1 c hc).1, (h.1 c hc).2.1, by rw [← (h.1 c hc).2.2.1, A_I, if_neg (ha.no hc)], (h.1 c hc).2.2.2⟩, h.2⟩
theorem FB.C {b a q : Nat} {w w' : mW} (h : FB b w w') (hq : w_n w' ≤ q) (hb : b ≤ 100 + w_n w') : FB b w (s_C (s_K w' q) a) := by
  obtain ⟨c1, c2, c3, c4, c5⟩ := C_at (w := w') (a := a) (q := q)
  refine ⟨fun c hc => ?_, by rw [c5]; have := h.2; omega⟩
  have hl := h.lv hb hc
  have hn : ¬ c = 100 + q := by omega
  rw [c1, c2, c3 _ hn, c4 _ hn, if_neg hn, if_neg hn]
  exact h.1 c hc
theorem FB.K {b q : Nat} {w w' : mW} (h : FB b w w') (hq : w_n w' ≤ q) : FB b w (s_K w' q) := ⟨h.1, by have := h.2; show w_n w ≤ q; omega⟩
theorem UC.new {b a : Nat} {w : mW} (h : b ≤ a) (h2 : 100 + w_n w ≤ a) : UC b w a := ⟨h, Or.inr h2⟩
/-- an own machine beside a text -/
theorem OW.fb {w w1 : mW} {b c o : Nat} {P : Nat → Nat} {B : Row} (h : OW w b o P B) (f : FB c w w1) : OW w1 b o P B := by
  have hlt := h.lt
  obtain ⟨⟨p1, p2, p3, p4, p5, p6⟩, ⟨v1, v2, v4⟩, l0, l1⟩ := h
  have fo := f.1 o (Or.inr ⟨p2.2, by rw [p1]; unfold sb; simp⟩)
  have fp : ∀ g, 15 ≤ g → g ≤ 23 → _ := fun g g1 g2 => f.1 (P g) (Or.inr ⟨hlt.2 g g1 (by omega), by rw [p3 g g1 g2]; unfold sb; simp⟩)
  have f24 := f.1 (P 24) (Or.inr ⟨hlt.2 24 (by omega) (by omega), by rw [p4]; unfold sb; simp⟩)
  refine ⟨⟨by rw [fo.1]; exact p1, ⟨p2.1, by have := f.2; omega⟩, fun g g1 g2 => ?_, ?_, fun g g1 g2 => ?_, p6⟩, ⟨fun g hg => ?_, ?_, fun g j g1 g2 hj => ?_⟩, l0, fun k hk => ?_⟩
  · rw [(fp g g1 g2).1]; exact p3 g g1 g2
  · rw [f24.1]; exact p4
  · rw [fo.2.1]
    have := p5 g g1 g2
    exact ⟨this.1, this.2.1, by have := f.2; omega⟩
  · rw [fo.2.2.1]; exact v1 g hg
  · rw [fo.2.2.2]; exact v2
  · rw [(fp g g1 g2).2.2.1]; exact v4 g j g1 g2 hj
  · obtain ⟨q, q1, q2, q3, q4⟩ := l1 k hk
    have fq := f.1 q (Or.inr ⟨q3, by rw [q2]; unfold sb; simp⟩)
    refine ⟨q, ?_, ?_, ?_, fun m hm => ?_⟩
    · rw [f24.2.1]; exact q1
    · rw [fq.1]; exact q2
    · have := f.2; omega
    · rw [fq.2.2.1]; exact q4 m hm
/-- a text under way: the builder at a, its bytes at p -/
def SBu (w : mW) (b a p : Nat) (l : List Int) : Prop := (w_sh w a = (0, 12) ∧ b ≤ a ∧ a < 100 + w_n w) ∧ (w_R w a 0 = some p ∧ b ≤ p ∧ p < 100 + w_n w) ∧ (w_I w a 1 = Int32.ofInt 0 ∧ w_I w a 3 = Int32.ofInt l.length) ∧ (∃ n, w_sh w p = (3, n) ∧ l.length ≤ n ∧ n ≤ 1000) ∧ l.length ≤ 400 ∧ (∀ i, i < l.length → w_I w p i = Int32.ofInt (l.getD i 0) ∧ 0 ≤ l.getD i 0 ∧ l.getD i 0 ≤ 127) ∧ ∀ i, fits .byte (.int (w_I w p i)) = true
theorem sh_ne {w : mW} {a p n : Nat} (h1 : w_sh w a = (0, 12)) (h2 : w_sh w p = (3, n)) : ¬ a = p := by
  intro e
  rw [← e, h1] at h2
  have := congrArg Prod.fst h2
  simp at this
theorem sr0 (x : Int32) : x >>> (Int32.ofInt 0 &&& 31) = x := by
  have e : (Int32.ofInt 0 &&& 31) = 0 := by decide
  rw [e]
  exact Int32.shiftRight_zero
theorem sl0 (x : Int32) : x <<< (Int32.ofInt 0 &&& 31) = x := by
  have e : (Int32.ofInt 0 &&& 31) = 0 := by decide
  rw [e]
  exact Int32.shiftLeft_zero
theorem i10 : ((1 : Int32) = 0) = False := eq_false (by decide)
theorem c_newLen {x y z : Int} {w : mW} {Q : mW → mO → Prop} (hx : 0 ≤ x ∧ x ≤ 100000) (hy : -100000 ≤ y ∧ y ≤ 100000) (hz : 0 < z ∧ z ≤ 100000) (hq : Q w (.inl (some (.int (Int32.ofInt (x + (if z ≤ y then y else z))))))) : CT n_J8_newLength_cabcc [.int (Int32.ofInt x), .int (Int32.ofInt y), .int (Int32.ofInt z)] w Q := by
  refine ct_J8_newLength_cabcc (rt_J8_newLength_cabcc_0 ?_)
  simp (disch := omega) only [wp_c, wp_n, jj_n, v_ct, Int.reduceToNat, Int.toNat_natCast, stE, wlE, lgt, lpu, lpw, v_c2, va_s, true_and, and_true, Option.toList, List.nil_append, List.cons_append, List.take, List.drop, List.reverse, List.reverseAux, List.length_cons, List.length_nil, reduceCtorEq, false_implies, true_implies, forall_const, not_true_eq_false, not_false_eq_true, ite_true, ite_false, Bool.false_eq_true, I_I, J_J, Nat.add_left_cancel_iff, Nat.reduceEqDiff, Nat.add_eq_left, Nat.left_eq_add, false_and, and_false, Nat.reduceSub, Nat.sub_self, Nat.le_refl, Nat.zero_le, ge_iff_le, Nat.reduceAdd, Nat.reduceLeDiff, Nat.zero_add, Nat.reduceLT, z_lt, z_le, z_eq, z_l0, z_g0, z_le0, z_ge0, z_e0, z_e1, z_vp, z_nc, z_rem, z_div, i_ltT, i_ltF, i_leT, i_leF, i_eqT, i_eqF, n_ltT, n_ltF, n_leT, n_leF, n_eqT, n_eqF, tn_9, tn_12, tn_14, tn_20, tn_28, tn_44, tn_52, tn_68, tn_84, tn_100, tn_116, tn_132, fu_e, up_eq, ob_0, ob_b, oi_add, oi_sub, oi_mul, oi_neg, Int.add_zero, Int.zero_add, or_true, true_or, or_false, false_or, and_self, z_i2l, z_l2i, lo_nat, lo_add, lo_sub, lo_mul, lo_0, e_rem, mh_J8_newLength_cabcc]
  refine c_max ⟨by omega, by omega⟩ ⟨by omega, by omega⟩ ?_
  generalize hm : (if z ≤ y then y else z) = m at hq ⊢
  have hmb : 0 < m ∧ m ≤ 100000 := by rw [← hm]; split <;> omega
  simp (disch := omega) only [wp_c, wp_n, jj_n, v_ct, Int.reduceToNat, Int.toNat_natCast, stE, wlE, lgt, lpu, lpw, v_c2, va_s, true_and, and_true, Option.toList, List.nil_append, List.cons_append, List.take, List.drop, List.reverse, List.reverseAux, List.length_cons, List.length_nil, reduceCtorEq, false_implies, true_implies, forall_const, not_true_eq_false, not_false_eq_true, ite_true, ite_false, Bool.false_eq_true, I_I, J_J, Nat.add_left_cancel_iff, Nat.reduceEqDiff, Nat.add_eq_left, Nat.left_eq_add, false_and, and_false, Nat.reduceSub, Nat.sub_self, Nat.le_refl, Nat.zero_le, ge_iff_le, Nat.reduceAdd, Nat.reduceLeDiff, Nat.zero_add, Nat.reduceLT, z_lt, z_le, z_eq, z_l0, z_g0, z_le0, z_ge0, z_e0, z_e1, z_vp, z_nc, z_rem, z_div, i_ltT, i_ltF, i_leT, i_leF, i_eqT, i_eqF, n_ltT, n_ltF, n_leT, n_leF, n_eqT, n_eqF, tn_9, tn_12, tn_14, tn_20, tn_28, tn_44, tn_52, tn_68, tn_84, tn_100, tn_116, tn_132, fu_e, up_eq, ob_0, ob_b, oi_add, oi_sub, oi_mul, oi_neg, Int.add_zero, Int.zero_add, or_true, true_or, or_false, false_or, and_self, z_i2l, z_l2i, lo_nat, lo_add, lo_sub, lo_mul, lo_0, e_rem, oi_nat, mr_J8_newLength_cabcc]
  exact hq
theorem c_newCap {b a p n : Nat} {l : List Int} {m : Int} {w : mW} {Q : mW → mO → Prop} (h : SBu w b a p l) (hn : w_sh w p = (3, n)) (hn2 : n ≤ 1000) (hm : (n : Int) < m ∧ m ≤ 400) (hq : ∀ k : Nat, m ≤ k → k ≤ 1000 → Q w (.inl (some (.int (Int32.ofInt k))))) : CT n_J5_newCapacity_0f7a4 [.ref a, .int (Int32.ofInt m)] w Q := by
  obtain ⟨⟨s1, s2, s3⟩, ⟨r1, r2, r3⟩, ⟨v1, v3⟩, -, hl, -⟩ := h
  refine ct_J5_newCapacity_0f7a4 (rt_J5_newCapacity_0f7a4_0 ?_)
  simp (disch := omega) only [wp_c, wp_n, jj_n, v_ct, Int.reduceToNat, Int.toNat_natCast, stE, wlE, lgt, lpu, lpw, v_c2, va_s, true_and, and_true, Option.toList, List.nil_append, List.cons_append, List.take, List.drop, List.reverse, List.reverseAux, List.length_cons, List.length_nil, reduceCtorEq, false_implies, true_implies, forall_const, not_true_eq_false, not_false_eq_true, ite_true, ite_false, Bool.false_eq_true, I_I, J_J, Nat.add_left_cancel_iff, Nat.reduceEqDiff, Nat.add_eq_left, Nat.left_eq_add, false_and, and_false, Nat.reduceSub, Nat.sub_self, Nat.le_refl, Nat.zero_le, ge_iff_le, Nat.reduceAdd, Nat.reduceLeDiff, Nat.zero_add, Nat.reduceLT, z_lt, z_le, z_eq, z_l0, z_g0, z_le0, z_ge0, z_e0, z_e1, z_vp, z_nc, z_rem, z_div, i_ltT, i_ltF, i_leT, i_leF, i_eqT, i_eqF, n_ltT, n_ltF, n_leT, n_leF, n_eqT, n_eqF, tn_9, tn_12, tn_14, tn_20, tn_28, tn_44, tn_52, tn_68, tn_84, tn_100, tn_116, tn_132, fu_e, up_eq, ob_0, ob_b, oi_add, oi_sub, oi_mul, oi_neg, Int.add_zero, Int.zero_add, or_true, true_or, or_false, false_or, and_self, z_i2l, z_l2i, lo_nat, lo_add, lo_sub, lo_mul, lo_0, e_rem, s1, r1, hn, v1, sl0, oi_nat, mh_J5_newCapacity_0f7a4]
  have e2 : Int32.ofInt 2 <<< (Int32.ofInt 0 &&& 31) = Int32.ofInt 2 := sl0 _
  try simp (disch := omega) only [wp_c, wp_n, jj_n, v_ct, Int.reduceToNat, Int.toNat_natCast, stE, wlE, lgt, lpu, lpw, v_c2, va_s, true_and, and_true, Option.toList, List.nil_append, List.cons_append, List.take, List.drop, List.reverse, List.reverseAux, List.length_cons, List.length_nil, reduceCtorEq, false_implies, true_implies, forall_const, not_true_eq_false, not_false_eq_true, ite_true, ite_false, Bool.false_eq_true, I_I, J_J, Nat.add_left_cancel_iff, Nat.reduceEqDiff, Nat.add_eq_left, Nat.left_eq_add, false_and, and_false, Nat.reduceSub, Nat.sub_self, Nat.le_refl, Nat.zero_le, ge_iff_le, Nat.reduceAdd, Nat.reduceLeDiff, Nat.zero_add, Nat.reduceLT, z_lt, z_le, z_eq, z_l0, z_g0, z_le0, z_ge0, z_e0, z_e1, z_vp, z_nc, z_rem, z_div, i_ltT, i_ltF, i_leT, i_leF, i_eqT, i_eqF, n_ltT, n_ltF, n_leT, n_leF, n_eqT, n_eqF, tn_9, tn_12, tn_14, tn_20, tn_28, tn_44, tn_52, tn_68, tn_84, tn_100, tn_116, tn_132, fu_e, up_eq, ob_0, ob_b, oi_add, oi_sub, oi_mul, oi_neg, Int.add_zero, Int.zero_add, or_true, true_or, or_false, false_or, and_self, z_i2l, z_l2i, lo_nat, lo_add, lo_sub, lo_mul, lo_0, e_rem, e2]
  refine c_newLen ⟨by omega, by omega⟩ ⟨by omega, by omega⟩ ⟨by omega, by omega⟩ ?_
  generalize hk : (n : Int) + (if (n : Int) + 2 ≤ m - n then m - n else (n : Int) + 2) = k
  have hkb : m ≤ k ∧ k ≤ 1000 := by rw [← hk]; split <;> omega
  obtain ⟨k', rfl⟩ : ∃ k' : Nat, k = k' := ⟨k.toNat, by omega⟩
  simp (disch := omega) only [wp_c, wp_n, jj_n, v_ct, Int.reduceToNat, Int.toNat_natCast, stE, wlE, lgt, lpu, lpw, v_c2, va_s, true_and, and_true, Option.toList, List.nil_append, List.cons_append, List.take, List.drop, List.reverse, List.reverseAux, List.length_cons, List.length_nil, reduceCtorEq, false_implies, true_implies, forall_const, not_true_eq_false, not_false_eq_true, ite_true, ite_false, Bool.false_eq_true, I_I, J_J, Nat.add_left_cancel_iff, Nat.reduceEqDiff, Nat.add_eq_left, Nat.left_eq_add, false_and, and_false, Nat.reduceSub, Nat.sub_self, Nat.le_refl, Nat.zero_le, ge_iff_le, Nat.reduceAdd, Nat.reduceLeDiff, Nat.zero_add, Nat.reduceLT, z_lt, z_le, z_eq, z_l0, z_g0, z_le0, z_ge0, z_e0, z_e1, z_vp, z_nc, z_rem, z_div, i_ltT, i_ltF, i_leT, i_leF, i_eqT, i_eqF, n_ltT, n_ltF, n_leT, n_leF, n_eqT, n_eqF, tn_9, tn_12, tn_14, tn_20, tn_28, tn_44, tn_52, tn_68, tn_84, tn_100, tn_116, tn_132, fu_e, up_eq, ob_0, ob_b, oi_add, oi_sub, oi_mul, oi_neg, Int.add_zero, Int.zero_add, or_true, true_or, or_false, false_or, and_self, z_i2l, z_l2i, lo_nat, lo_add, lo_sub, lo_mul, lo_0, e_rem, s1]
  refine rt_J5_newCapacity_0f7a4_51 ?_
  simp (disch := omega) only [wp_c, wp_n, jj_n, v_ct, Int.reduceToNat, Int.toNat_natCast, stE, wlE, lgt, lpu, lpw, v_c2, va_s, true_and, and_true, Option.toList, List.nil_append, List.cons_append, List.take, List.drop, List.reverse, List.reverseAux, List.length_cons, List.length_nil, reduceCtorEq, false_implies, true_implies, forall_const, not_true_eq_false, not_false_eq_true, ite_true, ite_false, Bool.false_eq_true, I_I, J_J, Nat.add_left_cancel_iff, Nat.reduceEqDiff, Nat.add_eq_left, Nat.left_eq_add, false_and, and_false, Nat.reduceSub, Nat.sub_self, Nat.le_refl, Nat.zero_le, ge_iff_le, Nat.reduceAdd, Nat.reduceLeDiff, Nat.zero_add, Nat.reduceLT, z_lt, z_le, z_eq, z_l0, z_g0, z_le0, z_ge0, z_e0, z_e1, z_vp, z_nc, z_rem, z_div, i_ltT, i_ltF, i_leT, i_leF, i_eqT, i_eqF, n_ltT, n_ltF, n_leT, n_leF, n_eqT, n_eqF, tn_9, tn_12, tn_14, tn_20, tn_28, tn_44, tn_52, tn_68, tn_84, tn_100, tn_116, tn_132, fu_e, up_eq, ob_0, ob_b, oi_add, oi_sub, oi_mul, oi_neg, Int.add_zero, Int.zero_add, or_true, true_or, or_false, false_or, and_self, z_i2l, z_l2i, lo_nat, lo_add, lo_sub, lo_mul, lo_0, e_rem, s1, v1, sr0, mr_J5_newCapacity_0f7a4]
  exact hq k' hkb.1 (by omega)
theorem fit_b {x : Int} (h : 0 ≤ x ∧ x ≤ 127) : fits .byte (.int (Int32.ofInt x)) = true := by
  have e1 : (-128 : Int32) = Int32.ofInt (-128) := by decide
  have e2 : (127 : Int32) = Int32.ofInt 127 := by decide
  have h1 : (-128 : Int32) ≤ Int32.ofInt x := by rw [e1]; exact (oi_le ⟨by omega, by omega⟩ ⟨by omega, by omega⟩).mpr (by omega)
  have h2 : Int32.ofInt x ≤ (127 : Int32) := by rw [e2]; exact (oi_le ⟨by omega, by omega⟩ ⟨by omega, by omega⟩).mpr (by omega)
  simp only [fits, Bool.and_eq_true, decide_eq_true_eq]
  exact ⟨h1, h2⟩
theorem cpy_g (f g : Nat → Int32) (sp dp n j : Nat) : va_cpy f g sp dp n j = if dp ≤ j ∧ j < dp + n then f (sp + (j - dp)) else g j := by
  simp only [va_cpy]
theorem c_copyOf {p n k : Nat} {w : mW} {Q : mW → mO → Prop} (hs : w_sh w p = (3, n)) (h1 : 100 ≤ p ∧ p < 100 + w_n w) (hk : n < k ∧ k ≤ 1000) (hf : ∀ i, fits .byte (.int (w_I w p i)) = true)
  (hq : ∀ q, w_n w ≤ q → Q (s_A (s_N (s_K w q) (3, k)) (100 + q) (va_cpy (w_I w p) (fun _ => 0) 0 0 n)) (.inl (some (.ref (100 + q))))) : CT n_J7_copyOf_9075b [.ref p, .int (Int32.ofInt k)] w Q := by
  have hc : (Int32.ofInt (k : Int)).toNatClampNeg = k := by rw [oi_nc ⟨by omega, by omega⟩]; omega
  have hcn : (Int32.ofInt (n : Int)).toNatClampNeg = n := by rw [oi_nc ⟨by omega, by omega⟩]; omega
  have hc0 : (Int32.ofInt 0).toNatClampNeg = 0 := by decide
  refine ct_J7_copyOf_9075b (rt_J7_copyOf_9075b_0 ?_)
  simp (disch := omega) only [wp_c, wp_n, jj_n, v_ct, Int.reduceToNat, Int.toNat_natCast, stE, wlE, lgt, lpu, lpw, v_c2, va_s, true_and, and_true, Option.toList, List.nil_append, List.cons_append, List.take, List.drop, List.reverse, List.reverseAux, List.length_cons, List.length_nil, reduceCtorEq, false_implies, true_implies, forall_const, not_true_eq_false, not_false_eq_true, ite_true, ite_false, Bool.false_eq_true, I_I, J_J, Nat.add_left_cancel_iff, Nat.reduceEqDiff, Nat.add_eq_left, Nat.left_eq_add, false_and, and_false, Nat.reduceSub, Nat.sub_self, Nat.le_refl, Nat.zero_le, ge_iff_le, Nat.reduceAdd, Nat.reduceLeDiff, Nat.zero_add, Nat.reduceLT, z_lt, z_le, z_eq, z_l0, z_g0, z_le0, z_ge0, z_e0, z_e1, z_vp, z_nc, z_rem, z_div, i_ltT, i_ltF, i_leT, i_leF, i_eqT, i_eqF, n_ltT, n_ltF, n_leT, n_leF, n_eqT, n_eqF, tn_9, tn_12, tn_14, tn_20, tn_28, tn_44, tn_52, tn_68, tn_84, tn_100, tn_116, tn_132, fu_e, up_eq, ob_0, ob_b, oi_add, oi_sub, oi_mul, oi_neg, Int.add_zero, Int.zero_add, or_true, true_or, or_false, false_or, and_self, z_i2l, z_l2i, lo_nat, lo_add, lo_sub, lo_mul, lo_0, e_rem, hs, oi_nat]
  refine rt_J7_copyOf_9075b_14 ?_
  simp (disch := omega) only [wp_c, wp_n, jj_n, v_ct, Int.reduceToNat, Int.toNat_natCast, stE, wlE, lgt, lpu, lpw, v_c2, va_s, true_and, and_true, Option.toList, List.nil_append, List.cons_append, List.take, List.drop, List.reverse, List.reverseAux, List.length_cons, List.length_nil, reduceCtorEq, false_implies, true_implies, forall_const, not_true_eq_false, not_false_eq_true, ite_true, ite_false, Bool.false_eq_true, I_I, J_J, Nat.add_left_cancel_iff, Nat.reduceEqDiff, Nat.add_eq_left, Nat.left_eq_add, false_and, and_false, Nat.reduceSub, Nat.sub_self, Nat.le_refl, Nat.zero_le, ge_iff_le, Nat.reduceAdd, Nat.reduceLeDiff, Nat.zero_add, Nat.reduceLT, z_lt, z_le, z_eq, z_l0, z_g0, z_le0, z_ge0, z_e0, z_e1, z_vp, z_nc, z_rem, z_div, i_ltT, i_ltF, i_leT, i_leF, i_eqT, i_eqF, n_ltT, n_ltF, n_leT, n_leF, n_eqT, n_eqF, tn_9, tn_12, tn_14, tn_20, tn_28, tn_44, tn_52, tn_68, tn_84, tn_100, tn_116, tn_132, fu_e, up_eq, ob_0, ob_b, oi_add, oi_sub, oi_mul, oi_neg, Int.add_zero, Int.zero_add, or_true, true_or, or_false, false_or, and_self, z_i2l, z_l2i, lo_nat, lo_add, lo_sub, lo_mul, lo_0, e_rem, hs, hc, mh_J7_copyOf_9075b]
  intro q hq0
  have np : ¬ p = 100 + q := by omega
  simp (disch := omega) only [wp_c, wp_n, jj_n, v_ct, Int.reduceToNat, Int.toNat_natCast, stE, wlE, lgt, lpu, lpw, v_c2, va_s, true_and, and_true, Option.toList, List.nil_append, List.cons_append, List.take, List.drop, List.reverse, List.reverseAux, List.length_cons, List.length_nil, reduceCtorEq, false_implies, true_implies, forall_const, not_true_eq_false, not_false_eq_true, ite_true, ite_false, Bool.false_eq_true, I_I, J_J, Nat.add_left_cancel_iff, Nat.reduceEqDiff, Nat.add_eq_left, Nat.left_eq_add, false_and, and_false, Nat.reduceSub, Nat.sub_self, Nat.le_refl, Nat.zero_le, ge_iff_le, Nat.reduceAdd, Nat.reduceLeDiff, Nat.zero_add, Nat.reduceLT, z_lt, z_le, z_eq, z_l0, z_g0, z_le0, z_ge0, z_e0, z_e1, z_vp, z_nc, z_rem, z_div, i_ltT, i_ltF, i_leT, i_leF, i_eqT, i_eqF, n_ltT, n_ltF, n_leT, n_leF, n_eqT, n_eqF, tn_9, tn_12, tn_14, tn_20, tn_28, tn_44, tn_52, tn_68, tn_84, tn_100, tn_116, tn_132, fu_e, up_eq, ob_0, ob_b, oi_add, oi_sub, oi_mul, oi_neg, Int.add_zero, Int.zero_add, or_true, true_or, or_false, false_or, and_self, z_i2l, z_l2i, lo_nat, lo_add, lo_sub, lo_mul, lo_0, e_rem, NK_sh, NK_shn np, hs, oi_nat, mh_J7_copyOf_9075b]
  refine c_min ⟨by omega, by omega⟩ ⟨by omega, by omega⟩ ?_
  have em : (if (n : Int) ≤ (k : Int) then (n : Int) else (k : Int)) = n := if_pos (by omega)
  have eI : w_I (s_N (s_K w q) (3, k)) p = w_I w p := by rw [N_Ic, K_n, if_neg np, K_I]
  have eQ : w_I (s_N (s_K w q) (3, k)) (100 + q) = fun _ => 0 := by rw [N_Ic, K_n, if_pos rfl]
  have l1 : Nat.lt p 100 = False := eq_false (by show ¬ p < 100; omega)
  have l2 : Nat.le 100 p = True := eq_true h1.1
  simp (disch := omega) only [wp_c, wp_n, jj_n, v_ct, Int.reduceToNat, Int.toNat_natCast, stE, wlE, lgt, lpu, lpw, v_c2, va_s, true_and, and_true, Option.toList, List.nil_append, List.cons_append, List.take, List.drop, List.reverse, List.reverseAux, List.length_cons, List.length_nil, reduceCtorEq, false_implies, true_implies, forall_const, not_true_eq_false, not_false_eq_true, ite_true, ite_false, Bool.false_eq_true, I_I, J_J, Nat.add_left_cancel_iff, Nat.reduceEqDiff, Nat.add_eq_left, Nat.left_eq_add, false_and, and_false, Nat.reduceSub, Nat.sub_self, Nat.le_refl, Nat.zero_le, ge_iff_le, Nat.reduceAdd, Nat.reduceLeDiff, Nat.zero_add, Nat.reduceLT, z_lt, z_le, z_eq, z_l0, z_g0, z_le0, z_ge0, z_e0, z_e1, z_vp, z_nc, z_rem, z_div, i_ltT, i_ltF, i_leT, i_leF, i_eqT, i_eqF, n_ltT, n_ltF, n_leT, n_leF, n_eqT, n_eqF, tn_9, tn_12, tn_14, tn_20, tn_28, tn_44, tn_52, tn_68, tn_84, tn_100, tn_116, tn_132, fu_e, up_eq, ob_0, ob_b, oi_add, oi_sub, oi_mul, oi_neg, Int.add_zero, Int.zero_add, or_true, true_or, or_false, false_or, and_self, z_i2l, z_l2i, lo_nat, lo_add, lo_sub, lo_mul, lo_0, e_rem, em, NK_sh, NK_shn np, hs, hcn, hc0, eI, eQ, l1, l2, mr_J7_copyOf_9075b]
  exact ⟨fun i hi => hf i, hq q hq0⟩
theorem c_ensure {b a p : Nat} {l : List Int} {m : Int} {w : mW} {Q : mW → mO → Prop} (h : SBu w b a p l) (hb : 100 ≤ b) (hm : (l.length : Int) ≤ m ∧ m ≤ 400) (hq : ∀ w' p' n', SBu w' b a p' l → FB b w w' → w_sh w' p' = (3, n') → m ≤ (n' : Int) → n' ≤ 1000 → Q w' (.inl none)) : CT n_J5_ensureCapacityInternal_d00df [.ref a, .int (Int32.ofInt m)] w Q := by
  have h0 := h
  obtain ⟨⟨s1, s2, s3⟩, ⟨r1, r2, r3⟩, ⟨v1, v3⟩, ⟨n, hn, hn1, hn2⟩, hl, hc, hf⟩ := h
  have hap : ¬ a = p := sh_ne s1 hn
  refine ct_J5_ensureCapacityInternal_d00df (rt_J5_ensureCapacityInternal_d00df_0 ?_)
  simp (disch := omega) only [wp_c, wp_n, jj_n, v_ct, Int.reduceToNat, Int.toNat_natCast, stE, wlE, lgt, lpu, lpw, v_c2, va_s, true_and, and_true, Option.toList, List.nil_append, List.cons_append, List.take, List.drop, List.reverse, List.reverseAux, List.length_cons, List.length_nil, reduceCtorEq, false_implies, true_implies, forall_const, not_true_eq_false, not_false_eq_true, ite_true, ite_false, Bool.false_eq_true, I_I, J_J, Nat.add_left_cancel_iff, Nat.reduceEqDiff, Nat.add_eq_left, Nat.left_eq_add, false_and, and_false, Nat.reduceSub, Nat.sub_self, Nat.le_refl, Nat.zero_le, ge_iff_le, Nat.reduceAdd, Nat.reduceLeDiff, Nat.zero_add, Nat.reduceLT, z_lt, z_le, z_eq, z_l0, z_g0, z_le0, z_ge0, z_e0, z_e1, z_vp, z_nc, z_rem, z_div, i_ltT, i_ltF, i_leT, i_leF, i_eqT, i_eqF, n_ltT, n_ltF, n_leT, n_leF, n_eqT, n_eqF, tn_9, tn_12, tn_14, tn_20, tn_28, tn_44, tn_52, tn_68, tn_84, tn_100, tn_116, tn_132, fu_e, up_eq, ob_0, ob_b, oi_add, oi_sub, oi_mul, oi_neg, Int.add_zero, Int.zero_add, or_true, true_or, or_false, false_or, and_self, z_i2l, z_l2i, lo_nat, lo_add, lo_sub, lo_mul, lo_0, e_rem, s1, r1, hn, v1, sr0, oi_nat, mh_J5_ensureCapacityInternal_d00df]
  by_cases hg : (n : Int) < m
  · simp (disch := omega) only [wp_c, wp_n, jj_n, v_ct, Int.reduceToNat, Int.toNat_natCast, stE, wlE, lgt, lpu, lpw, v_c2, va_s, true_and, and_true, Option.toList, List.nil_append, List.cons_append, List.take, List.drop, List.reverse, List.reverseAux, List.length_cons, List.length_nil, reduceCtorEq, false_implies, true_implies, forall_const, not_true_eq_false, not_false_eq_true, ite_true, ite_false, Bool.false_eq_true, I_I, J_J, Nat.add_left_cancel_iff, Nat.reduceEqDiff, Nat.add_eq_left, Nat.left_eq_add, false_and, and_false, Nat.reduceSub, Nat.sub_self, Nat.le_refl, Nat.zero_le, ge_iff_le, Nat.reduceAdd, Nat.reduceLeDiff, Nat.zero_add, Nat.reduceLT, z_lt, z_le, z_eq, z_l0, z_g0, z_le0, z_ge0, z_e0, z_e1, z_vp, z_nc, z_rem, z_div, i_ltT, i_ltF, i_leT, i_leF, i_eqT, i_eqF, n_ltT, n_ltF, n_leT, n_leF, n_eqT, n_eqF, tn_9, tn_12, tn_14, tn_20, tn_28, tn_44, tn_52, tn_68, tn_84, tn_100, tn_116, tn_132, fu_e, up_eq, ob_0, ob_b, oi_add, oi_sub, oi_mul, oi_neg, Int.add_zero, Int.zero_add, or_true, true_or, or_false, false_or, and_self, z_i2l, z_l2i, lo_nat, lo_add, lo_sub, lo_mul, lo_0, e_rem]
    refine c_newCap h0 hn hn2 ⟨hg, hm.2⟩ ?_
    intro k hk hk2
    simp (disch := omega) only [wp_c, wp_n, jj_n, v_ct, Int.reduceToNat, Int.toNat_natCast, stE, wlE, lgt, lpu, lpw, v_c2, va_s, true_and, and_true, Option.toList, List.nil_append, List.cons_append, List.take, List.drop, List.reverse, List.reverseAux, List.length_cons, List.length_nil, reduceCtorEq, false_implies, true_implies, forall_const, not_true_eq_false, not_false_eq_true, ite_true, ite_false, Bool.false_eq_true, I_I, J_J, Nat.add_left_cancel_iff, Nat.reduceEqDiff, Nat.add_eq_left, Nat.left_eq_add, false_and, and_false, Nat.reduceSub, Nat.sub_self, Nat.le_refl, Nat.zero_le, ge_iff_le, Nat.reduceAdd, Nat.reduceLeDiff, Nat.zero_add, Nat.reduceLT, z_lt, z_le, z_eq, z_l0, z_g0, z_le0, z_ge0, z_e0, z_e1, z_vp, z_nc, z_rem, z_div, i_ltT, i_ltF, i_leT, i_leF, i_eqT, i_eqF, n_ltT, n_ltF, n_leT, n_leF, n_eqT, n_eqF, tn_9, tn_12, tn_14, tn_20, tn_28, tn_44, tn_52, tn_68, tn_84, tn_100, tn_116, tn_132, fu_e, up_eq, ob_0, ob_b, oi_add, oi_sub, oi_mul, oi_neg, Int.add_zero, Int.zero_add, or_true, true_or, or_false, false_or, and_self, z_i2l, z_l2i, lo_nat, lo_add, lo_sub, lo_mul, lo_0, e_rem, s1, v1, sl0, r1, mh_J5_ensureCapacityInternal_d00df]
    refine c_copyOf hn ⟨by omega, r3⟩ ⟨by omega, hk2⟩ hf ?_
    intro q hq0
    have na : ¬ a = 100 + q := by omega
    simp (disch := omega) only [wp_c, wp_n, jj_n, v_ct, Int.reduceToNat, Int.toNat_natCast, stE, wlE, lgt, lpu, lpw, v_c2, va_s, true_and, and_true, Option.toList, List.nil_append, List.cons_append, List.take, List.drop, List.reverse, List.reverseAux, List.length_cons, List.length_nil, reduceCtorEq, false_implies, true_implies, forall_const, not_true_eq_false, not_false_eq_true, ite_true, ite_false, Bool.false_eq_true, I_I, J_J, Nat.add_left_cancel_iff, Nat.reduceEqDiff, Nat.add_eq_left, Nat.left_eq_add, false_and, and_false, Nat.reduceSub, Nat.sub_self, Nat.le_refl, Nat.zero_le, ge_iff_le, Nat.reduceAdd, Nat.reduceLeDiff, Nat.zero_add, Nat.reduceLT, z_lt, z_le, z_eq, z_l0, z_g0, z_le0, z_ge0, z_e0, z_e1, z_vp, z_nc, z_rem, z_div, i_ltT, i_ltF, i_leT, i_leF, i_eqT, i_eqF, n_ltT, n_ltF, n_leT, n_leF, n_eqT, n_eqF, tn_9, tn_12, tn_14, tn_20, tn_28, tn_44, tn_52, tn_68, tn_84, tn_100, tn_116, tn_132, fu_e, up_eq, ob_0, ob_b, oi_add, oi_sub, oi_mul, oi_neg, Int.add_zero, Int.zero_add, or_true, true_or, or_false, false_or, and_self, z_i2l, z_l2i, lo_nat, lo_add, lo_sub, lo_mul, lo_0, e_rem, A_sh, NK_shn na, s1]
    refine rt_J5_ensureCapacityInternal_d00df_38 ?_
    simp only [wp_c, wp_n, jj_n, v_ct, Int.reduceToNat, Int.toNat_natCast, stE, wlE, lgt, lpu, lpw, v_c2, va_s, true_and, and_true, Option.toList, List.nil_append, List.cons_append, List.take, List.drop, List.reverse, List.reverseAux, List.length_cons, List.length_nil, reduceCtorEq, false_implies, true_implies, forall_const, not_true_eq_false, not_false_eq_true, ite_true, ite_false, Bool.false_eq_true, I_I, J_J, Nat.add_left_cancel_iff, Nat.reduceEqDiff, Nat.add_eq_left, Nat.left_eq_add, false_and, and_false, Nat.reduceSub, Nat.sub_self, Nat.le_refl, Nat.zero_le, ge_iff_le, Nat.reduceAdd, Nat.reduceLeDiff, Nat.zero_add, Nat.reduceLT, z_lt, z_le, z_eq, z_l0, z_g0, z_le0, z_ge0, z_e0, z_e1, z_vp, z_nc, z_rem, z_div, i_ltT, i_ltF, i_leT, i_leF, i_eqT, i_eqF, n_ltT, n_ltF, n_leT, n_leF, n_eqT, n_eqF, tn_9, tn_12, tn_14, tn_20, tn_28, tn_44, tn_52, tn_68, tn_84, tn_100, tn_116, tn_132, fu_e, up_eq, ob_0, ob_b, oi_add, oi_sub, oi_mul, oi_neg, Int.add_zero, Int.zero_add, or_true, true_or, or_false, false_or, and_self, z_i2l, z_l2i, lo_nat, lo_add, lo_sub, lo_mul, lo_0, e_rem]
    have hnn : w_n (s_R (s_A (s_N (s_K w q) (3, k)) (100 + q) (va_cpy (w_I w p) (fun _ => 0) 0 0 n)) a 0 (some (100 + q))) = q + 1 := rfl
    have nqa : ¬ 100 + q = a := by omega
    refine hq _ (100 + q) k ⟨⟨?_, s2, by omega⟩, ⟨?_, by omega, by omega⟩, ⟨?_, ?_⟩, ⟨k, ?_, by omega, hk2⟩, hl, fun i hi => ?_, fun i => ?_⟩ ((((FB.refl _ _).N hq0 (by omega)).A (UC.new (by omega) (by omega))).R ⟨s2, Or.inl fun z => z.1 s1⟩) ?_ hk hk2
    · rw [R_sh, A_sh, NK_shn na]; exact s1
    · rw [R_R, if_pos ⟨rfl, rfl⟩]
    · rw [R_Ic, A_I, if_neg na, N_Ic, K_n, if_neg na, K_I]; exact v1
    · rw [R_Ic, A_I, if_neg na, N_Ic, K_n, if_neg na, K_I]; exact v3
    · rw [R_sh, A_sh, NK_sh]
    · rw [R_Ic, A_I, if_pos rfl, cpy_g, if_pos (by omega), Nat.zero_add, Nat.sub_zero]; exact hc i hi
    · rw [R_Ic, A_I, if_pos rfl, cpy_g]
      split
      · exact hf _
      · decide
    · rw [R_sh, A_sh, NK_sh]
  · simp (disch := omega) only [wp_c, wp_n, jj_n, v_ct, Int.reduceToNat, Int.toNat_natCast, stE, wlE, lgt, lpu, lpw, v_c2, va_s, true_and, and_true, Option.toList, List.nil_append, List.cons_append, List.take, List.drop, List.reverse, List.reverseAux, List.length_cons, List.length_nil, reduceCtorEq, false_implies, true_implies, forall_const, not_true_eq_false, not_false_eq_true, ite_true, ite_false, Bool.false_eq_true, I_I, J_J, Nat.add_left_cancel_iff, Nat.reduceEqDiff, Nat.add_eq_left, Nat.left_eq_add, false_and, and_false, Nat.reduceSub, Nat.sub_self, Nat.le_refl, Nat.zero_le, ge_iff_le, Nat.reduceAdd, Nat.reduceLeDiff, Nat.zero_add, Nat.reduceLT, z_lt, z_le, z_eq, z_l0, z_g0, z_le0, z_ge0, z_e0, z_e1, z_vp, z_nc, z_rem, z_div, i_ltT, i_ltF, i_leT, i_leF, i_eqT, i_eqF, n_ltT, n_ltF, n_leT, n_leF, n_eqT, n_eqF, tn_9, tn_12, tn_14, tn_20, tn_28, tn_44, tn_52, tn_68, tn_84, tn_100, tn_116, tn_132, fu_e, up_eq, ob_0, ob_b, oi_add, oi_sub, oi_mul, oi_neg, Int.add_zero, Int.zero_add, or_true, true_or, or_false, false_or, and_self, z_i2l, z_l2i, lo_nat, lo_add, lo_sub, lo_mul, lo_0, e_rem]
    refine rt_J5_ensureCapacityInternal_d00df_38 ?_
    simp only [wp_c, wp_n, jj_n, v_ct, Int.reduceToNat, Int.toNat_natCast, stE, wlE, lgt, lpu, lpw, v_c2, va_s, true_and, and_true, Option.toList, List.nil_append, List.cons_append, List.take, List.drop, List.reverse, List.reverseAux, List.length_cons, List.length_nil, reduceCtorEq, false_implies, true_implies, forall_const, not_true_eq_false, not_false_eq_true, ite_true, ite_false, Bool.false_eq_true, I_I, J_J, Nat.add_left_cancel_iff, Nat.reduceEqDiff, Nat.add_eq_left, Nat.left_eq_add, false_and, and_false, Nat.reduceSub, Nat.sub_self, Nat.le_refl, Nat.zero_le, ge_iff_le, Nat.reduceAdd, Nat.reduceLeDiff, Nat.zero_add, Nat.reduceLT, z_lt, z_le, z_eq, z_l0, z_g0, z_le0, z_ge0, z_e0, z_e1, z_vp, z_nc, z_rem, z_div, i_ltT, i_ltF, i_leT, i_leF, i_eqT, i_eqF, n_ltT, n_ltF, n_leT, n_leF, n_eqT, n_eqF, tn_9, tn_12, tn_14, tn_20, tn_28, tn_44, tn_52, tn_68, tn_84, tn_100, tn_116, tn_132, fu_e, up_eq, ob_0, ob_b, oi_add, oi_sub, oi_mul, oi_neg, Int.add_zero, Int.zero_add, or_true, true_or, or_false, false_or, and_self, z_i2l, z_l2i, lo_nat, lo_add, lo_sub, lo_mul, lo_0, e_rem]
    exact hq w p n h0 (FB.refl _ _) hn (by omega) hn2
theorem c_lat5 {b a p : Nat} {l : List Int} {w : mW} {Q : mW → mO → Prop} (h : SBu w b a p l) (hq : Q w (.inl (some (.int (Int32.ofInt 1))))) : CT n_J5_isLatin1_aae02 [.ref a] w Q := by
  obtain ⟨⟨s1, s2, s3⟩, ⟨r1, r2, r3⟩, ⟨v1, v3⟩, -⟩ := h
  refine ct_J5_isLatin1_aae02 (rt_J5_isLatin1_aae02_0 ?_)
  simp (disch := omega) only [wp_c, wp_n, jj_n, v_ct, Int.reduceToNat, Int.toNat_natCast, stE, wlE, lgt, lpu, lpw, v_c2, va_s, true_and, and_true, Option.toList, List.nil_append, List.cons_append, List.take, List.drop, List.reverse, List.reverseAux, List.length_cons, List.length_nil, reduceCtorEq, false_implies, true_implies, forall_const, not_true_eq_false, not_false_eq_true, ite_true, ite_false, Bool.false_eq_true, I_I, J_J, Nat.add_left_cancel_iff, Nat.reduceEqDiff, Nat.add_eq_left, Nat.left_eq_add, false_and, and_false, Nat.reduceSub, Nat.sub_self, Nat.le_refl, Nat.zero_le, ge_iff_le, Nat.reduceAdd, Nat.reduceLeDiff, Nat.zero_add, Nat.reduceLT, z_lt, z_le, z_eq, z_l0, z_g0, z_le0, z_ge0, z_e0, z_e1, z_vp, z_nc, z_rem, z_div, i_ltT, i_ltF, i_leT, i_leF, i_eqT, i_eqF, n_ltT, n_ltF, n_leT, n_leF, n_eqT, n_eqF, tn_9, tn_12, tn_14, tn_20, tn_28, tn_44, tn_52, tn_68, tn_84, tn_100, tn_116, tn_132, fu_e, up_eq, ob_0, ob_b, oi_add, oi_sub, oi_mul, oi_neg, Int.add_zero, Int.zero_add, or_true, true_or, or_false, false_or, and_self, z_i2l, z_l2i, lo_nat, lo_add, lo_sub, lo_mul, lo_0, e_rem, s1, v1, i10]
  refine rt_J5_isLatin1_aae02_18 ?_
  simp (disch := omega) only [wp_c, wp_n, jj_n, v_ct, Int.reduceToNat, Int.toNat_natCast, stE, wlE, lgt, lpu, lpw, v_c2, va_s, true_and, and_true, Option.toList, List.nil_append, List.cons_append, List.take, List.drop, List.reverse, List.reverseAux, List.length_cons, List.length_nil, reduceCtorEq, false_implies, true_implies, forall_const, not_true_eq_false, not_false_eq_true, ite_true, ite_false, Bool.false_eq_true, I_I, J_J, Nat.add_left_cancel_iff, Nat.reduceEqDiff, Nat.add_eq_left, Nat.left_eq_add, false_and, and_false, Nat.reduceSub, Nat.sub_self, Nat.le_refl, Nat.zero_le, ge_iff_le, Nat.reduceAdd, Nat.reduceLeDiff, Nat.zero_add, Nat.reduceLT, z_lt, z_le, z_eq, z_l0, z_g0, z_le0, z_ge0, z_e0, z_e1, z_vp, z_nc, z_rem, z_div, i_ltT, i_ltF, i_leT, i_leF, i_eqT, i_eqF, n_ltT, n_ltF, n_leT, n_leF, n_eqT, n_eqF, tn_9, tn_12, tn_14, tn_20, tn_28, tn_44, tn_52, tn_68, tn_84, tn_100, tn_116, tn_132, fu_e, up_eq, ob_0, ob_b, oi_add, oi_sub, oi_mul, oi_neg, Int.add_zero, Int.zero_add, or_true, true_or, or_false, false_or, and_self, z_i2l, z_l2i, lo_nat, lo_add, lo_sub, lo_mul, lo_0, e_rem, mr_J5_isLatin1_aae02]
  first | exact hq | exact ⟨Or.inr rfl, hq⟩
theorem gD_ap (l : List Int) (c : Int) (i : Nat) : (l ++ [c]).getD i 0 = if i < l.length then l.getD i 0 else if i = l.length then c else 0 := getD_ap l c i
/-- a sign is appended -/
theorem c_apc {b a p : Nat} {l : List Int} {c : Int} {w : mW} {Q : mW → mO → Prop} (h : SBu w b a p l) (hb : 100 ≤ b) (hc0 : 0 ≤ c ∧ c ≤ 127) (hl : l.length + 1 ≤ 400) (hq : ∀ w' p', SBu w' b a p' (l ++ [c]) → FB b w w' → Q w' (.inl (some (.ref a)))) : CT n_J5_append_3fe6f [.ref a, .int (Int32.ofInt c)] w Q := by
  have h0 := h
  obtain ⟨⟨s1, s2, s3⟩, ⟨r1, r2, r3⟩, ⟨v1, v3⟩, -, hl0, -⟩ := h
  refine ct_J5_append_3fe6f (rt_J5_append_3fe6f_0 ?_)
  simp (disch := omega) only [wp_c, wp_n, jj_n, v_ct, Int.reduceToNat, Int.toNat_natCast, stE, wlE, lgt, lpu, lpw, v_c2, va_s, true_and, and_true, Option.toList, List.nil_append, List.cons_append, List.take, List.drop, List.reverse, List.reverseAux, List.length_cons, List.length_nil, reduceCtorEq, false_implies, true_implies, forall_const, not_true_eq_false, not_false_eq_true, ite_true, ite_false, Bool.false_eq_true, I_I, J_J, Nat.add_left_cancel_iff, Nat.reduceEqDiff, Nat.add_eq_left, Nat.left_eq_add, false_and, and_false, Nat.reduceSub, Nat.sub_self, Nat.le_refl, Nat.zero_le, ge_iff_le, Nat.reduceAdd, Nat.reduceLeDiff, Nat.zero_add, Nat.reduceLT, z_lt, z_le, z_eq, z_l0, z_g0, z_le0, z_ge0, z_e0, z_e1, z_vp, z_nc, z_rem, z_div, i_ltT, i_ltF, i_leT, i_leF, i_eqT, i_eqF, n_ltT, n_ltF, n_leT, n_leF, n_eqT, n_eqF, tn_9, tn_12, tn_14, tn_20, tn_28, tn_44, tn_52, tn_68, tn_84, tn_100, tn_116, tn_132, fu_e, up_eq, ob_0, ob_b, oi_add, oi_sub, oi_mul, oi_neg, Int.add_zero, Int.zero_add, or_true, true_or, or_false, false_or, and_self, z_i2l, z_l2i, lo_nat, lo_add, lo_sub, lo_mul, lo_0, e_rem, s1, v3, mh_J5_append_3fe6f]
  refine c_ensure h0 hb ⟨by omega, by omega⟩ ?_
  intro w1 p1 n1 k1 f1 hn1 hm1 hk1
  simp (disch := omega) only [wp_c, wp_n, jj_n, v_ct, Int.reduceToNat, Int.toNat_natCast, stE, wlE, lgt, lpu, lpw, v_c2, va_s, true_and, and_true, Option.toList, List.nil_append, List.cons_append, List.take, List.drop, List.reverse, List.reverseAux, List.length_cons, List.length_nil, reduceCtorEq, false_implies, true_implies, forall_const, not_true_eq_false, not_false_eq_true, ite_true, ite_false, Bool.false_eq_true, I_I, J_J, Nat.add_left_cancel_iff, Nat.reduceEqDiff, Nat.add_eq_left, Nat.left_eq_add, false_and, and_false, Nat.reduceSub, Nat.sub_self, Nat.le_refl, Nat.zero_le, ge_iff_le, Nat.reduceAdd, Nat.reduceLeDiff, Nat.zero_add, Nat.reduceLT, z_lt, z_le, z_eq, z_l0, z_g0, z_le0, z_ge0, z_e0, z_e1, z_vp, z_nc, z_rem, z_div, i_ltT, i_ltF, i_leT, i_leF, i_eqT, i_eqF, n_ltT, n_ltF, n_leT, n_leF, n_eqT, n_eqF, tn_9, tn_12, tn_14, tn_20, tn_28, tn_44, tn_52, tn_68, tn_84, tn_100, tn_116, tn_132, fu_e, up_eq, ob_0, ob_b, oi_add, oi_sub, oi_mul, oi_neg, Int.add_zero, Int.zero_add, or_true, true_or, or_false, false_or, and_self, z_i2l, z_l2i, lo_nat, lo_add, lo_sub, lo_mul, lo_0, e_rem, k1.1.1, mh_J5_append_3fe6f]
  refine c_lat5 k1 ?_
  have hcan : ∀ (Q : mW → mO → Prop) (w : mW), Q w (.inl (some (.int (Int32.ofInt 1)))) → CT n_J1_canEncode_fc78d [.int (Int32.ofInt c)] w Q := by
    intro Q w hq
    refine ct_J1_canEncode_fc78d (rt_J1_canEncode_fc78d_0 ?_)
    simp (disch := omega) only [wp_c, wp_n, jj_n, v_ct, Int.reduceToNat, Int.toNat_natCast, stE, wlE, lgt, lpu, lpw, v_c2, va_s, true_and, and_true, Option.toList, List.nil_append, List.cons_append, List.take, List.drop, List.reverse, List.reverseAux, List.length_cons, List.length_nil, reduceCtorEq, false_implies, true_implies, forall_const, not_true_eq_false, not_false_eq_true, ite_true, ite_false, Bool.false_eq_true, I_I, J_J, Nat.add_left_cancel_iff, Nat.reduceEqDiff, Nat.add_eq_left, Nat.left_eq_add, false_and, and_false, Nat.reduceSub, Nat.sub_self, Nat.le_refl, Nat.zero_le, ge_iff_le, Nat.reduceAdd, Nat.reduceLeDiff, Nat.zero_add, Nat.reduceLT, z_lt, z_le, z_eq, z_l0, z_g0, z_le0, z_ge0, z_e0, z_e1, z_vp, z_nc, z_rem, z_div, i_ltT, i_ltF, i_leT, i_leF, i_eqT, i_eqF, n_ltT, n_ltF, n_leT, n_leF, n_eqT, n_eqF, tn_9, tn_12, tn_14, tn_20, tn_28, tn_44, tn_52, tn_68, tn_84, tn_100, tn_116, tn_132, fu_e, up_eq, ob_0, ob_b, oi_add, oi_sub, oi_mul, oi_neg, Int.add_zero, Int.zero_add, or_true, true_or, or_false, false_or, and_self, z_i2l, z_l2i, lo_nat, lo_add, lo_sub, lo_mul, lo_0, e_rem]
    refine rt_J1_canEncode_fc78d_12 ?_
    simp (disch := omega) only [wp_c, wp_n, jj_n, v_ct, Int.reduceToNat, Int.toNat_natCast, stE, wlE, lgt, lpu, lpw, v_c2, va_s, true_and, and_true, Option.toList, List.nil_append, List.cons_append, List.take, List.drop, List.reverse, List.reverseAux, List.length_cons, List.length_nil, reduceCtorEq, false_implies, true_implies, forall_const, not_true_eq_false, not_false_eq_true, ite_true, ite_false, Bool.false_eq_true, I_I, J_J, Nat.add_left_cancel_iff, Nat.reduceEqDiff, Nat.add_eq_left, Nat.left_eq_add, false_and, and_false, Nat.reduceSub, Nat.sub_self, Nat.le_refl, Nat.zero_le, ge_iff_le, Nat.reduceAdd, Nat.reduceLeDiff, Nat.zero_add, Nat.reduceLT, z_lt, z_le, z_eq, z_l0, z_g0, z_le0, z_ge0, z_e0, z_e1, z_vp, z_nc, z_rem, z_div, i_ltT, i_ltF, i_leT, i_leF, i_eqT, i_eqF, n_ltT, n_ltF, n_leT, n_leF, n_eqT, n_eqF, tn_9, tn_12, tn_14, tn_20, tn_28, tn_44, tn_52, tn_68, tn_84, tn_100, tn_116, tn_132, fu_e, up_eq, ob_0, ob_b, oi_add, oi_sub, oi_mul, oi_neg, Int.add_zero, Int.zero_add, or_true, true_or, or_false, false_or, and_self, z_i2l, z_l2i, lo_nat, lo_add, lo_sub, lo_mul, lo_0, e_rem, mr_J1_canEncode_fc78d]
    first | exact hq | exact ⟨Or.inr rfl, hq⟩
  simp (disch := omega) only [wp_c, wp_n, jj_n, v_ct, Int.reduceToNat, Int.toNat_natCast, stE, wlE, lgt, lpu, lpw, v_c2, va_s, true_and, and_true, Option.toList, List.nil_append, List.cons_append, List.take, List.drop, List.reverse, List.reverseAux, List.length_cons, List.length_nil, reduceCtorEq, false_implies, true_implies, forall_const, not_true_eq_false, not_false_eq_true, ite_true, ite_false, Bool.false_eq_true, I_I, J_J, Nat.add_left_cancel_iff, Nat.reduceEqDiff, Nat.add_eq_left, Nat.left_eq_add, false_and, and_false, Nat.reduceSub, Nat.sub_self, Nat.le_refl, Nat.zero_le, ge_iff_le, Nat.reduceAdd, Nat.reduceLeDiff, Nat.zero_add, Nat.reduceLT, z_lt, z_le, z_eq, z_l0, z_g0, z_le0, z_ge0, z_e0, z_e1, z_vp, z_nc, z_rem, z_div, i_ltT, i_ltF, i_leT, i_leF, i_eqT, i_eqF, n_ltT, n_ltF, n_leT, n_leF, n_eqT, n_eqF, tn_9, tn_12, tn_14, tn_20, tn_28, tn_44, tn_52, tn_68, tn_84, tn_100, tn_116, tn_132, fu_e, up_eq, ob_0, ob_b, oi_add, oi_sub, oi_mul, oi_neg, Int.add_zero, Int.zero_add, or_true, true_or, or_false, false_or, and_self, z_i2l, z_l2i, lo_nat, lo_add, lo_sub, lo_mul, lo_0, e_rem, mh_J5_append_3fe6f]
  refine hcan _ _ ?_
  obtain ⟨⟨t1, t2, t3⟩, ⟨u1, u2, u3⟩, ⟨x1, x3⟩, ⟨n, hn, hn2, hn3⟩, hl1, hc1, hf1⟩ := k1
  have hap : ¬ a = p1 := sh_ne t1 hn
  have hpa : ¬ p1 = a := fun e => hap e.symm
  have enn : n1 = n := by rw [hn] at hn1; exact (congrArg Prod.snd hn1).symm
  have hb8 : (Int32.ofInt c).toInt8.toInt32 = Int32.ofInt c := by
    have h128 : (Int32.ofInt c).toInt8 = Int8.ofInt c := Int32.toInt8_ofInt
    rw [h128, ← Int32.toInt_inj, Int8.toInt_toInt32, oi_to ⟨by omega, by omega⟩, Int8.toInt_ofInt_of_le (by omega) (by omega)]
  have hnar : vp_nar .byte (Int32.ofInt c) = Int32.ofInt c := hb8
  simp (disch := omega) only [wp_c, wp_n, jj_n, v_ct, Int.reduceToNat, Int.toNat_natCast, stE, wlE, lgt, lpu, lpw, v_c2, va_s, true_and, and_true, Option.toList, List.nil_append, List.cons_append, List.take, List.drop, List.reverse, List.reverseAux, List.length_cons, List.length_nil, reduceCtorEq, false_implies, true_implies, forall_const, not_true_eq_false, not_false_eq_true, ite_true, ite_false, Bool.false_eq_true, I_I, J_J, Nat.add_left_cancel_iff, Nat.reduceEqDiff, Nat.add_eq_left, Nat.left_eq_add, false_and, and_false, Nat.reduceSub, Nat.sub_self, Nat.le_refl, Nat.zero_le, ge_iff_le, Nat.reduceAdd, Nat.reduceLeDiff, Nat.zero_add, Nat.reduceLT, z_lt, z_le, z_eq, z_l0, z_g0, z_le0, z_ge0, z_e0, z_e1, z_vp, z_nc, z_rem, z_div, i_ltT, i_ltF, i_leT, i_leF, i_eqT, i_eqF, n_ltT, n_ltF, n_leT, n_leF, n_eqT, n_eqF, tn_9, tn_12, tn_14, tn_20, tn_28, tn_44, tn_52, tn_68, tn_84, tn_100, tn_116, tn_132, fu_e, up_eq, ob_0, ob_b, oi_add, oi_sub, oi_mul, oi_neg, Int.add_zero, Int.zero_add, or_true, true_or, or_false, false_or, and_self, z_i2l, z_l2i, lo_nat, lo_add, lo_sub, lo_mul, lo_0, e_rem, t1, u1, x3, hn, hap, hpa, hb8, hnar]
  refine rt_J5_append_3fe6f_75 ?_
  simp (disch := omega) only [wp_c, wp_n, jj_n, v_ct, Int.reduceToNat, Int.toNat_natCast, stE, wlE, lgt, lpu, lpw, v_c2, va_s, true_and, and_true, Option.toList, List.nil_append, List.cons_append, List.take, List.drop, List.reverse, List.reverseAux, List.length_cons, List.length_nil, reduceCtorEq, false_implies, true_implies, forall_const, not_true_eq_false, not_false_eq_true, ite_true, ite_false, Bool.false_eq_true, I_I, J_J, Nat.add_left_cancel_iff, Nat.reduceEqDiff, Nat.add_eq_left, Nat.left_eq_add, false_and, and_false, Nat.reduceSub, Nat.sub_self, Nat.le_refl, Nat.zero_le, ge_iff_le, Nat.reduceAdd, Nat.reduceLeDiff, Nat.zero_add, Nat.reduceLT, z_lt, z_le, z_eq, z_l0, z_g0, z_le0, z_ge0, z_e0, z_e1, z_vp, z_nc, z_rem, z_div, i_ltT, i_ltF, i_leT, i_leF, i_eqT, i_eqF, n_ltT, n_ltF, n_leT, n_leF, n_eqT, n_eqF, tn_9, tn_12, tn_14, tn_20, tn_28, tn_44, tn_52, tn_68, tn_84, tn_100, tn_116, tn_132, fu_e, up_eq, ob_0, ob_b, oi_add, oi_sub, oi_mul, oi_neg, Int.add_zero, Int.zero_add, or_true, true_or, or_false, false_or, and_self, z_i2l, z_l2i, lo_nat, lo_add, lo_sub, lo_mul, lo_0, e_rem, mr_J5_append_3fe6f]
  refine hq _ p1 ⟨⟨t1, t2, t3⟩, ⟨u1, u2, u3⟩, ⟨?_, ?_⟩, ⟨n, hn, by rw [List.length_append]; simp only [List.length_cons, List.length_nil]; omega, hn3⟩, by rw [List.length_append]; simp only [List.length_cons, List.length_nil]; omega, fun i hi => ?_, fun i => ?_⟩ (f1.trans (((FB.refl _ _).I ⟨t2, Or.inl fun z => z.1 t1⟩).I ⟨u2, Or.inl fun z => z.2 (by rw [hn])⟩))
  · rw [I_I, if_neg (fun q => hap q.1), I_I, if_neg (by omega)]; exact x1
  · rw [I_I, if_neg (fun q => hap q.1), I_I, if_pos ⟨rfl, rfl⟩, List.length_append]; rfl
  · rw [List.length_append] at hi
    simp only [List.length_cons, List.length_nil] at hi
    rw [I_I, gD_ap]
    by_cases q : i = l.length
    · rw [if_pos ⟨rfl, q⟩, if_neg (by omega), if_pos q]; exact ⟨rfl, hc0⟩
    · rw [if_neg (fun z => q z.2), I_I, if_neg (fun z => hpa z.1), if_pos (by omega)]; exact hc1 i (by omega)
  · rw [I_I]
    split
    · exact fit_b hc0
    · rw [I_I, if_neg (fun z => hpa z.1)]; exact hf1 i
theorem c_apC {b a p : Nat} {l : List Int} {c : Int} {w : mW} {Q : mW → mO → Prop} (h : SBu w b a p l) (hb : 100 ≤ b) (hc0 : 0 ≤ c ∧ c ≤ 127) (hl : l.length + 1 ≤ 400) (hq : ∀ w' p', SBu w' b a p' (l ++ [c]) → FB b w w' → Q w' (.inl (some (.ref a)))) : CT n_J4_append_cf468 [.ref a, .int (Int32.ofInt c)] w Q := by
  refine ct_J4_append_cf468 (rt_J4_append_cf468_0 ?_)
  simp (disch := omega) only [wp_c, wp_n, jj_n, v_ct, Int.reduceToNat, Int.toNat_natCast, stE, wlE, lgt, lpu, lpw, v_c2, va_s, true_and, and_true, Option.toList, List.nil_append, List.cons_append, List.take, List.drop, List.reverse, List.reverseAux, List.length_cons, List.length_nil, reduceCtorEq, false_implies, true_implies, forall_const, not_true_eq_false, not_false_eq_true, ite_true, ite_false, Bool.false_eq_true, I_I, J_J, Nat.add_left_cancel_iff, Nat.reduceEqDiff, Nat.add_eq_left, Nat.left_eq_add, false_and, and_false, Nat.reduceSub, Nat.sub_self, Nat.le_refl, Nat.zero_le, ge_iff_le, Nat.reduceAdd, Nat.reduceLeDiff, Nat.zero_add, Nat.reduceLT, z_lt, z_le, z_eq, z_l0, z_g0, z_le0, z_ge0, z_e0, z_e1, z_vp, z_nc, z_rem, z_div, i_ltT, i_ltF, i_leT, i_leF, i_eqT, i_eqF, n_ltT, n_ltF, n_leT, n_leF, n_eqT, n_eqF, tn_9, tn_12, tn_14, tn_20, tn_28, tn_44, tn_52, tn_68, tn_84, tn_100, tn_116, tn_132, fu_e, up_eq, ob_0, ob_b, oi_add, oi_sub, oi_mul, oi_neg, Int.add_zero, Int.zero_add, or_true, true_or, or_false, false_or, and_self, z_i2l, z_l2i, lo_nat, lo_add, lo_sub, lo_mul, lo_0, e_rem, h.1.1, mh_J4_append_cf468]
  refine c_apc h hb hc0 hl ?_
  intro w1 p1 k1 f1
  simp (disch := omega) only [wp_c, wp_n, jj_n, v_ct, Int.reduceToNat, Int.toNat_natCast, stE, wlE, lgt, lpu, lpw, v_c2, va_s, true_and, and_true, Option.toList, List.nil_append, List.cons_append, List.take, List.drop, List.reverse, List.reverseAux, List.length_cons, List.length_nil, reduceCtorEq, false_implies, true_implies, forall_const, not_true_eq_false, not_false_eq_true, ite_true, ite_false, Bool.false_eq_true, I_I, J_J, Nat.add_left_cancel_iff, Nat.reduceEqDiff, Nat.add_eq_left, Nat.left_eq_add, false_and, and_false, Nat.reduceSub, Nat.sub_self, Nat.le_refl, Nat.zero_le, ge_iff_le, Nat.reduceAdd, Nat.reduceLeDiff, Nat.zero_add, Nat.reduceLT, z_lt, z_le, z_eq, z_l0, z_g0, z_le0, z_ge0, z_e0, z_e1, z_vp, z_nc, z_rem, z_div, i_ltT, i_ltF, i_leT, i_leF, i_eqT, i_eqF, n_ltT, n_ltF, n_leT, n_leF, n_eqT, n_eqF, tn_9, tn_12, tn_14, tn_20, tn_28, tn_44, tn_52, tn_68, tn_84, tn_100, tn_116, tn_132, fu_e, up_eq, ob_0, ob_b, oi_add, oi_sub, oi_mul, oi_neg, Int.add_zero, Int.zero_add, or_true, true_or, or_false, false_or, and_self, z_i2l, z_l2i, lo_nat, lo_add, lo_sub, lo_mul, lo_0, e_rem, mr_J4_append_cf468]
  exact hq w1 p1 k1 f1
