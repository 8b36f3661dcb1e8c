/-! the dividing mark and the counter's digits don't matter to the rest of a turn -/
def pa (A C : Row) : Row := fun j => if j = 8 ∨ (44 ≤ j ∧ j < 52) then C j else A j
theorem pa_k (A C : Row) {j : Nat} (h : ¬ (j = 8 ∨ (44 ≤ j ∧ j < 52))) : pa A C j = A j := if_neg h
theorem pa_up (A C : Row) {i : Nat} (v : Int) (h : ¬ (i = 8 ∨ (44 ≤ i ∧ i < 52))) : up (pa A C) i v = pa (up A i v) C := by
  funext j; simp only [up_eq, pa]
  by_cases e : j = i
  · rw [if_pos e, if_neg (by omega), if_pos e]
  · rw [if_neg e]
    by_cases q : j = 8 ∨ (44 ≤ j ∧ j < 52)
    · rw [if_pos q, if_pos q]
    · rw [if_neg q, if_neg q, if_neg e]
theorem pa_mv (A C : Row) (i : Nat) (m : Int) (hi : i < 16) : a_mv (pa A C) i m = pa (a_mv A i m) C := by
  unfold a_mv
  simp only
  rw [pa_k A C (j := 28 + i) (by omega), pa_k A C (j := 7) (by omega)]
  have e : (if A (28 + i) + A 7 * m < 0 ∨ 9 < A (28 + i) + A 7 * m then up (pa A C) (52 + i) 1 else pa A C) = pa (if A (28 + i) + A 7 * m < 0 ∨ 9 < A (28 + i) + A 7 * m then up A (52 + i) 1 else A) C := by
    split
    · exact pa_up _ _ _ (by omega)
    · rfl
  rw [e, pa_up _ _ _ (by omega)]
  rw [pa_k _ C (j := 84 + i) (by omega), pa_up _ _ _ (by omega), pa_k _ C (j := 100 + i) (by omega), pa_up _ _ _ (by omega)]
theorem pa_tal (A C : Row) (k : Nat) (hk : k < 3) : a_tal (pa A C) k = pa (a_tal A k) C := by
  unfold a_tal
  simp only
  rw [pa_k A C (j := 9 + k) (by omega), pa_up _ _ _ (by omega), pa_k _ C (j := 14 + k) (by omega), pa_up _ _ _ (by omega)]
theorem pa_pins (C : Row) : ∀ (n : Nat) (A : Row) (p : Nat), (p : Int) + n = A 0 → TI A → a_pins n (pa A C) p = (pa (a_pins n A p).1 C, (a_pins n A p).2) := by
  intro n
  induction n with
  | zero => intro A p _ _; rfl
  | succ n ih =>
    intro A p hn hI
    have h0 := hI.1
    rw [a_pins, a_pins, pa_k A C (j := 20 + p) (by omega), pa_k A C (j := 4) (by omega), pa_k A C (j := 68 + ((A 4).toNat + p)) (by omega)]
    split
    · exact ih A (p + 1) (by omega) hI
    · split
      · rw [pa_k A C (j := 17) (by omega), pa_up _ _ _ (by omega)]
      · have hp := hI.2.2.1 p (by omega)
        rw [pa_mv _ _ _ _ (by omega)]
        exact ih _ (p + 1) (by rw [mv_k _ _ _ _ (by omega) (by unfold kp; omega)]; omega) (hI.mv (by omega) (by omega))
theorem pa_lev (C : Row) : ∀ (n : Nat) (A : Row) (wh : Nat) (c l : Int32), (wh : Int) + n = A 1 → TI A → a_lev n (pa A C) wh c l = (pa (a_lev n A wh c l).1 C, (a_lev n A wh c l).2) := by
  intro n
  induction n with
  | zero => intro A wh c l _ _; rfl
  | succ n ih =>
    intro A wh c l hn hI
    have h0 := hI.1
    have tI : ∀ (B : Row) (k : Nat), k < 3 → TI B → TI (up (a_tal B k) (52 + wh) 0) := by
      intro B k hk hB
      refine TI.lev ?_ (by omega) (by omega)
      unfold a_tal
      exact (hB.up (by omega)).up (by omega)
    have tk : ∀ (B : Row) (k : Nat), k < 3 → up (a_tal B k) (52 + wh) 0 1 = B 1 := fun B k hk => by rw [up_eq, if_neg (by omega)]; exact tal_k _ _ _ hk (by unfold kp; omega)
    rw [a_lev, a_lev, pa_k A C (j := 52 + wh) (by omega), pa_k A C (j := 1) (by omega), pa_k A C (j := 68 + wh) (by omega), pa_k A C (j := 4) (by omega), pa_k A C (j := 0) (by omega), pa_k A C (j := 3) (by omega), pa_k A C (j := 68 + (wh + 1)) (by omega)]
    split
    · exact ih A (wh + 1) _ _ (by omega) hI
    · split
      · rw [pa_tal _ _ _ (by omega), pa_up _ _ _ (by omega)]
        exact ih _ (wh + 1) _ _ (by rw [tk _ _ (by omega)]; omega) (tI A 0 (by omega) hI)
      · split
        · rw [pa_tal _ _ _ (by omega), pa_up _ _ _ (by omega)]
          exact ih _ (wh + 1) _ _ (by rw [tk _ _ (by omega)]; omega) (tI A 2 (by omega) hI)
        · split
          · rw [pa_k A C (j := 17) (by omega), pa_up _ _ _ (by omega)]
          · have hi : wh + 1 < 16 := by omega
            rw [pa_mv _ _ _ _ hi, pa_tal _ _ _ (by omega), pa_up _ _ _ (by omega)]
            exact ih _ (wh + 1) _ _ (by rw [tk _ _ (by omega), mv_k _ _ _ _ hi (by unfold kp; omega)]; omega) (tI _ 1 (by omega) (hI.mv hi (by omega)))
theorem pa_num (A C : Row) (h : A 0 ≤ 8) : p_num (pa A C) = p_num A := by
  unfold p_num
  rw [pa_k A C (j := 0) (by omega)]
  exact hn_c _ _ (fun i hi => pa_k A C (by omega))
theorem pa_log (A C : Row) (x y z r : Int) : a_log (pa A C) x y z r = pa (a_log A x y z r) C := by
  unfold a_log
  simp only
  rw [pa_k A C (j := 18) (by omega)]
  have e : (if A 18 = 30 then up (fun j => if 132 ≤ j ∧ j < 248 then pa A C (j + 4) else pa A C j) 18 29 else pa A C) = pa (if A 18 = 30 then up (fun j => if 132 ≤ j ∧ j < 248 then A (j + 4) else A j) 18 29 else A) C := by
    split
    · rw [← pa_up _ _ _ (by omega)]
      congr 1
      funext j
      simp only [pa]
      by_cases h : 132 ≤ j ∧ j < 248
      · rw [if_pos h, if_neg (by omega), if_neg (by omega), if_pos h]
      · rw [if_neg h]; split
        · rfl
        · rfl
    · rfl
  rw [e]
  generalize (if A 18 = 30 then up (fun j => if 132 ≤ j ∧ j < 248 then A (j + 4) else A j) 18 29 else A) = B
  rw [pa_k B C (j := 18) (by omega), pa_up _ _ _ (by omega), pa_up _ _ _ (by omega), pa_up _ _ _ (by omega), pa_up _ _ _ (by omega), pa_up _ _ _ (by omega)]
theorem pa_cnt (A C : Row) (n wh : Nat) (w1 w2 : Int) (h : 44 + wh + n ≤ 52 ∨ n = 0) : a_cnt n (pa A C) wh w1 = pa (a_cnt n A wh w2) (a_cnt n (pa A C) wh w1) := by
  funext j
  by_cases e : j = 8 ∨ (44 ≤ j ∧ j < 52)
  · exact (if_pos e).symm
  · rw [pa_k _ _ e, cnt_s _ _ _ _ _ (by omega), cnt_s _ _ _ _ _ (by omega), pa_k _ _ e]
theorem pa_endC (A C : Row) (hI : TI A) : ∃ C', a_endC (pa A C) = pa (a_endC A) C' := by
  have h0 := hI.1
  unfold a_endC
  simp only
  rw [pa_k A C (j := 2) (by omega), pa_k A C (j := 4) (by omega), pa_k A C (j := 7) (by omega), pa_k A C (j := 9) (by omega), pa_num A C (by omega)]
  have e := pa_cnt A C (A 2 - A 4).toNat (A 4).toNat (if 0 < pa A C 8 then -A 7 else A 7) (if 0 < A 8 then -A 7 else A 7) (by omega)
  generalize a_cnt (A 2 - A 4).toNat (pa A C) (A 4).toNat (if 0 < pa A C 8 then -A 7 else A 7) = B1 at e ⊢
  generalize a_cnt (A 2 - A 4).toNat A (A 4).toNat (if 0 < A 8 then -A 7 else A 7) = B2 at e ⊢
  obtain ⟨D, hD⟩ : ∃ D, B1 = pa B2 D := ⟨B1, e⟩
  clear e
  subst hD
  refine ⟨D, ?_⟩
  rw [pa_k B2 D (j := 12) (by omega), pa_up _ _ _ (by omega)]
  split
  · rw [pa_k _ D (j := 13) (by omega), pa_up _ _ _ (by omega), pa_log]
  · rw [pa_log]
theorem pa_owe (C : Row) : ∀ (n : Nat) (A : Row) (wh : Nat) (o : Int), A 0 ≤ 8 → a_owe n (pa A C) wh o = pa (a_owe n A wh o) C := by
  intro n
  induction n with
  | zero => intro A wh o _; rfl
  | succ n ih =>
    intro A wh o h0
    have ep : ∀ i, p_at (pa A C) i = p_at A i := by
      intro i
      unfold p_at
      rw [pa_k A C (j := 0) (by omega)]
      split
      · exact pa_k A C (by omega)
      · rfl
    rw [a_owe, a_owe]
    rw [pa_k A C (j := 116 + wh) (by omega), pa_k A C (j := 7) (by omega), pa_k A C (j := 4) (by omega), ep, pa_up _ _ _ (by omega)]
    exact ih _ _ _ (by rw [up_eq, if_neg (by omega)]; exact h0)
theorem pa_lv {A B C : Row} {wh : Nat} {c l : Int32} (hB : TI B) (e1 : B 1 = A 1) (hw : (wh : Int) ≤ A 1) : ∃ C', (match a_lev ((A 1).toNat - wh) (pa B C) wh c l with | (B', none, l') => (a_endC B', (none : Option (Nat × Nat)), l') | (B', some k, l') => (B', some (1, k), l')) = (pa (match a_lev ((A 1).toNat - wh) B wh c l with | (B', none, l') => (a_endC B', (none : Option (Nat × Nat)), l') | (B', some k, l') => (B', some (1, k), l')).1 C', (match a_lev ((A 1).toNat - wh) B wh c l with | (B', none, l') => (a_endC B', (none : Option (Nat × Nat)), l') | (B', some k, l') => (B', some (1, k), l')).2) := by
  have h0 := hB.1
  rw [pa_lev C _ B wh c l (by omega) hB]
  have hT := lev_TI ((A 1).toNat - wh) B wh c l (by omega) hB
  generalize a_lev ((A 1).toNat - wh) B wh c l = z at hT ⊢
  obtain ⟨B', ok, l'⟩ := z
  cases ok with
  | none =>
    obtain ⟨C', hC'⟩ := pa_endC B' C hT
    exact ⟨C', by simp only; rw [hC']⟩
  | some k => exact ⟨C, rfl⟩
theorem pa_go (A C : Row) (c l : Int32) (hI : TI A) : ∃ C', a_go (pa A C) 0 0 c l = (pa (a_go A 0 0 c l).1 C', (a_go A 0 0 c l).2) := by
  have h0 := hI.1
  unfold a_go
  simp only
  rw [if_pos trivial, if_pos trivial, pa_k A C (j := 0) (by omega), pa_k A C (j := 1) (by omega), pa_k A C (j := 4) (by omega), pa_pins C _ A 0 (by omega) hI]
  have kI : ∀ j, kp j → (a_pins ((A 0).toNat - 0) A 0).1 j = A j ∧ TI (a_pins ((A 0).toNat - 0) A 0).1 := fun j hj => pins_k _ A 0 j (by omega) hI hj
  generalize a_pins ((A 0).toNat - 0) A 0 = z at kI ⊢
  obtain ⟨B, ok⟩ := z
  cases ok with
  | some k => exact ⟨C, rfl⟩
  | none =>
    simp only
    exact pa_lv (A := A) (kI 0 (by unfold kp; omega)).2 (kI 1 (by unfold kp; omega)).1 (by omega)
theorem pa_one (A C : Row) (way : Int) (hJ : TJ A) (hw : way = 1 ∨ way = -1) : ∃ C', a_one (pa A C) way = (pa (a_one A way).1 C', (a_one A way).2) := by
  have eb : a_beg (pa A C) way = pa (a_beg A way) C := by
    unfold a_beg
    have ez : ∀ B : Row, zr (pa B C) 16 = pa (zr B 16) C := by
      intro B
      funext j
      simp only [zr, pa]
      by_cases h : (52 ≤ j ∧ j < 52 + 16) ∨ (84 ≤ j ∧ j < 84 + 16)
      · rw [if_pos h, if_neg (by omega), if_pos h]
      · rw [if_neg h]; split
        · rfl
        · rfl
    rw [pa_up _ _ _ (by omega), pa_up _ _ _ (by omega), pa_up _ _ _ (by omega), ez, pa_up _ _ _ (by omega)]
  unfold a_one
  rw [eb]
  exact pa_go _ _ _ _ (beg_TI hJ.1 hw)
theorem pa_fin (A C : Row) (r : Option (Nat × Nat) × Int32) (h : A 0 ≤ 8) : a_fin (pa A C, r) = pa (a_fin (A, r)) C := by
  obtain ⟨ok, l⟩ := r
  cases ok with
  | none =>
    simp only [a_fin]
    rw [pa_k A C (j := 1) (by omega), pa_k A C (j := 4) (by omega), pa_owe C _ A _ _ h, pa_up _ _ _ (by omega)]
  | some x =>
    obtain ⟨p, k⟩ := x
    simp only [a_fin]
    rw [pa_up _ _ _ (by omega), pa_up _ _ _ (by omega)]
theorem pa_f1 (A C : Row) (way : Int) (hJ : TJ A) (hw : way = 1 ∨ way = -1) (h18 : 0 ≤ A 18) : ∃ C', a_fin (a_one (pa A C) way) = pa (a_fin (a_one A way)) C' ∧ (a_one (pa A C) way).2 = (a_one A way).2 := by
  obtain ⟨C', h⟩ := pa_one A C way hJ hw
  have hI := beg_TI (way := way) hJ.1 hw
  have h0 := hI.1
  obtain ⟨k1, k2, -⟩ := go_k (A := a_beg A way) (part := 0) (pl := 0) (c := Int32.ofInt 0) (l := Int32.ofInt 0) hI (Or.inl ⟨rfl, by omega⟩) (by rw [beg_k _ _ _ (by omega)]; exact h18)
  have e0 : (a_one A way).1 0 ≤ 8 := by
    have := k1 0 (by unfold kg; omega)
    show (a_go (a_beg A way) 0 0 (Int32.ofInt 0) (Int32.ofInt 0)).1 0 ≤ 8
    omega
  refine ⟨C', ?_, by rw [h]⟩
  rw [h]
  exact pa_fin _ _ _ e0
theorem pa_many {way : Int} (hw : way = 1 ∨ way = -1) : ∀ (n : Nat) (A C : Row), RI A → ∃ C', a_many n (pa A C) way = (pa (a_many n A way).1 C', (a_many n A way).2) := by
  intro n
  induction n with
  | zero => intro A C _; exact ⟨C, rfl⟩
  | succ n ih =>
    intro A C h
    obtain ⟨C1, h1, h2⟩ := pa_f1 A C way h.1 hw h.2.2.1
    rw [a_many, a_many, h1, h2]
    cases ho : (a_one A way).2.1 with
    | none =>
      simp only
      obtain ⟨C2, h3⟩ := ih (a_fin (a_one A way)) C1 (one_RI h hw)
      rw [h3]
      exact ⟨C2, rfl⟩
    | some x => exact ⟨C1, rfl⟩
theorem pa_8 (A : Row) (v : Int) : up A 8 v = pa A (up A 8 v) := by
  funext j
  simp only [pa]
  split
  · rfl
  · rw [up_eq, if_neg (by omega)]
theorem pa_rn (A C : Row) (h : A 1 ≤ 16) : r_num (pa A C) = r_num A := by
  unfold r_num
  rw [pa_k A C (j := 1) (by omega)]
  exact hn_c _ _ (fun i hi => pa_k A C (by omega))
theorem pa_mct (A C : Row) : ∀ n, m_ct (pa A C) n = m_ct A n := by
  intro n
  induction n with
  | zero => rfl
  | succ n ih => rw [m_ct, m_ct, ih, pa_k A C (by omega)]
theorem rn_many {way : Int} (hw : way = 1 ∨ way = -1) (n : Nat) (A : Row) (h : RI A) : r_num (a_many n (up A 8 0) way).1 = r_num (a_many n A way).1 := by
  obtain ⟨C', e⟩ := pa_many hw n A (up A 8 0) h
  rw [← pa_8] at e
  rw [e]
  exact pa_rn _ _ (TJ_sz (many_RI hw n A h).1.1).2.2.2.1
theorem mc_one {way : Int} (hw : way = 1 ∨ way = -1) (A : Row) (h : RI A) : m_ct (a_fin (a_one (up A 8 0) way)) 16 = m_ct (a_fin (a_one A way)) 16 ∧ (a_one (up A 8 0) way).2 = (a_one A way).2 := by
  obtain ⟨C1, h1, h2⟩ := pa_f1 A (up A 8 0) way h.1 hw h.2.2.1
  rw [← pa_8] at h1 h2
  exact ⟨by rw [h1]; exact pa_mct _ _ 16, h2⟩
theorem tb_pa {way : Int} (hw : way = 1 ∨ way = -1) : ∀ (n k : Nat) (A C : Row), RI A → tb way n k (pa A C) = tb way n k A := by
  intro n
  induction n with
  | zero => intro k A C _; rfl
  | succ n ih =>
    intro k A C h
    obtain ⟨C1, h1, h2⟩ := pa_f1 A C way h.1 hw h.2.2.1
    rw [tb, tb, h1, h2, pa_k _ C1 (j := 9) (by omega)]
    cases ho : (a_one A way).2.1 with
    | some x => rfl
    | none =>
      simp only
      split
      · rfl
      · exact ih _ _ _ (one_RI h hw)
theorem tb_8 {way : Int} (hw : way = 1 ∨ way = -1) (n k : Nat) (A : Row) (h : RI A) : tb way n k (up A 8 0) = tb way n k A := by
  have := tb_pa hw n k A (up A 8 0) h
  rwa [← pa_8] at this
/-! the class's predictions -/
def o1 (r : Row × Option (Nat × Nat) × Int32) : Int := match r.2.1 with | none => 1 | some _ => 0
theorem c_crank1 {b : Nat} {way : Int} {A : Row} {w : mW} {Q : mW → mO → Prop} (hw : way = 1 ∨ way = -1) (hS : MS w b A) (hG : RI A) (h5 : A 5 = 0) (hq : ∀ w', MS w' b (a_fin (a_one (up A 8 0) way)) → FrM b w w' → w_I w' (b + 9) 9 = (a_one (up A 8 0) way).2.2 → Q w' (.inl (some (.int (Int32.ofInt (o1 (a_one (up A 8 0) way))))))) : CT n_X2_crankTimes [.ref b, .int (Int32.ofInt way)] w Q := by
  have hS8 : MS w b (up A 8 0) := hS.up8 h5
  have hJ8 := hG.1.up8 (v := 0)
  have h58 : up A 8 0 5 = 0 := by rw [up_eq, if_neg (by omega)]; exact h5
  have h88 : up A 8 0 8 = 0 := by rw [up_eq, if_pos rfl]
  have s0 := hS.1.1.1
  have s9 := hS.1.1.2.2.2.2.2.2.2.2.2.1
  have r13 := hS.1.2.2.2.2.2.2.2.2.1
  have h24 : ∀ x : Int32, RT n_X2_crankTimes 24 [.ref b, .int x, .int (Int32.ofInt way), .int (Int32.ofInt 1), .int (Int32.ofInt 0)] [] w (0, 0, false) Q := by
    intro x
    refine rt_X2_crankTimes_24 ?_
    simp (disch := omega) only [wp_c, wp_n, jj_n, v_ct, Int.reduceToNat, Int.toNat_natCast, stE, wlE, lgt, lpu, lpw, v_c2, va_s, true_and, and_true, Option.toList, List.nil_append, List.cons_append, List.take, List.drop, List.reverse, List.reverseAux, List.length_cons, List.length_nil, reduceCtorEq, false_implies, true_implies, forall_const, not_true_eq_false, not_false_eq_true, ite_true, ite_false, Bool.false_eq_true, I_I, J_J, Nat.add_left_cancel_iff, Nat.reduceEqDiff, Nat.add_eq_left, Nat.left_eq_add, false_and, and_false, Nat.reduceSub, Nat.sub_self, Nat.le_refl, Nat.zero_le, ge_iff_le, Nat.reduceAdd, Nat.reduceLeDiff, Nat.zero_add, Nat.reduceLT, z_lt, z_le, z_eq, z_l0, z_g0, z_le0, z_ge0, z_e0, z_e1, z_vp, z_nc, z_rem, z_div, i_ltT, i_ltF, i_leT, i_leF, i_eqT, i_eqF, n_ltT, n_ltF, n_leT, n_leF, n_eqT, n_eqF, tn_9, tn_12, tn_14, tn_20, tn_28, tn_44, tn_52, tn_68, tn_84, tn_100, tn_116, tn_132, fu_e, up_eq, ob_0, ob_b, oi_add, oi_sub, oi_mul, oi_neg, Int.add_zero, Int.zero_add, or_true, true_or, or_false, false_or, and_self, z_i2l, z_l2i, lo_nat, lo_add, lo_sub, lo_mul, lo_0, e_rem, mr_X2_crankTimes, mh_X2_crankTimes, s0, s9, r13]
    refine c_begin (dv := 0) hS8.1 hS8.2.1 (Or.inl rfl) fun w1 g1 g2 g3 => ?_
    simp (disch := omega) only [wp_c, wp_n, jj_n, v_ct, Int.reduceToNat, Int.toNat_natCast, stE, wlE, lgt, lpu, lpw, v_c2, va_s, true_and, and_true, Option.toList, List.nil_append, List.cons_append, List.take, List.drop, List.reverse, List.reverseAux, List.length_cons, List.length_nil, reduceCtorEq, false_implies, true_implies, forall_const, not_true_eq_false, not_false_eq_true, ite_true, ite_false, Bool.false_eq_true, I_I, J_J, Nat.add_left_cancel_iff, Nat.reduceEqDiff, Nat.add_eq_left, Nat.left_eq_add, false_and, and_false, Nat.reduceSub, Nat.sub_self, Nat.le_refl, Nat.zero_le, ge_iff_le, Nat.reduceAdd, Nat.reduceLeDiff, Nat.zero_add, Nat.reduceLT, z_lt, z_le, z_eq, z_l0, z_g0, z_le0, z_ge0, z_e0, z_e1, z_vp, z_nc, z_rem, z_div, i_ltT, i_ltF, i_leT, i_leF, i_eqT, i_eqF, n_ltT, n_ltF, n_leT, n_leF, n_eqT, n_eqF, tn_9, tn_12, tn_14, tn_20, tn_28, tn_44, tn_52, tn_68, tn_84, tn_100, tn_116, tn_132, fu_e, up_eq, ob_0, ob_b, oi_add, oi_sub, oi_mul, oi_neg, Int.add_zero, Int.zero_add, or_true, true_or, or_false, false_or, and_self, z_i2l, z_l2i, lo_nat, lo_add, lo_sub, lo_mul, lo_0, e_rem, mr_X2_crankTimes, mh_X2_crankTimes, g3.1, s0]
    refine c_one hS8 hJ8 h58 (Or.inl h88) hw g1 (by rw [h88]; exact g2) g3 fun w2 k1 k2 k3 => ?_
    have hq := hq w2 k1 k2 k3
    unfold o1 at hq
    cases ho : (a_one (up A 8 0) way).2.1 with
    | none =>
      rw [ho] at hq
      simp (disch := omega) only [wp_c, wp_n, jj_n, v_ct, Int.reduceToNat, Int.toNat_natCast, stE, wlE, lgt, lpu, lpw, v_c2, va_s, true_and, and_true, Option.toList, List.nil_append, List.cons_append, List.take, List.drop, List.reverse, List.reverseAux, List.length_cons, List.length_nil, reduceCtorEq, false_implies, true_implies, forall_const, not_true_eq_false, not_false_eq_true, ite_true, ite_false, Bool.false_eq_true, I_I, J_J, Nat.add_left_cancel_iff, Nat.reduceEqDiff, Nat.add_eq_left, Nat.left_eq_add, false_and, and_false, Nat.reduceSub, Nat.sub_self, Nat.le_refl, Nat.zero_le, ge_iff_le, Nat.reduceAdd, Nat.reduceLeDiff, Nat.zero_add, Nat.reduceLT, z_lt, z_le, z_eq, z_l0, z_g0, z_le0, z_ge0, z_e0, z_e1, z_vp, z_nc, z_rem, z_div, i_ltT, i_ltF, i_leT, i_leF, i_eqT, i_eqF, n_ltT, n_ltF, n_leT, n_leF, n_eqT, n_eqF, tn_9, tn_12, tn_14, tn_20, tn_28, tn_44, tn_52, tn_68, tn_84, tn_100, tn_116, tn_132, fu_e, up_eq, ob_0, ob_b, oi_add, oi_sub, oi_mul, oi_neg, Int.add_zero, Int.zero_add, or_true, true_or, or_false, false_or, and_self, z_i2l, z_l2i, lo_nat, lo_add, lo_sub, lo_mul, lo_0, e_rem, mr_X2_crankTimes, mh_X2_crankTimes, s0]
      refine rt_X2_crankTimes_49 ?_
      simp (disch := omega) only [wp_c, wp_n, jj_n, v_ct, Int.reduceToNat, Int.toNat_natCast, stE, wlE, lgt, lpu, lpw, v_c2, va_s, true_and, and_true, Option.toList, List.nil_append, List.cons_append, List.take, List.drop, List.reverse, List.reverseAux, List.length_cons, List.length_nil, reduceCtorEq, false_implies, true_implies, forall_const, not_true_eq_false, not_false_eq_true, ite_true, ite_false, Bool.false_eq_true, I_I, J_J, Nat.add_left_cancel_iff, Nat.reduceEqDiff, Nat.add_eq_left, Nat.left_eq_add, false_and, and_false, Nat.reduceSub, Nat.sub_self, Nat.le_refl, Nat.zero_le, ge_iff_le, Nat.reduceAdd, Nat.reduceLeDiff, Nat.zero_add, Nat.reduceLT, z_lt, z_le, z_eq, z_l0, z_g0, z_le0, z_ge0, z_e0, z_e1, z_vp, z_nc, z_rem, z_div, i_ltT, i_ltF, i_leT, i_leF, i_eqT, i_eqF, n_ltT, n_ltF, n_leT, n_leF, n_eqT, n_eqF, tn_9, tn_12, tn_14, tn_20, tn_28, tn_44, tn_52, tn_68, tn_84, tn_100, tn_116, tn_132, fu_e, up_eq, ob_0, ob_b, oi_add, oi_sub, oi_mul, oi_neg, Int.add_zero, Int.zero_add, or_true, true_or, or_false, false_or, and_self, z_i2l, z_l2i, lo_nat, lo_add, lo_sub, lo_mul, lo_0, e_rem, mr_X2_crankTimes, mh_X2_crankTimes, s0]
      refine rt_X2_crankTimes_24 ?_
      simp (disch := omega) only [wp_c, wp_n, jj_n, v_ct, Int.reduceToNat, Int.toNat_natCast, stE, wlE, lgt, lpu, lpw, v_c2, va_s, true_and, and_true, Option.toList, List.nil_append, List.cons_append, List.take, List.drop, List.reverse, List.reverseAux, List.length_cons, List.length_nil, reduceCtorEq, false_implies, true_implies, forall_const, not_true_eq_false, not_false_eq_true, ite_true, ite_false, Bool.false_eq_true, I_I, J_J, Nat.add_left_cancel_iff, Nat.reduceEqDiff, Nat.add_eq_left, Nat.left_eq_add, false_and, and_false, Nat.reduceSub, Nat.sub_self, Nat.le_refl, Nat.zero_le, ge_iff_le, Nat.reduceAdd, Nat.reduceLeDiff, Nat.zero_add, Nat.reduceLT, z_lt, z_le, z_eq, z_l0, z_g0, z_le0, z_ge0, z_e0, z_e1, z_vp, z_nc, z_rem, z_div, i_ltT, i_ltF, i_leT, i_leF, i_eqT, i_eqF, n_ltT, n_ltF, n_leT, n_leF, n_eqT, n_eqF, tn_9, tn_12, tn_14, tn_20, tn_28, tn_44, tn_52, tn_68, tn_84, tn_100, tn_116, tn_132, fu_e, up_eq, ob_0, ob_b, oi_add, oi_sub, oi_mul, oi_neg, Int.add_zero, Int.zero_add, or_true, true_or, or_false, false_or, and_self, z_i2l, z_l2i, lo_nat, lo_add, lo_sub, lo_mul, lo_0, e_rem, mr_X2_crankTimes, mh_X2_crankTimes, s0]
      refine rt_X2_crankTimes_55 ?_
      simp (disch := omega) only [wp_c, wp_n, jj_n, v_ct, Int.reduceToNat, Int.toNat_natCast, stE, wlE, lgt, lpu, lpw, v_c2, va_s, true_and, and_true, Option.toList, List.nil_append, List.cons_append, List.take, List.drop, List.reverse, List.reverseAux, List.length_cons, List.length_nil, reduceCtorEq, false_implies, true_implies, forall_const, not_true_eq_false, not_false_eq_true, ite_true, ite_false, Bool.false_eq_true, I_I, J_J, Nat.add_left_cancel_iff, Nat.reduceEqDiff, Nat.add_eq_left, Nat.left_eq_add, false_and, and_false, Nat.reduceSub, Nat.sub_self, Nat.le_refl, Nat.zero_le, ge_iff_le, Nat.reduceAdd, Nat.reduceLeDiff, Nat.zero_add, Nat.reduceLT, z_lt, z_le, z_eq, z_l0, z_g0, z_le0, z_ge0, z_e0, z_e1, z_vp, z_nc, z_rem, z_div, i_ltT, i_ltF, i_leT, i_leF, i_eqT, i_eqF, n_ltT, n_ltF, n_leT, n_leF, n_eqT, n_eqF, tn_9, tn_12, tn_14, tn_20, tn_28, tn_44, tn_52, tn_68, tn_84, tn_100, tn_116, tn_132, fu_e, up_eq, ob_0, ob_b, oi_add, oi_sub, oi_mul, oi_neg, Int.add_zero, Int.zero_add, or_true, true_or, or_false, false_or, and_self, z_i2l, z_l2i, lo_nat, lo_add, lo_sub, lo_mul, lo_0, e_rem, mr_X2_crankTimes, mh_X2_crankTimes, s0]
      exact hq
    | some y =>
      rw [ho] at hq
      simp (disch := omega) only [wp_c, wp_n, jj_n, v_ct, Int.reduceToNat, Int.toNat_natCast, stE, wlE, lgt, lpu, lpw, v_c2, va_s, true_and, and_true, Option.toList, List.nil_append, List.cons_append, List.take, List.drop, List.reverse, List.reverseAux, List.length_cons, List.length_nil, reduceCtorEq, false_implies, true_implies, forall_const, not_true_eq_false, not_false_eq_true, ite_true, ite_false, Bool.false_eq_true, I_I, J_J, Nat.add_left_cancel_iff, Nat.reduceEqDiff, Nat.add_eq_left, Nat.left_eq_add, false_and, and_false, Nat.reduceSub, Nat.sub_self, Nat.le_refl, Nat.zero_le, ge_iff_le, Nat.reduceAdd, Nat.reduceLeDiff, Nat.zero_add, Nat.reduceLT, z_lt, z_le, z_eq, z_l0, z_g0, z_le0, z_ge0, z_e0, z_e1, z_vp, z_nc, z_rem, z_div, i_ltT, i_ltF, i_leT, i_leF, i_eqT, i_eqF, n_ltT, n_ltF, n_leT, n_leF, n_eqT, n_eqF, tn_9, tn_12, tn_14, tn_20, tn_28, tn_44, tn_52, tn_68, tn_84, tn_100, tn_116, tn_132, fu_e, up_eq, ob_0, ob_b, oi_add, oi_sub, oi_mul, oi_neg, Int.add_zero, Int.zero_add, or_true, true_or, or_false, false_or, and_self, z_i2l, z_l2i, lo_nat, lo_add, lo_sub, lo_mul, lo_0, e_rem, mr_X2_crankTimes, mh_X2_crankTimes, s0]
      exact hq
  refine ct_X2_crankTimes (rt_X2_crankTimes_0 ?_)
  rcases hw with rfl | rfl
  · simp (disch := omega) only [wp_c, wp_n, jj_n, v_ct, Int.reduceToNat, Int.toNat_natCast, stE, wlE, lgt, lpu, lpw, v_c2, va_s, true_and, and_true, Option.toList, List.nil_append, List.cons_append, List.take, List.drop, List.reverse, List.reverseAux, List.length_cons, List.length_nil, reduceCtorEq, false_implies, true_implies, forall_const, not_true_eq_false, not_false_eq_true, ite_true, ite_false, Bool.false_eq_true, I_I, J_J, Nat.add_left_cancel_iff, Nat.reduceEqDiff, Nat.add_eq_left, Nat.left_eq_add, false_and, and_false, Nat.reduceSub, Nat.sub_self, Nat.le_refl, Nat.zero_le, ge_iff_le, Nat.reduceAdd, Nat.reduceLeDiff, Nat.zero_add, Nat.reduceLT, z_lt, z_le, z_eq, z_l0, z_g0, z_le0, z_ge0, z_e0, z_e1, z_vp, z_nc, z_rem, z_div, i_ltT, i_ltF, i_leT, i_leF, i_eqT, i_eqF, n_ltT, n_ltF, n_leT, n_leF, n_eqT, n_eqF, tn_9, tn_12, tn_14, tn_20, tn_28, tn_44, tn_52, tn_68, tn_84, tn_100, tn_116, tn_132, fu_e, up_eq, ob_0, ob_b, oi_add, oi_sub, oi_mul, oi_neg, Int.add_zero, Int.zero_add, or_true, true_or, or_false, false_or, and_self, z_i2l, z_l2i, lo_nat, lo_add, lo_sub, lo_mul, lo_0, e_rem, mr_X2_crankTimes, mh_X2_crankTimes, s0]
    refine rt_X2_crankTimes_8 ?_
    simp (disch := omega) only [wp_c, wp_n, jj_n, v_ct, Int.reduceToNat, Int.toNat_natCast, stE, wlE, lgt, lpu, lpw, v_c2, va_s, true_and, and_true, Option.toList, List.nil_append, List.cons_append, List.take, List.drop, List.reverse, List.reverseAux, List.length_cons, List.length_nil, reduceCtorEq, false_implies, true_implies, forall_const, not_true_eq_false, not_false_eq_true, ite_true, ite_false, Bool.false_eq_true, I_I, J_J, Nat.add_left_cancel_iff, Nat.reduceEqDiff, Nat.add_eq_left, Nat.left_eq_add, false_and, and_false, Nat.reduceSub, Nat.sub_self, Nat.le_refl, Nat.zero_le, ge_iff_le, Nat.reduceAdd, Nat.reduceLeDiff, Nat.zero_add, Nat.reduceLT, z_lt, z_le, z_eq, z_l0, z_g0, z_le0, z_ge0, z_e0, z_e1, z_vp, z_nc, z_rem, z_div, i_ltT, i_ltF, i_leT, i_leF, i_eqT, i_eqF, n_ltT, n_ltF, n_leT, n_leF, n_eqT, n_eqF, tn_9, tn_12, tn_14, tn_20, tn_28, tn_44, tn_52, tn_68, tn_84, tn_100, tn_116, tn_132, fu_e, up_eq, ob_0, ob_b, oi_add, oi_sub, oi_mul, oi_neg, Int.add_zero, Int.zero_add, or_true, true_or, or_false, false_or, and_self, z_i2l, z_l2i, lo_nat, lo_add, lo_sub, lo_mul, lo_0, e_rem, mr_X2_crankTimes, mh_X2_crankTimes, s0]
    refine rt_X2_crankTimes_9 ?_
    simp (disch := omega) only [wp_c, wp_n, jj_n, v_ct, Int.reduceToNat, Int.toNat_natCast, stE, wlE, lgt, lpu, lpw, v_c2, va_s, true_and, and_true, Option.toList, List.nil_append, List.cons_append, List.take, List.drop, List.reverse, List.reverseAux, List.length_cons, List.length_nil, reduceCtorEq, false_implies, true_implies, forall_const, not_true_eq_false, not_false_eq_true, ite_true, ite_false, Bool.false_eq_true, I_I, J_J, Nat.add_left_cancel_iff, Nat.reduceEqDiff, Nat.add_eq_left, Nat.left_eq_add, false_and, and_false, Nat.reduceSub, Nat.sub_self, Nat.le_refl, Nat.zero_le, ge_iff_le, Nat.reduceAdd, Nat.reduceLeDiff, Nat.zero_add, Nat.reduceLT, z_lt, z_le, z_eq, z_l0, z_g0, z_le0, z_ge0, z_e0, z_e1, z_vp, z_nc, z_rem, z_div, i_ltT, i_ltF, i_leT, i_leF, i_eqT, i_eqF, n_ltT, n_ltF, n_leT, n_leF, n_eqT, n_eqF, tn_9, tn_12, tn_14, tn_20, tn_28, tn_44, tn_52, tn_68, tn_84, tn_100, tn_116, tn_132, fu_e, up_eq, ob_0, ob_b, oi_add, oi_sub, oi_mul, oi_neg, Int.add_zero, Int.zero_add, or_true, true_or, or_false, false_or, and_self, z_i2l, z_l2i, lo_nat, lo_add, lo_sub, lo_mul, lo_0, e_rem, mr_X2_crankTimes, mh_X2_crankTimes, s0]
    refine rt_X2_crankTimes_19 ?_
    simp (disch := omega) only [wp_c, wp_n, jj_n, v_ct, Int.reduceToNat, Int.toNat_natCast, stE, wlE, lgt, lpu, lpw, v_c2, va_s, true_and, and_true, Option.toList, List.nil_append, List.cons_append, List.take, List.drop, List.reverse, List.reverseAux, List.length_cons, List.length_nil, reduceCtorEq, false_implies, true_implies, forall_const, not_true_eq_false, not_false_eq_true, ite_true, ite_false, Bool.false_eq_true, I_I, J_J, Nat.add_left_cancel_iff, Nat.reduceEqDiff, Nat.add_eq_left, Nat.left_eq_add, false_and, and_false, Nat.reduceSub, Nat.sub_self, Nat.le_refl, Nat.zero_le, ge_iff_le, Nat.reduceAdd, Nat.reduceLeDiff, Nat.zero_add, Nat.reduceLT, z_lt, z_le, z_eq, z_l0, z_g0, z_le0, z_ge0, z_e0, z_e1, z_vp, z_nc, z_rem, z_div, i_ltT, i_ltF, i_leT, i_leF, i_eqT, i_eqF, n_ltT, n_ltF, n_leT, n_leF, n_eqT, n_eqF, tn_9, tn_12, tn_14, tn_20, tn_28, tn_44, tn_52, tn_68, tn_84, tn_100, tn_116, tn_132, fu_e, up_eq, ob_0, ob_b, oi_add, oi_sub, oi_mul, oi_neg, Int.add_zero, Int.zero_add, or_true, true_or, or_false, false_or, and_self, z_i2l, z_l2i, lo_nat, lo_add, lo_sub, lo_mul, lo_0, e_rem, mr_X2_crankTimes, mh_X2_crankTimes, s0]
    refine rt_X2_crankTimes_20 ?_
    simp (disch := omega) only [wp_c, wp_n, jj_n, v_ct, Int.reduceToNat, Int.toNat_natCast, stE, wlE, lgt, lpu, lpw, v_c2, va_s, true_and, and_true, Option.toList, List.nil_append, List.cons_append, List.take, List.drop, List.reverse, List.reverseAux, List.length_cons, List.length_nil, reduceCtorEq, false_implies, true_implies, forall_const, not_true_eq_false, not_false_eq_true, ite_true, ite_false, Bool.false_eq_true, I_I, J_J, Nat.add_left_cancel_iff, Nat.reduceEqDiff, Nat.add_eq_left, Nat.left_eq_add, false_and, and_false, Nat.reduceSub, Nat.sub_self, Nat.le_refl, Nat.zero_le, ge_iff_le, Nat.reduceAdd, Nat.reduceLeDiff, Nat.zero_add, Nat.reduceLT, z_lt, z_le, z_eq, z_l0, z_g0, z_le0, z_ge0, z_e0, z_e1, z_vp, z_nc, z_rem, z_div, i_ltT, i_ltF, i_leT, i_leF, i_eqT, i_eqF, n_ltT, n_ltF, n_leT, n_leF, n_eqT, n_eqF, tn_9, tn_12, tn_14, tn_20, tn_28, tn_44, tn_52, tn_68, tn_84, tn_100, tn_116, tn_132, fu_e, up_eq, ob_0, ob_b, oi_add, oi_sub, oi_mul, oi_neg, Int.add_zero, Int.zero_add, or_true, true_or, or_false, false_or, and_self, z_i2l, z_l2i, lo_nat, lo_add, lo_sub, lo_mul, lo_0, e_rem, mr_X2_crankTimes, mh_X2_crankTimes, s0]
    exact h24 _
  · simp (disch := omega) only [wp_c, wp_n, jj_n, v_ct, Int.reduceToNat, Int.toNat_natCast, stE, wlE, lgt, lpu, lpw, v_c2, va_s, true_and, and_true, Option.toList, List.nil_append, List.cons_append, List.take, List.drop, List.reverse, List.reverseAux, List.length_cons, List.length_nil, reduceCtorEq, false_implies, true_implies, forall_const, not_true_eq_false, not_false_eq_true, ite_true, ite_false, Bool.false_eq_true, I_I, J_J, Nat.add_left_cancel_iff, Nat.reduceEqDiff, Nat.add_eq_left, Nat.left_eq_add, false_and, and_false, Nat.reduceSub, Nat.sub_self, Nat.le_refl, Nat.zero_le, ge_iff_le, Nat.reduceAdd, Nat.reduceLeDiff, Nat.zero_add, Nat.reduceLT, z_lt, z_le, z_eq, z_l0, z_g0, z_le0, z_ge0, z_e0, z_e1, z_vp, z_nc, z_rem, z_div, i_ltT, i_ltF, i_leT, i_leF, i_eqT, i_eqF, n_ltT, n_ltF, n_leT, n_leF, n_eqT, n_eqF, tn_9, tn_12, tn_14, tn_20, tn_28, tn_44, tn_52, tn_68, tn_84, tn_100, tn_116, tn_132, fu_e, up_eq, ob_0, ob_b, oi_add, oi_sub, oi_mul, oi_neg, Int.add_zero, Int.zero_add, or_true, true_or, or_false, false_or, and_self, z_i2l, z_l2i, lo_nat, lo_add, lo_sub, lo_mul, lo_0, e_rem, mr_X2_crankTimes, mh_X2_crankTimes, s0]
    refine rt_X2_crankTimes_9 ?_
    simp (disch := omega) only [wp_c, wp_n, jj_n, v_ct, Int.reduceToNat, Int.toNat_natCast, stE, wlE, lgt, lpu, lpw, v_c2, va_s, true_and, and_true, Option.toList, List.nil_append, List.cons_append, List.take, List.drop, List.reverse, List.reverseAux, List.length_cons, List.length_nil, reduceCtorEq, false_implies, true_implies, forall_const, not_true_eq_false, not_false_eq_true, ite_true, ite_false, Bool.false_eq_true, I_I, J_J, Nat.add_left_cancel_iff, Nat.reduceEqDiff, Nat.add_eq_left, Nat.left_eq_add, false_and, and_false, Nat.reduceSub, Nat.sub_self, Nat.le_refl, Nat.zero_le, ge_iff_le, Nat.reduceAdd, Nat.reduceLeDiff, Nat.zero_add, Nat.reduceLT, z_lt, z_le, z_eq, z_l0, z_g0, z_le0, z_ge0, z_e0, z_e1, z_vp, z_nc, z_rem, z_div, i_ltT, i_ltF, i_leT, i_leF, i_eqT, i_eqF, n_ltT, n_ltF, n_leT, n_leF, n_eqT, n_eqF, tn_9, tn_12, tn_14, tn_20, tn_28, tn_44, tn_52, tn_68, tn_84, tn_100, tn_116, tn_132, fu_e, up_eq, ob_0, ob_b, oi_add, oi_sub, oi_mul, oi_neg, Int.add_zero, Int.zero_add, or_true, true_or, or_false, false_or, and_self, z_i2l, z_l2i, lo_nat, lo_add, lo_sub, lo_mul, lo_0, e_rem, mr_X2_crankTimes, mh_X2_crankTimes, s0]
    refine rt_X2_crankTimes_20 ?_
    simp (disch := omega) only [wp_c, wp_n, jj_n, v_ct, Int.reduceToNat, Int.toNat_natCast, stE, wlE, lgt, lpu, lpw, v_c2, va_s, true_and, and_true, Option.toList, List.nil_append, List.cons_append, List.take, List.drop, List.reverse, List.reverseAux, List.length_cons, List.length_nil, reduceCtorEq, false_implies, true_implies, forall_const, not_true_eq_false, not_false_eq_true, ite_true, ite_false, Bool.false_eq_true, I_I, J_J, Nat.add_left_cancel_iff, Nat.reduceEqDiff, Nat.add_eq_left, Nat.left_eq_add, false_and, and_false, Nat.reduceSub, Nat.sub_self, Nat.le_refl, Nat.zero_le, ge_iff_le, Nat.reduceAdd, Nat.reduceLeDiff, Nat.zero_add, Nat.reduceLT, z_lt, z_le, z_eq, z_l0, z_g0, z_le0, z_ge0, z_e0, z_e1, z_vp, z_nc, z_rem, z_div, i_ltT, i_ltF, i_leT, i_leF, i_eqT, i_eqF, n_ltT, n_ltF, n_leT, n_leF, n_eqT, n_eqF, tn_9, tn_12, tn_14, tn_20, tn_28, tn_44, tn_52, tn_68, tn_84, tn_100, tn_116, tn_132, fu_e, up_eq, ob_0, ob_b, oi_add, oi_sub, oi_mul, oi_neg, Int.add_zero, Int.zero_add, or_true, true_or, or_false, false_or, and_self, z_i2l, z_l2i, lo_nat, lo_add, lo_sub, lo_mul, lo_0, e_rem, mr_X2_crankTimes, mh_X2_crankTimes, s0]
    exact h24 _
theorem c_dir {v : Int} {w : mW} {Q : mW → mO → Prop} (hv : v = 0 ∨ v = 1) (hq : Q w (.inl (some (.int (Int32.ofInt (wayOf v)))))) : CT n_X9_directionOf [.int (Int32.ofInt v)] w Q := by
  refine ct_X9_directionOf (rt_X9_directionOf_0 ?_)
  unfold wayOf at hq
  rcases hv with rfl | rfl
  · rw [if_pos rfl] at hq
    simp (disch := omega) only [wp_c, wp_n, jj_n, v_ct, Int.reduceToNat, Int.toNat_natCast, stE, wlE, lgt, lpu, lpw, v_c2, va_s, true_and, and_true, Option.toList, List.nil_append, List.cons_append, List.take, List.drop, List.reverse, List.reverseAux, List.length_cons, List.length_nil, reduceCtorEq, false_implies, true_implies, forall_const, not_true_eq_false, not_false_eq_true, ite_true, ite_false, Bool.false_eq_true, I_I, J_J, Nat.add_left_cancel_iff, Nat.reduceEqDiff, Nat.add_eq_left, Nat.left_eq_add, false_and, and_false, Nat.reduceSub, Nat.sub_self, Nat.le_refl, Nat.zero_le, ge_iff_le, Nat.reduceAdd, Nat.reduceLeDiff, Nat.zero_add, Nat.reduceLT, z_lt, z_le, z_eq, z_l0, z_g0, z_le0, z_ge0, z_e0, z_e1, z_vp, z_nc, z_rem, z_div, i_ltT, i_ltF, i_leT, i_leF, i_eqT, i_eqF, n_ltT, n_ltF, n_leT, n_leF, n_eqT, n_eqF, tn_9, tn_12, tn_14, tn_20, tn_28, tn_44, tn_52, tn_68, tn_84, tn_100, tn_116, tn_132, fu_e, up_eq, ob_0, ob_b, oi_add, oi_sub, oi_mul, oi_neg, Int.add_zero, Int.zero_add, or_true, true_or, or_false, false_or, and_self, z_i2l, z_l2i, lo_nat, lo_add, lo_sub, lo_mul, lo_0, e_rem, mr_X9_directionOf, mh_X9_directionOf, ts_sh]
    refine rt_X9_directionOf_8 ?_
    simp (disch := omega) only [wp_c, wp_n, jj_n, v_ct, Int.reduceToNat, Int.toNat_natCast, stE, wlE, lgt, lpu, lpw, v_c2, va_s, true_and, and_true, Option.toList, List.nil_append, List.cons_append, List.take, List.drop, List.reverse, List.reverseAux, List.length_cons, List.length_nil, reduceCtorEq, false_implies, true_implies, forall_const, not_true_eq_false, not_false_eq_true, ite_true, ite_false, Bool.false_eq_true, I_I, J_J, Nat.add_left_cancel_iff, Nat.reduceEqDiff, Nat.add_eq_left, Nat.left_eq_add, false_and, and_false, Nat.reduceSub, Nat.sub_self, Nat.le_refl, Nat.zero_le, ge_iff_le, Nat.reduceAdd, Nat.reduceLeDiff, Nat.zero_add, Nat.reduceLT, z_lt, z_le, z_eq, z_l0, z_g0, z_le0, z_ge0, z_e0, z_e1, z_vp, z_nc, z_rem, z_div, i_ltT, i_ltF, i_leT, i_leF, i_eqT, i_eqF, n_ltT, n_ltF, n_leT, n_leF, n_eqT, n_eqF, tn_9, tn_12, tn_14, tn_20, tn_28, tn_44, tn_52, tn_68, tn_84, tn_100, tn_116, tn_132, fu_e, up_eq, ob_0, ob_b, oi_add, oi_sub, oi_mul, oi_neg, Int.add_zero, Int.zero_add, or_true, true_or, or_false, false_or, and_self, z_i2l, z_l2i, lo_nat, lo_add, lo_sub, lo_mul, lo_0, e_rem, mr_X9_directionOf, mh_X9_directionOf, ts_sh]
    refine rt_X9_directionOf_9 ?_
    simp (disch := omega) only [wp_c, wp_n, jj_n, v_ct, Int.reduceToNat, Int.toNat_natCast, stE, wlE, lgt, lpu, lpw, v_c2, va_s, true_and, and_true, Option.toList, List.nil_append, List.cons_append, List.take, List.drop, List.reverse, List.reverseAux, List.length_cons, List.length_nil, reduceCtorEq, false_implies, true_implies, forall_const, not_true_eq_false, not_false_eq_true, ite_true, ite_false, Bool.false_eq_true, I_I, J_J, Nat.add_left_cancel_iff, Nat.reduceEqDiff, Nat.add_eq_left, Nat.left_eq_add, false_and, and_false, Nat.reduceSub, Nat.sub_self, Nat.le_refl, Nat.zero_le, ge_iff_le, Nat.reduceAdd, Nat.reduceLeDiff, Nat.zero_add, Nat.reduceLT, z_lt, z_le, z_eq, z_l0, z_g0, z_le0, z_ge0, z_e0, z_e1, z_vp, z_nc, z_rem, z_div, i_ltT, i_ltF, i_leT, i_leF, i_eqT, i_eqF, n_ltT, n_ltF, n_leT, n_leF, n_eqT, n_eqF, tn_9, tn_12, tn_14, tn_20, tn_28, tn_44, tn_52, tn_68, tn_84, tn_100, tn_116, tn_132, fu_e, up_eq, ob_0, ob_b, oi_add, oi_sub, oi_mul, oi_neg, Int.add_zero, Int.zero_add, or_true, true_or, or_false, false_or, and_self, z_i2l, z_l2i, lo_nat, lo_add, lo_sub, lo_mul, lo_0, e_rem, mr_X9_directionOf, mh_X9_directionOf, ts_sh]
    exact hq
  · rw [if_neg (by decide)] at hq
    simp (disch := omega) only [wp_c, wp_n, jj_n, v_ct, Int.reduceToNat, Int.toNat_natCast, stE, wlE, lgt, lpu, lpw, v_c2, va_s, true_and, and_true, Option.toList, List.nil_append, List.cons_append, List.take, List.drop, List.reverse, List.reverseAux, List.length_cons, List.length_nil, reduceCtorEq, false_implies, true_implies, forall_const, not_true_eq_false, not_false_eq_true, ite_true, ite_false, Bool.false_eq_true, I_I, J_J, Nat.add_left_cancel_iff, Nat.reduceEqDiff, Nat.add_eq_left, Nat.left_eq_add, false_and, and_false, Nat.reduceSub, Nat.sub_self, Nat.le_refl, Nat.zero_le, ge_iff_le, Nat.reduceAdd, Nat.reduceLeDiff, Nat.zero_add, Nat.reduceLT, z_lt, z_le, z_eq, z_l0, z_g0, z_le0, z_ge0, z_e0, z_e1, z_vp, z_nc, z_rem, z_div, i_ltT, i_ltF, i_leT, i_leF, i_eqT, i_eqF, n_ltT, n_ltF, n_leT, n_leF, n_eqT, n_eqF, tn_9, tn_12, tn_14, tn_20, tn_28, tn_44, tn_52, tn_68, tn_84, tn_100, tn_116, tn_132, fu_e, up_eq, ob_0, ob_b, oi_add, oi_sub, oi_mul, oi_neg, Int.add_zero, Int.zero_add, or_true, true_or, or_false, false_or, and_self, z_i2l, z_l2i, lo_nat, lo_add, lo_sub, lo_mul, lo_0, e_rem, mr_X9_directionOf, mh_X9_directionOf, ts_sh]
    refine rt_X9_directionOf_9 ?_
    simp (disch := omega) only [wp_c, wp_n, jj_n, v_ct, Int.reduceToNat, Int.toNat_natCast, stE, wlE, lgt, lpu, lpw, v_c2, va_s, true_and, and_true, Option.toList, List.nil_append, List.cons_append, List.take, List.drop, List.reverse, List.reverseAux, List.length_cons, List.length_nil, reduceCtorEq, false_implies, true_implies, forall_const, not_true_eq_false, not_false_eq_true, ite_true, ite_false, Bool.false_eq_true, I_I, J_J, Nat.add_left_cancel_iff, Nat.reduceEqDiff, Nat.add_eq_left, Nat.left_eq_add, false_and, and_false, Nat.reduceSub, Nat.sub_self, Nat.le_refl, Nat.zero_le, ge_iff_le, Nat.reduceAdd, Nat.reduceLeDiff, Nat.zero_add, Nat.reduceLT, z_lt, z_le, z_eq, z_l0, z_g0, z_le0, z_ge0, z_e0, z_e1, z_vp, z_nc, z_rem, z_div, i_ltT, i_ltF, i_leT, i_leF, i_eqT, i_eqF, n_ltT, n_ltF, n_leT, n_leF, n_eqT, n_eqF, tn_9, tn_12, tn_14, tn_20, tn_28, tn_44, tn_52, tn_68, tn_84, tn_100, tn_116, tn_132, fu_e, up_eq, ob_0, ob_b, oi_add, oi_sub, oi_mul, oi_neg, Int.add_zero, Int.zero_add, or_true, true_or, or_false, false_or, and_self, z_i2l, z_l2i, lo_nat, lo_add, lo_sub, lo_mul, lo_0, e_rem, mr_X9_directionOf, mh_X9_directionOf, ts_sh]
    exact hq
def SX (a : Nat) : Prop := 113 ≤ a ∧ a < 125
theorem x_resultAfter {w : mW} {A : Row} {Z : Zx} {Y : Yx} {X : Xx} {U : Ux} {Q : mW → mO → Prop} {v0 : Int} (h0 : -2147483648 ≤ v0 ∧ v0 ≤ 2147483647)  (hS : CS w A Z Y X U) (hG : GR A) (hn1 : ¬ (¬ v0 = 0 ∧ -99 ≤ v0 ∧ v0 ≤ 99) → Q w (.inr 1)) (hn2 : (¬ v0 = 0 ∧ -99 ≤ v0 ∧ v0 ≤ 99) → 0 < A 5 → Q w (.inr 0)) (hq : (¬ v0 = 0 ∧ -99 ≤ v0 ∧ v0 ≤ 99) → ¬ 0 < A 5 → ∀ w', CS w' A Z Y X U → FX CL w w' → Q w' (.inl (some (.long (Int64.ofInt (r_num (a_many v0.natAbs A (if v0 < 0 then -1 else 1)).1))))))  : CT n_X9_resultAfter [.ref 100, .int (Int32.ofInt v0)] w Q := by
  have hCS := hS
  obtain ⟨hC, hS, hB, hE, hH, hX, hU⟩ := hS
  have hz := hG.sz
  have hS0 := hS
  have hJ := hG.1.1
  obtain ⟨⟨k0, c0, c1, c2, c3, c4, c5, c6, c7, c8, c9, c10⟩, -⟩ := id hC
  obtain ⟨⟨s0, s1, s2, s3, s4, s5, s6, s7, s8, s9, s10, s11⟩, r6, r7, r8, r9, r10, r11, r12, r13, q2, q10, q11⟩ := hS.1
  simp only [Nat.reduceAdd] at s0 s1 s2 s3 s4 s5 s6 s7 s8 s9 s10 s11 r6 r7 r8 r9 r10 r11 r12 r13 q2 q10 q11
  obtain ⟨⟨b0, b1, b2, b3, b4⟩, -⟩ := id hS.2.1
  have hjm := hS.jam
  simp only [Nat.reduceAdd] at hjm
  have hK := hC
  have s13 := hC.2.1.2.1.1.1
  have hway : (if v0 < 0 then (-1 : Int) else 1) = 1 ∨ (if v0 < 0 then (-1 : Int) else 1) = -1 := by split; exact Or.inr rfl; exact Or.inl rfl
  refine ct_X9_resultAfter (rt_X9_resultAfter_0 ?_)
  simp (disch := omega) only [wp_c, wp_n, jj_n, v_ct, Int.reduceToNat, Int.toNat_natCast, stE, wlE, lgt, lpu, lpw, v_c2, va_s, true_and, and_true, Option.toList, List.nil_append, List.cons_append, List.take, List.drop, List.reverse, List.reverseAux, List.length_cons, List.length_nil, reduceCtorEq, false_implies, true_implies, forall_const, not_true_eq_false, not_false_eq_true, ite_true, ite_false, Bool.false_eq_true, I_I, J_J, Nat.add_left_cancel_iff, Nat.reduceEqDiff, Nat.add_eq_left, Nat.left_eq_add, false_and, and_false, Nat.reduceSub, Nat.sub_self, Nat.le_refl, Nat.zero_le, ge_iff_le, Nat.reduceAdd, Nat.reduceLeDiff, Nat.zero_add, Nat.reduceLT, z_lt, z_le, z_eq, z_l0, z_g0, z_le0, z_ge0, z_e0, z_e1, z_vp, z_nc, z_rem, z_div, i_ltT, i_ltF, i_leT, i_leF, i_eqT, i_eqF, n_ltT, n_ltF, n_leT, n_leF, n_eqT, n_eqF, tn_9, tn_12, tn_14, tn_20, tn_28, tn_44, tn_52, tn_68, tn_84, tn_100, tn_116, tn_132, fu_e, up_eq, ob_0, ob_b, oi_add, oi_sub, oi_mul, oi_neg, Int.add_zero, Int.zero_add, or_true, true_or, or_false, false_or, and_self, z_i2l, z_l2i, lo_nat, lo_add, lo_sub, lo_mul, lo_0, e_rem, mr_X9_resultAfter, mh_X9_resultAfter, k0, c0, c1, c2, c3, c4, c5, c6, c7, c8, c9, c10, s0, s1, s2, s3, s4, s5, s6, s7, s8, s9, s10, s11, r6, r7, r8, r9, r10, r11, r12, r13, q2, q10, q11, b0, b1, b2, b3, b4, hjm]
  refine x_requireTurns h0 hCS hG (fun h => hn1 h) (fun h => ?_)
  simp (disch := omega) only [wp_c, wp_n, jj_n, v_ct, Int.reduceToNat, Int.toNat_natCast, stE, wlE, lgt, lpu, lpw, v_c2, va_s, true_and, and_true, Option.toList, List.nil_append, List.cons_append, List.take, List.drop, List.reverse, List.reverseAux, List.length_cons, List.length_nil, reduceCtorEq, false_implies, true_implies, forall_const, not_true_eq_false, not_false_eq_true, ite_true, ite_false, Bool.false_eq_true, I_I, J_J, Nat.add_left_cancel_iff, Nat.reduceEqDiff, Nat.add_eq_left, Nat.left_eq_add, false_and, and_false, Nat.reduceSub, Nat.sub_self, Nat.le_refl, Nat.zero_le, ge_iff_le, Nat.reduceAdd, Nat.reduceLeDiff, Nat.zero_add, Nat.reduceLT, z_lt, z_le, z_eq, z_l0, z_g0, z_le0, z_ge0, z_e0, z_e1, z_vp, z_nc, z_rem, z_div, i_ltT, i_ltF, i_leT, i_leF, i_eqT, i_eqF, n_ltT, n_ltF, n_leT, n_leF, n_eqT, n_eqF, tn_9, tn_12, tn_14, tn_20, tn_28, tn_44, tn_52, tn_68, tn_84, tn_100, tn_116, tn_132, fu_e, up_eq, ob_0, ob_b, oi_add, oi_sub, oi_mul, oi_neg, Int.add_zero, Int.zero_add, or_true, true_or, or_false, false_or, and_self, z_i2l, z_l2i, lo_nat, lo_add, lo_sub, lo_mul, lo_0, e_rem, mr_X9_resultAfter, mh_X9_resultAfter, k0, c0, c1, c2, c3, c4, c5, c6, c7, c8, c9, c10, s0, s1, s2, s3, s4, s5, s6, s7, s8, s9, s10, s11, r6, r7, r8, r9, r10, r11, r12, r13, q2, q10, q11, b0, b1, b2, b3, b4, hjm]
  refine x_requireNoJam hCS hG (fun h5 => hn2 h h5) (fun h5 => ?_)
  simp (disch := omega) only [wp_c, wp_n, jj_n, v_ct, Int.reduceToNat, Int.toNat_natCast, stE, wlE, lgt, lpu, lpw, v_c2, va_s, true_and, and_true, Option.toList, List.nil_append, List.cons_append, List.take, List.drop, List.reverse, List.reverseAux, List.length_cons, List.length_nil, reduceCtorEq, false_implies, true_implies, forall_const, not_true_eq_false, not_false_eq_true, ite_true, ite_false, Bool.false_eq_true, I_I, J_J, Nat.add_left_cancel_iff, Nat.reduceEqDiff, Nat.add_eq_left, Nat.left_eq_add, false_and, and_false, Nat.reduceSub, Nat.sub_self, Nat.le_refl, Nat.zero_le, ge_iff_le, Nat.reduceAdd, Nat.reduceLeDiff, Nat.zero_add, Nat.reduceLT, z_lt, z_le, z_eq, z_l0, z_g0, z_le0, z_ge0, z_e0, z_e1, z_vp, z_nc, z_rem, z_div, i_ltT, i_ltF, i_leT, i_leF, i_eqT, i_eqF, n_ltT, n_ltF, n_leT, n_leF, n_eqT, n_eqF, tn_9, tn_12, tn_14, tn_20, tn_28, tn_44, tn_52, tn_68, tn_84, tn_100, tn_116, tn_132, fu_e, up_eq, ob_0, ob_b, oi_add, oi_sub, oi_mul, oi_neg, Int.add_zero, Int.zero_add, or_true, true_or, or_false, false_or, and_self, z_i2l, z_l2i, lo_nat, lo_add, lo_sub, lo_mul, lo_0, e_rem, mr_X9_resultAfter, mh_X9_resultAfter, k0, c0, c1, c2, c3, c4, c5, c6, c7, c8, c9, c10, s0, s1, s2, s3, s4, s5, s6, s7, s8, s9, s10, s11, r6, r7, r8, r9, r10, r11, r12, r13, q2, q10, q11, b0, b1, b2, b3, b4, hjm, s13]
  refine c_copyFrom (by omega) hC.2.1.2.1 hS hJ fun w1 g1 g2 => ?_
  have f1 : FX SX w w1 := g2.toX (fun a a1 a2 => ⟨a1, by omega⟩)
  have nx : ∀ a, SX a → 113 ≤ a ∧ a < 125 := fun a q => q
  have fin : ∀ w2, FX SX w w2 → CS w2 A Z Y X U ∧ FX CL w w2 := fun w2 f => ⟨hCS.fx f (fun a a1 a2 q => Or.inl (nx a q)), f.mono (fun a q => by have := nx a q; unfold CL; omega)⟩
  have h50 := (hG.free h5).1
  have k1 := (hC.fx f1).1.1
  have d1 := (hC.fx f1).1.2.2.1
  have t13 := g1.1.1.1
  have t22 := g1.1.1.2.2.2.2.2.2.2.2.2.1
  have t13r := g1.1.2.2.2.2.2.2.2.2.1
  simp only [Nat.reduceAdd] at t22 t13r
  simp (disch := omega) only [wp_c, wp_n, jj_n, v_ct, Int.reduceToNat, Int.toNat_natCast, stE, wlE, lgt, lpu, lpw, v_c2, va_s, true_and, and_true, Option.toList, List.nil_append, List.cons_append, List.take, List.drop, List.reverse, List.reverseAux, List.length_cons, List.length_nil, reduceCtorEq, false_implies, true_implies, forall_const, not_true_eq_false, not_false_eq_true, ite_true, ite_false, Bool.false_eq_true, I_I, J_J, Nat.add_left_cancel_iff, Nat.reduceEqDiff, Nat.add_eq_left, Nat.left_eq_add, false_and, and_false, Nat.reduceSub, Nat.sub_self, Nat.le_refl, Nat.zero_le, ge_iff_le, Nat.reduceAdd, Nat.reduceLeDiff, Nat.zero_add, Nat.reduceLT, z_lt, z_le, z_eq, z_l0, z_g0, z_le0, z_ge0, z_e0, z_e1, z_vp, z_nc, z_rem, z_div, i_ltT, i_ltF, i_leT, i_leF, i_eqT, i_eqF, n_ltT, n_ltF, n_leT, n_leF, n_eqT, n_eqF, tn_9, tn_12, tn_14, tn_20, tn_28, tn_44, tn_52, tn_68, tn_84, tn_100, tn_116, tn_132, fu_e, up_eq, ob_0, ob_b, oi_add, oi_sub, oi_mul, oi_neg, Int.add_zero, Int.zero_add, or_true, true_or, or_false, false_or, and_self, z_i2l, z_l2i, lo_nat, lo_add, lo_sub, lo_mul, lo_0, e_rem, mr_X9_resultAfter, mh_X9_resultAfter, k1, d1, t13]
  refine c_crankTimes (by omega) g1 hJ h50 fun w2 m1 m2 m3 m4 m5 => ?_
  have f2 : FX SX w w2 := f1.trans (m2.toX (fun a a1 a2 => ⟨a1, by omega⟩))
  have k2 := (hC.fx f2).1.1
  have d2 := (hC.fx f2).1.2.2.1
  have t23 := m1.1.1.1
  simp (disch := omega) only [wp_c, wp_n, jj_n, v_ct, Int.reduceToNat, Int.toNat_natCast, stE, wlE, lgt, lpu, lpw, v_c2, va_s, true_and, and_true, Option.toList, List.nil_append, List.cons_append, List.take, List.drop, List.reverse, List.reverseAux, List.length_cons, List.length_nil, reduceCtorEq, false_implies, true_implies, forall_const, not_true_eq_false, not_false_eq_true, ite_true, ite_false, Bool.false_eq_true, I_I, J_J, Nat.add_left_cancel_iff, Nat.reduceEqDiff, Nat.add_eq_left, Nat.left_eq_add, false_and, and_false, Nat.reduceSub, Nat.sub_self, Nat.le_refl, Nat.zero_le, ge_iff_le, Nat.reduceAdd, Nat.reduceLeDiff, Nat.zero_add, Nat.reduceLT, z_lt, z_le, z_eq, z_l0, z_g0, z_le0, z_ge0, z_e0, z_e1, z_vp, z_nc, z_rem, z_div, i_ltT, i_ltF, i_leT, i_leF, i_eqT, i_eqF, n_ltT, n_ltF, n_leT, n_leF, n_eqT, n_eqF, tn_9, tn_12, tn_14, tn_20, tn_28, tn_44, tn_52, tn_68, tn_84, tn_100, tn_116, tn_132, fu_e, up_eq, ob_0, ob_b, oi_add, oi_sub, oi_mul, oi_neg, Int.add_zero, Int.zero_add, or_true, true_or, or_false, false_or, and_self, z_i2l, z_l2i, lo_nat, lo_add, lo_sub, lo_mul, lo_0, e_rem, mr_X9_resultAfter, mh_X9_resultAfter, k2, d2, t23]
  refine c_resultNumber m1.1 m1.2.1 m3 ?_
  simp (disch := omega) only [wp_c, wp_n, jj_n, v_ct, Int.reduceToNat, Int.toNat_natCast, stE, wlE, lgt, lpu, lpw, v_c2, va_s, true_and, and_true, Option.toList, List.nil_append, List.cons_append, List.take, List.drop, List.reverse, List.reverseAux, List.length_cons, List.length_nil, reduceCtorEq, false_implies, true_implies, forall_const, not_true_eq_false, not_false_eq_true, ite_true, ite_false, Bool.false_eq_true, I_I, J_J, Nat.add_left_cancel_iff, Nat.reduceEqDiff, Nat.add_eq_left, Nat.left_eq_add, false_and, and_false, Nat.reduceSub, Nat.sub_self, Nat.le_refl, Nat.zero_le, ge_iff_le, Nat.reduceAdd, Nat.reduceLeDiff, Nat.zero_add, Nat.reduceLT, z_lt, z_le, z_eq, z_l0, z_g0, z_le0, z_ge0, z_e0, z_e1, z_vp, z_nc, z_rem, z_div, i_ltT, i_ltF, i_leT, i_leF, i_eqT, i_eqF, n_ltT, n_ltF, n_leT, n_leF, n_eqT, n_eqF, tn_9, tn_12, tn_14, tn_20, tn_28, tn_44, tn_52, tn_68, tn_84, tn_100, tn_116, tn_132, fu_e, up_eq, ob_0, ob_b, oi_add, oi_sub, oi_mul, oi_neg, Int.add_zero, Int.zero_add, or_true, true_or, or_false, false_or, and_self, z_i2l, z_l2i, lo_nat, lo_add, lo_sub, lo_mul, lo_0, e_rem, mr_X9_resultAfter, mh_X9_resultAfter, k2]
  rw [rn_many hway _ _ hG.1]
  exact hq h h5 w2 (fin w2 f2).1 (fin w2 f2).2
theorem x_movedBy {w : mW} {A : Row} {Z : Zx} {Y : Yx} {X : Xx} {U : Ux} {Q : mW → mO → Prop}  {v0 : Int} (h0 : v0 = 0 ∨ v0 = 1) (hS : CS w A Z Y X U) (hG : GR A) (hn1 : 0 < A 5 → Q w (.inr 0)) (hq : ¬ 0 < A 5 → ∀ w', CS w' A Z Y X U → FX CL w w' → Q w' (.inl (some (.int (Int32.ofInt (m_ct (a_fin (a_one A (wayOf v0))) (a_fin (a_one A (wayOf v0)) 1).toNat))))))  : CT n_X9_movedBy [.ref 100, .int (Int32.ofInt v0)] w Q := by
  have hCS := hS
  obtain ⟨hC, hS, hB, hE, hH, hX, hU⟩ := hS
  have hz := hG.sz
  have hS0 := hS
  have hJ := hG.1.1
  obtain ⟨⟨k0, c0, c1, c2, c3, c4, c5, c6, c7, c8, c9, c10⟩, -⟩ := id hC
  obtain ⟨⟨s0, s1, s2, s3, s4, s5, s6, s7, s8, s9, s10, s11⟩, r6, r7, r8, r9, r10, r11, r12, r13, q2, q10, q11⟩ := hS.1
  simp only [Nat.reduceAdd] at s0 s1 s2 s3 s4 s5 s6 s7 s8 s9 s10 s11 r6 r7 r8 r9 r10 r11 r12 r13 q2 q10 q11
  obtain ⟨⟨b0, b1, b2, b3, b4⟩, -⟩ := id hS.2.1
  have hjm := hS.jam
  simp only [Nat.reduceAdd] at hjm
  have hK := hC
  have s13 := hC.2.1.2.1.1.1
  refine ct_X9_movedBy (rt_X9_movedBy_0 ?_)
  simp (disch := omega) only [wp_c, wp_n, jj_n, v_ct, Int.reduceToNat, Int.toNat_natCast, stE, wlE, lgt, lpu, lpw, v_c2, va_s, true_and, and_true, Option.toList, List.nil_append, List.cons_append, List.take, List.drop, List.reverse, List.reverseAux, List.length_cons, List.length_nil, reduceCtorEq, false_implies, true_implies, forall_const, not_true_eq_false, not_false_eq_true, ite_true, ite_false, Bool.false_eq_true, I_I, J_J, Nat.add_left_cancel_iff, Nat.reduceEqDiff, Nat.add_eq_left, Nat.left_eq_add, false_and, and_false, Nat.reduceSub, Nat.sub_self, Nat.le_refl, Nat.zero_le, ge_iff_le, Nat.reduceAdd, Nat.reduceLeDiff, Nat.zero_add, Nat.reduceLT, z_lt, z_le, z_eq, z_l0, z_g0, z_le0, z_ge0, z_e0, z_e1, z_vp, z_nc, z_rem, z_div, i_ltT, i_ltF, i_leT, i_leF, i_eqT, i_eqF, n_ltT, n_ltF, n_leT, n_leF, n_eqT, n_eqF, tn_9, tn_12, tn_14, tn_20, tn_28, tn_44, tn_52, tn_68, tn_84, tn_100, tn_116, tn_132, fu_e, up_eq, ob_0, ob_b, oi_add, oi_sub, oi_mul, oi_neg, Int.add_zero, Int.zero_add, or_true, true_or, or_false, false_or, and_self, z_i2l, z_l2i, lo_nat, lo_add, lo_sub, lo_mul, lo_0, e_rem, mr_X9_movedBy, mh_X9_movedBy, k0, c0, c1, c2, c3, c4, c5, c6, c7, c8, c9, c10, s0, s1, s2, s3, s4, s5, s6, s7, s8, s9, s10, s11, r6, r7, r8, r9, r10, r11, r12, r13, q2, q10, q11, b0, b1, b2, b3, b4, hjm]
  refine x_requireNoJam hCS hG (fun h5 => hn1 h5) (fun h5 => ?_)
  simp (disch := omega) only [wp_c, wp_n, jj_n, v_ct, Int.reduceToNat, Int.toNat_natCast, stE, wlE, lgt, lpu, lpw, v_c2, va_s, true_and, and_true, Option.toList, List.nil_append, List.cons_append, List.take, List.drop, List.reverse, List.reverseAux, List.length_cons, List.length_nil, reduceCtorEq, false_implies, true_implies, forall_const, not_true_eq_false, not_false_eq_true, ite_true, ite_false, Bool.false_eq_true, I_I, J_J, Nat.add_left_cancel_iff, Nat.reduceEqDiff, Nat.add_eq_left, Nat.left_eq_add, false_and, and_false, Nat.reduceSub, Nat.sub_self, Nat.le_refl, Nat.zero_le, ge_iff_le, Nat.reduceAdd, Nat.reduceLeDiff, Nat.zero_add, Nat.reduceLT, z_lt, z_le, z_eq, z_l0, z_g0, z_le0, z_ge0, z_e0, z_e1, z_vp, z_nc, z_rem, z_div, i_ltT, i_ltF, i_leT, i_leF, i_eqT, i_eqF, n_ltT, n_ltF, n_leT, n_leF, n_eqT, n_eqF, tn_9, tn_12, tn_14, tn_20, tn_28, tn_44, tn_52, tn_68, tn_84, tn_100, tn_116, tn_132, fu_e, up_eq, ob_0, ob_b, oi_add, oi_sub, oi_mul, oi_neg, Int.add_zero, Int.zero_add, or_true, true_or, or_false, false_or, and_self, z_i2l, z_l2i, lo_nat, lo_add, lo_sub, lo_mul, lo_0, e_rem, mr_X9_movedBy, mh_X9_movedBy, k0, c0, c1, c2, c3, c4, c5, c6, c7, c8, c9, c10, s0, s1, s2, s3, s4, s5, s6, s7, s8, s9, s10, s11, r6, r7, r8, r9, r10, r11, r12, r13, q2, q10, q11, b0, b1, b2, b3, b4, hjm, s13]
  refine c_copyFrom (by omega) hC.2.1.2.1 hS hJ fun w1 g1 g2 => ?_
  have f1 : FX SX w w1 := g2.toX (fun a a1 a2 => ⟨a1, by omega⟩)
  have nx : ∀ a, SX a → 113 ≤ a ∧ a < 125 := fun a q => q
  have fin : ∀ w2, FX SX w w2 → CS w2 A Z Y X U ∧ FX CL w w2 := fun w2 f => ⟨hCS.fx f (fun a a1 a2 q => Or.inl (nx a q)), f.mono (fun a q => by have := nx a q; unfold CL; omega)⟩
  have h50 := (hG.free h5).1
  have k1 := (hC.fx f1).1.1
  have d1 := (hC.fx f1).1.2.2.1
  have t13 := g1.1.1.1
  have t22 := g1.1.1.2.2.2.2.2.2.2.2.2.1
  have t13r := g1.1.2.2.2.2.2.2.2.2.1
  simp only [Nat.reduceAdd] at t22 t13r
  simp (disch := omega) only [wp_c, wp_n, jj_n, v_ct, Int.reduceToNat, Int.toNat_natCast, stE, wlE, lgt, lpu, lpw, v_c2, va_s, true_and, and_true, Option.toList, List.nil_append, List.cons_append, List.take, List.drop, List.reverse, List.reverseAux, List.length_cons, List.length_nil, reduceCtorEq, false_implies, true_implies, forall_const, not_true_eq_false, not_false_eq_true, ite_true, ite_false, Bool.false_eq_true, I_I, J_J, Nat.add_left_cancel_iff, Nat.reduceEqDiff, Nat.add_eq_left, Nat.left_eq_add, false_and, and_false, Nat.reduceSub, Nat.sub_self, Nat.le_refl, Nat.zero_le, ge_iff_le, Nat.reduceAdd, Nat.reduceLeDiff, Nat.zero_add, Nat.reduceLT, z_lt, z_le, z_eq, z_l0, z_g0, z_le0, z_ge0, z_e0, z_e1, z_vp, z_nc, z_rem, z_div, i_ltT, i_ltF, i_leT, i_leF, i_eqT, i_eqF, n_ltT, n_ltF, n_leT, n_leF, n_eqT, n_eqF, tn_9, tn_12, tn_14, tn_20, tn_28, tn_44, tn_52, tn_68, tn_84, tn_100, tn_116, tn_132, fu_e, up_eq, ob_0, ob_b, oi_add, oi_sub, oi_mul, oi_neg, Int.add_zero, Int.zero_add, or_true, true_or, or_false, false_or, and_self, z_i2l, z_l2i, lo_nat, lo_add, lo_sub, lo_mul, lo_0, e_rem, mr_X9_movedBy, mh_X9_movedBy, k1, d1, t13]
  refine c_dir h0 ?_
  simp (disch := omega) only [wp_c, wp_n, jj_n, v_ct, Int.reduceToNat, Int.toNat_natCast, stE, wlE, lgt, lpu, lpw, v_c2, va_s, true_and, and_true, Option.toList, List.nil_append, List.cons_append, List.take, List.drop, List.reverse, List.reverseAux, List.length_cons, List.length_nil, reduceCtorEq, false_implies, true_implies, forall_const, not_true_eq_false, not_false_eq_true, ite_true, ite_false, Bool.false_eq_true, I_I, J_J, Nat.add_left_cancel_iff, Nat.reduceEqDiff, Nat.add_eq_left, Nat.left_eq_add, false_and, and_false, Nat.reduceSub, Nat.sub_self, Nat.le_refl, Nat.zero_le, ge_iff_le, Nat.reduceAdd, Nat.reduceLeDiff, Nat.zero_add, Nat.reduceLT, z_lt, z_le, z_eq, z_l0, z_g0, z_le0, z_ge0, z_e0, z_e1, z_vp, z_nc, z_rem, z_div, i_ltT, i_ltF, i_leT, i_leF, i_eqT, i_eqF, n_ltT, n_ltF, n_leT, n_leF, n_eqT, n_eqF, tn_9, tn_12, tn_14, tn_20, tn_28, tn_44, tn_52, tn_68, tn_84, tn_100, tn_116, tn_132, fu_e, up_eq, ob_0, ob_b, oi_add, oi_sub, oi_mul, oi_neg, Int.add_zero, Int.zero_add, or_true, true_or, or_false, false_or, and_self, z_i2l, z_l2i, lo_nat, lo_add, lo_sub, lo_mul, lo_0, e_rem, mr_X9_movedBy, mh_X9_movedBy, k1, d1, t13]
  refine c_crank1 (way_or v0) g1 hG.1 h50 fun w2 m1 m2 m3 => ?_
  have f2 : FX SX w w2 := f1.trans (m2.toX (fun a a1 a2 => ⟨a1, by omega⟩))
  have k2 := (hC.fx f2).1.1
  have d2 := (hC.fx f2).1.2.2.1
  have t23 := m1.1.1.1
  have u22 := m1.1.1.2.2.2.2.2.2.2.2.2.1
  have u13r := m1.1.2.2.2.2.2.2.2.2.1
  simp only [Nat.reduceAdd] at u22 u13r
  simp (disch := omega) only [wp_c, wp_n, jj_n, v_ct, Int.reduceToNat, Int.toNat_natCast, stE, wlE, lgt, lpu, lpw, v_c2, va_s, true_and, and_true, Option.toList, List.nil_append, List.cons_append, List.take, List.drop, List.reverse, List.reverseAux, List.length_cons, List.length_nil, reduceCtorEq, false_implies, true_implies, forall_const, not_true_eq_false, not_false_eq_true, ite_true, ite_false, Bool.false_eq_true, I_I, J_J, Nat.add_left_cancel_iff, Nat.reduceEqDiff, Nat.add_eq_left, Nat.left_eq_add, false_and, and_false, Nat.reduceSub, Nat.sub_self, Nat.le_refl, Nat.zero_le, ge_iff_le, Nat.reduceAdd, Nat.reduceLeDiff, Nat.zero_add, Nat.reduceLT, z_lt, z_le, z_eq, z_l0, z_g0, z_le0, z_ge0, z_e0, z_e1, z_vp, z_nc, z_rem, z_div, i_ltT, i_ltF, i_leT, i_leF, i_eqT, i_eqF, n_ltT, n_ltF, n_leT, n_leF, n_eqT, n_eqF, tn_9, tn_12, tn_14, tn_20, tn_28, tn_44, tn_52, tn_68, tn_84, tn_100, tn_116, tn_132, fu_e, up_eq, ob_0, ob_b, oi_add, oi_sub, oi_mul, oi_neg, Int.add_zero, Int.zero_add, or_true, true_or, or_false, false_or, and_self, z_i2l, z_l2i, lo_nat, lo_add, lo_sub, lo_mul, lo_0, e_rem, mr_X9_movedBy, mh_X9_movedBy, k2, d2, t23, u22, u13r]
  refine c_movedWheels m1.1 m1.2.1 ?_
  simp (disch := omega) only [wp_c, wp_n, jj_n, v_ct, Int.reduceToNat, Int.toNat_natCast, stE, wlE, lgt, lpu, lpw, v_c2, va_s, true_and, and_true, Option.toList, List.nil_append, List.cons_append, List.take, List.drop, List.reverse, List.reverseAux, List.length_cons, List.length_nil, reduceCtorEq, false_implies, true_implies, forall_const, not_true_eq_false, not_false_eq_true, ite_true, ite_false, Bool.false_eq_true, I_I, J_J, Nat.add_left_cancel_iff, Nat.reduceEqDiff, Nat.add_eq_left, Nat.left_eq_add, false_and, and_false, Nat.reduceSub, Nat.sub_self, Nat.le_refl, Nat.zero_le, ge_iff_le, Nat.reduceAdd, Nat.reduceLeDiff, Nat.zero_add, Nat.reduceLT, z_lt, z_le, z_eq, z_l0, z_g0, z_le0, z_ge0, z_e0, z_e1, z_vp, z_nc, z_rem, z_div, i_ltT, i_ltF, i_leT, i_leF, i_eqT, i_eqF, n_ltT, n_ltF, n_leT, n_leF, n_eqT, n_eqF, tn_9, tn_12, tn_14, tn_20, tn_28, tn_44, tn_52, tn_68, tn_84, tn_100, tn_116, tn_132, fu_e, up_eq, ob_0, ob_b, oi_add, oi_sub, oi_mul, oi_neg, Int.add_zero, Int.zero_add, or_true, true_or, or_false, false_or, and_self, z_i2l, z_l2i, lo_nat, lo_add, lo_sub, lo_mul, lo_0, e_rem, mr_X9_movedBy, mh_X9_movedBy, k2]
  rw [(mc_one (way_or v0) A hG.1).1, mct_e (one_GR hG (way_or v0))]
  exact hq h5 w2 (fin w2 f2).1 (fin w2 f2).2
theorem x_ripple {w : mW} {A : Row} {Z : Zx} {Y : Yx} {X : Xx} {U : Ux} {Q : mW → mO → Prop}  {v0 : Int} (h0 : v0 = 0 ∨ v0 = 1) (hS : CS w A Z Y X U) (hG : GR A) (hn1 : 0 < A 5 → Q w (.inr 0)) (hq : ¬ 0 < A 5 → ∀ w', CS w' A Z Y X U → FX CL w w' → Q w' (.inl (some (.int (a_one A (wayOf v0)).2.2))))  : CT n_X9_ripple [.ref 100, .int (Int32.ofInt v0)] w Q := by
  have hCS := hS
  obtain ⟨hC, hS, hB, hE, hH, hX, hU⟩ := hS
  have hz := hG.sz
  have hS0 := hS
  have hJ := hG.1.1
  obtain ⟨⟨k0, c0, c1, c2, c3, c4, c5, c6, c7, c8, c9, c10⟩, -⟩ := id hC
  obtain ⟨⟨s0, s1, s2, s3, s4, s5, s6, s7, s8, s9, s10, s11⟩, r6, r7, r8, r9, r10, r11, r12, r13, q2, q10, q11⟩ := hS.1
  simp only [Nat.reduceAdd] at s0 s1 s2 s3 s4 s5 s6 s7 s8 s9 s10 s11 r6 r7 r8 r9 r10 r11 r12 r13 q2 q10 q11
  obtain ⟨⟨b0, b1, b2, b3, b4⟩, -⟩ := id hS.2.1
  have hjm := hS.jam
  simp only [Nat.reduceAdd] at hjm
  have hK := hC
  have s13 := hC.2.1.2.1.1.1
  refine ct_X9_ripple (rt_X9_ripple_0 ?_)
  simp (disch := omega) only [wp_c, wp_n, jj_n, v_ct, Int.reduceToNat, Int.toNat_natCast, stE, wlE, lgt, lpu, lpw, v_c2, va_s, true_and, and_true, Option.toList, List.nil_append, List.cons_append, List.take, List.drop, List.reverse, List.reverseAux, List.length_cons, List.length_nil, reduceCtorEq, false_implies, true_implies, forall_const, not_true_eq_false, not_false_eq_true, ite_true, ite_false, Bool.false_eq_true, I_I, J_J, Nat.add_left_cancel_iff, Nat.reduceEqDiff, Nat.add_eq_left, Nat.left_eq_add, false_and, and_false, Nat.reduceSub, Nat.sub_self, Nat.le_refl, Nat.zero_le, ge_iff_le, Nat.reduceAdd, Nat.reduceLeDiff, Nat.zero_add, Nat.reduceLT, z_lt, z_le, z_eq, z_l0, z_g0, z_le0, z_ge0, z_e0, z_e1, z_vp, z_nc, z_rem, z_div, i_ltT, i_ltF, i_leT, i_leF, i_eqT, i_eqF, n_ltT, n_ltF, n_leT, n_leF, n_eqT, n_eqF, tn_9, tn_12, tn_14, tn_20, tn_28, tn_44, tn_52, tn_68, tn_84, tn_100, tn_116, tn_132, fu_e, up_eq, ob_0, ob_b, oi_add, oi_sub, oi_mul, oi_neg, Int.add_zero, Int.zero_add, or_true, true_or, or_false, false_or, and_self, z_i2l, z_l2i, lo_nat, lo_add, lo_sub, lo_mul, lo_0, e_rem, mr_X9_ripple, mh_X9_ripple, k0, c0, c1, c2, c3, c4, c5, c6, c7, c8, c9, c10, s0, s1, s2, s3, s4, s5, s6, s7, s8, s9, s10, s11, r6, r7, r8, r9, r10, r11, r12, r13, q2, q10, q11, b0, b1, b2, b3, b4, hjm]
  refine x_requireNoJam hCS hG (fun h5 => hn1 h5) (fun h5 => ?_)
  simp (disch := omega) only [wp_c, wp_n, jj_n, v_ct, Int.reduceToNat, Int.toNat_natCast, stE, wlE, lgt, lpu, lpw, v_c2, va_s, true_and, and_true, Option.toList, List.nil_append, List.cons_append, List.take, List.drop, List.reverse, List.reverseAux, List.length_cons, List.length_nil, reduceCtorEq, false_implies, true_implies, forall_const, not_true_eq_false, not_false_eq_true, ite_true, ite_false, Bool.false_eq_true, I_I, J_J, Nat.add_left_cancel_iff, Nat.reduceEqDiff, Nat.add_eq_left, Nat.left_eq_add, false_and, and_false, Nat.reduceSub, Nat.sub_self, Nat.le_refl, Nat.zero_le, ge_iff_le, Nat.reduceAdd, Nat.reduceLeDiff, Nat.zero_add, Nat.reduceLT, z_lt, z_le, z_eq, z_l0, z_g0, z_le0, z_ge0, z_e0, z_e1, z_vp, z_nc, z_rem, z_div, i_ltT, i_ltF, i_leT, i_leF, i_eqT, i_eqF, n_ltT, n_ltF, n_leT, n_leF, n_eqT, n_eqF, tn_9, tn_12, tn_14, tn_20, tn_28, tn_44, tn_52, tn_68, tn_84, tn_100, tn_116, tn_132, fu_e, up_eq, ob_0, ob_b, oi_add, oi_sub, oi_mul, oi_neg, Int.add_zero, Int.zero_add, or_true, true_or, or_false, false_or, and_self, z_i2l, z_l2i, lo_nat, lo_add, lo_sub, lo_mul, lo_0, e_rem, mr_X9_ripple, mh_X9_ripple, k0, c0, c1, c2, c3, c4, c5, c6, c7, c8, c9, c10, s0, s1, s2, s3, s4, s5, s6, s7, s8, s9, s10, s11, r6, r7, r8, r9, r10, r11, r12, r13, q2, q10, q11, b0, b1, b2, b3, b4, hjm, s13]
  refine c_copyFrom (by omega) hC.2.1.2.1 hS hJ fun w1 g1 g2 => ?_
  have f1 : FX SX w w1 := g2.toX (fun a a1 a2 => ⟨a1, by omega⟩)
  have nx : ∀ a, SX a → 113 ≤ a ∧ a < 125 := fun a q => q
  have fin : ∀ w2, FX SX w w2 → CS w2 A Z Y X U ∧ FX CL w w2 := fun w2 f => ⟨hCS.fx f (fun a a1 a2 q => Or.inl (nx a q)), f.mono (fun a q => by have := nx a q; unfold CL; omega)⟩
  have h50 := (hG.free h5).1
  have k1 := (hC.fx f1).1.1
  have d1 := (hC.fx f1).1.2.2.1
  have t13 := g1.1.1.1
  have t22 := g1.1.1.2.2.2.2.2.2.2.2.2.1
  have t13r := g1.1.2.2.2.2.2.2.2.2.1
  simp only [Nat.reduceAdd] at t22 t13r
  simp (disch := omega) only [wp_c, wp_n, jj_n, v_ct, Int.reduceToNat, Int.toNat_natCast, stE, wlE, lgt, lpu, lpw, v_c2, va_s, true_and, and_true, Option.toList, List.nil_append, List.cons_append, List.take, List.drop, List.reverse, List.reverseAux, List.length_cons, List.length_nil, reduceCtorEq, false_implies, true_implies, forall_const, not_true_eq_false, not_false_eq_true, ite_true, ite_false, Bool.false_eq_true, I_I, J_J, Nat.add_left_cancel_iff, Nat.reduceEqDiff, Nat.add_eq_left, Nat.left_eq_add, false_and, and_false, Nat.reduceSub, Nat.sub_self, Nat.le_refl, Nat.zero_le, ge_iff_le, Nat.reduceAdd, Nat.reduceLeDiff, Nat.zero_add, Nat.reduceLT, z_lt, z_le, z_eq, z_l0, z_g0, z_le0, z_ge0, z_e0, z_e1, z_vp, z_nc, z_rem, z_div, i_ltT, i_ltF, i_leT, i_leF, i_eqT, i_eqF, n_ltT, n_ltF, n_leT, n_leF, n_eqT, n_eqF, tn_9, tn_12, tn_14, tn_20, tn_28, tn_44, tn_52, tn_68, tn_84, tn_100, tn_116, tn_132, fu_e, up_eq, ob_0, ob_b, oi_add, oi_sub, oi_mul, oi_neg, Int.add_zero, Int.zero_add, or_true, true_or, or_false, false_or, and_self, z_i2l, z_l2i, lo_nat, lo_add, lo_sub, lo_mul, lo_0, e_rem, mr_X9_ripple, mh_X9_ripple, k1, d1, t13]
  refine c_dir h0 ?_
  simp (disch := omega) only [wp_c, wp_n, jj_n, v_ct, Int.reduceToNat, Int.toNat_natCast, stE, wlE, lgt, lpu, lpw, v_c2, va_s, true_and, and_true, Option.toList, List.nil_append, List.cons_append, List.take, List.drop, List.reverse, List.reverseAux, List.length_cons, List.length_nil, reduceCtorEq, false_implies, true_implies, forall_const, not_true_eq_false, not_false_eq_true, ite_true, ite_false, Bool.false_eq_true, I_I, J_J, Nat.add_left_cancel_iff, Nat.reduceEqDiff, Nat.add_eq_left, Nat.left_eq_add, false_and, and_false, Nat.reduceSub, Nat.sub_self, Nat.le_refl, Nat.zero_le, ge_iff_le, Nat.reduceAdd, Nat.reduceLeDiff, Nat.zero_add, Nat.reduceLT, z_lt, z_le, z_eq, z_l0, z_g0, z_le0, z_ge0, z_e0, z_e1, z_vp, z_nc, z_rem, z_div, i_ltT, i_ltF, i_leT, i_leF, i_eqT, i_eqF, n_ltT, n_ltF, n_leT, n_leF, n_eqT, n_eqF, tn_9, tn_12, tn_14, tn_20, tn_28, tn_44, tn_52, tn_68, tn_84, tn_100, tn_116, tn_132, fu_e, up_eq, ob_0, ob_b, oi_add, oi_sub, oi_mul, oi_neg, Int.add_zero, Int.zero_add, or_true, true_or, or_false, false_or, and_self, z_i2l, z_l2i, lo_nat, lo_add, lo_sub, lo_mul, lo_0, e_rem, mr_X9_ripple, mh_X9_ripple, k1, d1, t13]
  refine c_crank1 (way_or v0) g1 hG.1 h50 fun w2 m1 m2 m3 => ?_
  have f2 : FX SX w w2 := f1.trans (m2.toX (fun a a1 a2 => ⟨a1, by omega⟩))
  have k2 := (hC.fx f2).1.1
  have d2 := (hC.fx f2).1.2.2.1
  have t23 := m1.1.1.1
  have u22 := m1.1.1.2.2.2.2.2.2.2.2.2.1
  have u13r := m1.1.2.2.2.2.2.2.2.2.1
  simp only [Nat.reduceAdd] at u22 u13r m3
  rw [(mc_one (way_or v0) A hG.1).2] at m3
  simp (disch := omega) only [wp_c, wp_n, jj_n, v_ct, Int.reduceToNat, Int.toNat_natCast, stE, wlE, lgt, lpu, lpw, v_c2, va_s, true_and, and_true, Option.toList, List.nil_append, List.cons_append, List.take, List.drop, List.reverse, List.reverseAux, List.length_cons, List.length_nil, reduceCtorEq, false_implies, true_implies, forall_const, not_true_eq_false, not_false_eq_true, ite_true, ite_false, Bool.false_eq_true, I_I, J_J, Nat.add_left_cancel_iff, Nat.reduceEqDiff, Nat.add_eq_left, Nat.left_eq_add, false_and, and_false, Nat.reduceSub, Nat.sub_self, Nat.le_refl, Nat.zero_le, ge_iff_le, Nat.reduceAdd, Nat.reduceLeDiff, Nat.zero_add, Nat.reduceLT, z_lt, z_le, z_eq, z_l0, z_g0, z_le0, z_ge0, z_e0, z_e1, z_vp, z_nc, z_rem, z_div, i_ltT, i_ltF, i_leT, i_leF, i_eqT, i_eqF, n_ltT, n_ltF, n_leT, n_leF, n_eqT, n_eqF, tn_9, tn_12, tn_14, tn_20, tn_28, tn_44, tn_52, tn_68, tn_84, tn_100, tn_116, tn_132, fu_e, up_eq, ob_0, ob_b, oi_add, oi_sub, oi_mul, oi_neg, Int.add_zero, Int.zero_add, or_true, true_or, or_false, false_or, and_self, z_i2l, z_l2i, lo_nat, lo_add, lo_sub, lo_mul, lo_0, e_rem, mr_X9_ripple, mh_X9_ripple, k2, d2, t23, u22, u13r, m3]
  exact hq h5 w2 (fin w2 f2).1 (fin w2 f2).2
theorem x_tb_40 {w0 : mW} {A0 : Row} {v0 v1 : Int} {Q : mW → mO → Prop} (h0 : v0 = 0 ∨ v0 = 1) (hv1 : 1 ≤ v1 ∧ v1 ≤ 999) (hC0 : CB w0) : ∀ (n k : Nat) (B : Row) (w : mW), (k : Int) + n = v1 + 1 → FX SX w0 w → MS w 113 B → GR B → B 5 = 0 → (∀ w', FX SX w0 w' → Q w' (.inl (some (.int (Int32.ofInt (tb (wayOf v0) n k B)))))) →
    RT n_X9_turnsToBell 40 [.ref 100, .int (Int32.ofInt v0), .int (Int32.ofInt v1), .int (Int32.ofInt k)] [] w (1, 6, false) Q := by
  intro n
  induction n with
  | zero =>
    intro k B w hk hw hS hG h5 hq
    have k0 := (hC0.fx hw).1.1
    refine rt_X9_turnsToBell_40 ?_
    simp (disch := omega) only [wp_c, wp_n, jj_n, v_ct, Int.reduceToNat, Int.toNat_natCast, stE, wlE, lgt, lpu, lpw, v_c2, va_s, true_and, and_true, Option.toList, List.nil_append, List.cons_append, List.take, List.drop, List.reverse, List.reverseAux, List.length_cons, List.length_nil, reduceCtorEq, false_implies, true_implies, forall_const, not_true_eq_false, not_false_eq_true, ite_true, ite_false, Bool.false_eq_true, I_I, J_J, Nat.add_left_cancel_iff, Nat.reduceEqDiff, Nat.add_eq_left, Nat.left_eq_add, false_and, and_false, Nat.reduceSub, Nat.sub_self, Nat.le_refl, Nat.zero_le, ge_iff_le, Nat.reduceAdd, Nat.reduceLeDiff, Nat.zero_add, Nat.reduceLT, z_lt, z_le, z_eq, z_l0, z_g0, z_le0, z_ge0, z_e0, z_e1, z_vp, z_nc, z_rem, z_div, i_ltT, i_ltF, i_leT, i_leF, i_eqT, i_eqF, n_ltT, n_ltF, n_leT, n_leF, n_eqT, n_eqF, tn_9, tn_12, tn_14, tn_20, tn_28, tn_44, tn_52, tn_68, tn_84, tn_100, tn_116, tn_132, fu_e, up_eq, ob_0, ob_b, oi_add, oi_sub, oi_mul, oi_neg, Int.add_zero, Int.zero_add, or_true, true_or, or_false, false_or, and_self, z_i2l, z_l2i, lo_nat, lo_add, lo_sub, lo_mul, lo_0, e_rem, mr_X9_turnsToBell, mh_X9_turnsToBell, k0]
    refine rt_X9_turnsToBell_82 ?_
    simp (disch := omega) only [wp_c, wp_n, jj_n, v_ct, Int.reduceToNat, Int.toNat_natCast, stE, wlE, lgt, lpu, lpw, v_c2, va_s, true_and, and_true, Option.toList, List.nil_append, List.cons_append, List.take, List.drop, List.reverse, List.reverseAux, List.length_cons, List.length_nil, reduceCtorEq, false_implies, true_implies, forall_const, not_true_eq_false, not_false_eq_true, ite_true, ite_false, Bool.false_eq_true, I_I, J_J, Nat.add_left_cancel_iff, Nat.reduceEqDiff, Nat.add_eq_left, Nat.left_eq_add, false_and, and_false, Nat.reduceSub, Nat.sub_self, Nat.le_refl, Nat.zero_le, ge_iff_le, Nat.reduceAdd, Nat.reduceLeDiff, Nat.zero_add, Nat.reduceLT, z_lt, z_le, z_eq, z_l0, z_g0, z_le0, z_ge0, z_e0, z_e1, z_vp, z_nc, z_rem, z_div, i_ltT, i_ltF, i_leT, i_leF, i_eqT, i_eqF, n_ltT, n_ltF, n_leT, n_leF, n_eqT, n_eqF, tn_9, tn_12, tn_14, tn_20, tn_28, tn_44, tn_52, tn_68, tn_84, tn_100, tn_116, tn_132, fu_e, up_eq, ob_0, ob_b, oi_add, oi_sub, oi_mul, oi_neg, Int.add_zero, Int.zero_add, or_true, true_or, or_false, false_or, and_self, z_i2l, z_l2i, lo_nat, lo_add, lo_sub, lo_mul, lo_0, e_rem, mr_X9_turnsToBell, mh_X9_turnsToBell, k0]
    exact hq w hw
  | succ n ih =>
    intro k B w hk hw hS hG h5 hq
    have k0 := (hC0.fx hw).1.1
    have d0 := (hC0.fx hw).1.2.2.1
    have t13 := hS.1.1.1
    have hgo := one_GR hG (way_or v0)
    have h18 := hG.1.2.2.1
    have hG8 : GR (up B 8 0) := hG.u8 (by omega) (Or.inl rfl)
    have hgo8 := one_GR hG8 (way_or v0)
    obtain ⟨C1, p1, p2⟩ := pa_f1 B (up B 8 0) (wayOf v0) hG.1.1 (way_or v0) h18
    rw [← pa_8] at p1 p2
    have o5 := one_5 (A := up B 8 0) (way := wayOf v0) hG8.1.1 (way_or v0) hG8.1.2.2.1
    rw [tb] at hq
    refine rt_X9_turnsToBell_40 ?_
    simp (disch := omega) only [wp_c, wp_n, jj_n, v_ct, Int.reduceToNat, Int.toNat_natCast, stE, wlE, lgt, lpu, lpw, v_c2, va_s, true_and, and_true, Option.toList, List.nil_append, List.cons_append, List.take, List.drop, List.reverse, List.reverseAux, List.length_cons, List.length_nil, reduceCtorEq, false_implies, true_implies, forall_const, not_true_eq_false, not_false_eq_true, ite_true, ite_false, Bool.false_eq_true, I_I, J_J, Nat.add_left_cancel_iff, Nat.reduceEqDiff, Nat.add_eq_left, Nat.left_eq_add, false_and, and_false, Nat.reduceSub, Nat.sub_self, Nat.le_refl, Nat.zero_le, ge_iff_le, Nat.reduceAdd, Nat.reduceLeDiff, Nat.zero_add, Nat.reduceLT, z_lt, z_le, z_eq, z_l0, z_g0, z_le0, z_ge0, z_e0, z_e1, z_vp, z_nc, z_rem, z_div, i_ltT, i_ltF, i_leT, i_leF, i_eqT, i_eqF, n_ltT, n_ltF, n_leT, n_leF, n_eqT, n_eqF, tn_9, tn_12, tn_14, tn_20, tn_28, tn_44, tn_52, tn_68, tn_84, tn_100, tn_116, tn_132, fu_e, up_eq, ob_0, ob_b, oi_add, oi_sub, oi_mul, oi_neg, Int.add_zero, Int.zero_add, or_true, true_or, or_false, false_or, and_self, z_i2l, z_l2i, lo_nat, lo_add, lo_sub, lo_mul, lo_0, e_rem, mr_X9_turnsToBell, mh_X9_turnsToBell, k0, d0, t13]
    refine c_dir h0 ?_
    simp (disch := omega) only [wp_c, wp_n, jj_n, v_ct, Int.reduceToNat, Int.toNat_natCast, stE, wlE, lgt, lpu, lpw, v_c2, va_s, true_and, and_true, Option.toList, List.nil_append, List.cons_append, List.take, List.drop, List.reverse, List.reverseAux, List.length_cons, List.length_nil, reduceCtorEq, false_implies, true_implies, forall_const, not_true_eq_false, not_false_eq_true, ite_true, ite_false, Bool.false_eq_true, I_I, J_J, Nat.add_left_cancel_iff, Nat.reduceEqDiff, Nat.add_eq_left, Nat.left_eq_add, false_and, and_false, Nat.reduceSub, Nat.sub_self, Nat.le_refl, Nat.zero_le, ge_iff_le, Nat.reduceAdd, Nat.reduceLeDiff, Nat.zero_add, Nat.reduceLT, z_lt, z_le, z_eq, z_l0, z_g0, z_le0, z_ge0, z_e0, z_e1, z_vp, z_nc, z_rem, z_div, i_ltT, i_ltF, i_leT, i_leF, i_eqT, i_eqF, n_ltT, n_ltF, n_leT, n_leF, n_eqT, n_eqF, tn_9, tn_12, tn_14, tn_20, tn_28, tn_44, tn_52, tn_68, tn_84, tn_100, tn_116, tn_132, fu_e, up_eq, ob_0, ob_b, oi_add, oi_sub, oi_mul, oi_neg, Int.add_zero, Int.zero_add, or_true, true_or, or_false, false_or, and_self, z_i2l, z_l2i, lo_nat, lo_add, lo_sub, lo_mul, lo_0, e_rem, mr_X9_turnsToBell, mh_X9_turnsToBell, k0, d0, t13]
    refine c_crank1 (way_or v0) hS hG.1 h5 fun w2 m1 m2 m3 => ?_
    have f2 : FX SX w0 w2 := hw.trans (m2.toX (fun a a1 a2 => ⟨a1, by omega⟩))
    have k2 := (hC0.fx f2).1.1
    have d2 := (hC0.fx f2).1.2.2.1
    have t23 := m1.1.1.1
    have u22 := m1.1.1.2.2.2.2.2.2.2.2.2.1
    have u13r := m1.1.2.2.2.2.2.2.2.2.1
    have n9 := m1.2.1.2.2.2.2.2.2.2.1.1
    simp only [Nat.reduceAdd] at u22 u13r n9
    unfold o1
    rw [p2] at o5 ⊢
    cases ho : (a_one B (wayOf v0)).2.1 with
    | some x =>
      rw [ho] at hq o5
      simp (disch := omega) only [wp_c, wp_n, jj_n, v_ct, Int.reduceToNat, Int.toNat_natCast, stE, wlE, lgt, lpu, lpw, v_c2, va_s, true_and, and_true, Option.toList, List.nil_append, List.cons_append, List.take, List.drop, List.reverse, List.reverseAux, List.length_cons, List.length_nil, reduceCtorEq, false_implies, true_implies, forall_const, not_true_eq_false, not_false_eq_true, ite_true, ite_false, Bool.false_eq_true, I_I, J_J, Nat.add_left_cancel_iff, Nat.reduceEqDiff, Nat.add_eq_left, Nat.left_eq_add, false_and, and_false, Nat.reduceSub, Nat.sub_self, Nat.le_refl, Nat.zero_le, ge_iff_le, Nat.reduceAdd, Nat.reduceLeDiff, Nat.zero_add, Nat.reduceLT, z_lt, z_le, z_eq, z_l0, z_g0, z_le0, z_ge0, z_e0, z_e1, z_vp, z_nc, z_rem, z_div, i_ltT, i_ltF, i_leT, i_leF, i_eqT, i_eqF, n_ltT, n_ltF, n_leT, n_leF, n_eqT, n_eqF, tn_9, tn_12, tn_14, tn_20, tn_28, tn_44, tn_52, tn_68, tn_84, tn_100, tn_116, tn_132, fu_e, up_eq, ob_0, ob_b, oi_add, oi_sub, oi_mul, oi_neg, Int.add_zero, Int.zero_add, or_true, true_or, or_false, false_or, and_self, z_i2l, z_l2i, lo_nat, lo_add, lo_sub, lo_mul, lo_0, e_rem, mr_X9_turnsToBell, mh_X9_turnsToBell, k2]
      exact hq w2 f2
    | none =>
      rw [ho] at hq o5
      simp only at hq o5
      simp (disch := omega) only [wp_c, wp_n, jj_n, v_ct, Int.reduceToNat, Int.toNat_natCast, stE, wlE, lgt, lpu, lpw, v_c2, va_s, true_and, and_true, Option.toList, List.nil_append, List.cons_append, List.take, List.drop, List.reverse, List.reverseAux, List.length_cons, List.length_nil, reduceCtorEq, false_implies, true_implies, forall_const, not_true_eq_false, not_false_eq_true, ite_true, ite_false, Bool.false_eq_true, I_I, J_J, Nat.add_left_cancel_iff, Nat.reduceEqDiff, Nat.add_eq_left, Nat.left_eq_add, false_and, and_false, Nat.reduceSub, Nat.sub_self, Nat.le_refl, Nat.zero_le, ge_iff_le, Nat.reduceAdd, Nat.reduceLeDiff, Nat.zero_add, Nat.reduceLT, z_lt, z_le, z_eq, z_l0, z_g0, z_le0, z_ge0, z_e0, z_e1, z_vp, z_nc, z_rem, z_div, i_ltT, i_ltF, i_leT, i_leF, i_eqT, i_eqF, n_ltT, n_ltF, n_leT, n_leF, n_eqT, n_eqF, tn_9, tn_12, tn_14, tn_20, tn_28, tn_44, tn_52, tn_68, tn_84, tn_100, tn_116, tn_132, fu_e, up_eq, ob_0, ob_b, oi_add, oi_sub, oi_mul, oi_neg, Int.add_zero, Int.zero_add, or_true, true_or, or_false, false_or, and_self, z_i2l, z_l2i, lo_nat, lo_add, lo_sub, lo_mul, lo_0, e_rem, mr_X9_turnsToBell, mh_X9_turnsToBell, k2]
      refine rt_X9_turnsToBell_61 ?_
      have e9 : a_fin (a_one (up B 8 0) (wayOf v0)) 9 = a_fin (a_one B (wayOf v0)) 9 := by rw [p1, pa_k _ _ (by omega)]
      have b9 := hgo.2.2.1
      rw [e9] at n9
      simp (disch := omega) only [wp_c, wp_n, jj_n, v_ct, Int.reduceToNat, Int.toNat_natCast, stE, wlE, lgt, lpu, lpw, v_c2, va_s, true_and, and_true, Option.toList, List.nil_append, List.cons_append, List.take, List.drop, List.reverse, List.reverseAux, List.length_cons, List.length_nil, reduceCtorEq, false_implies, true_implies, forall_const, not_true_eq_false, not_false_eq_true, ite_true, ite_false, Bool.false_eq_true, I_I, J_J, Nat.add_left_cancel_iff, Nat.reduceEqDiff, Nat.add_eq_left, Nat.left_eq_add, false_and, and_false, Nat.reduceSub, Nat.sub_self, Nat.le_refl, Nat.zero_le, ge_iff_le, Nat.reduceAdd, Nat.reduceLeDiff, Nat.zero_add, Nat.reduceLT, z_lt, z_le, z_eq, z_l0, z_g0, z_le0, z_ge0, z_e0, z_e1, z_vp, z_nc, z_rem, z_div, i_ltT, i_ltF, i_leT, i_leF, i_eqT, i_eqF, n_ltT, n_ltF, n_leT, n_leF, n_eqT, n_eqF, tn_9, tn_12, tn_14, tn_20, tn_28, tn_44, tn_52, tn_68, tn_84, tn_100, tn_116, tn_132, fu_e, up_eq, ob_0, ob_b, oi_add, oi_sub, oi_mul, oi_neg, Int.add_zero, Int.zero_add, or_true, true_or, or_false, false_or, and_self, z_i2l, z_l2i, lo_nat, lo_add, lo_sub, lo_mul, lo_0, e_rem, mr_X9_turnsToBell, mh_X9_turnsToBell, k2, d2, t23, u22, u13r, n9]
      refine ⟨fun h => ?_, fun h => ?_⟩
      · rw [if_neg (by omega)] at hq
        refine rt_X9_turnsToBell_76 ?_
        simp (disch := omega) only [wp_c, wp_n, jj_n, v_ct, Int.reduceToNat, Int.toNat_natCast, stE, wlE, lgt, lpu, lpw, v_c2, va_s, true_and, and_true, Option.toList, List.nil_append, List.cons_append, List.take, List.drop, List.reverse, List.reverseAux, List.length_cons, List.length_nil, reduceCtorEq, false_implies, true_implies, forall_const, not_true_eq_false, not_false_eq_true, ite_true, ite_false, Bool.false_eq_true, I_I, J_J, Nat.add_left_cancel_iff, Nat.reduceEqDiff, Nat.add_eq_left, Nat.left_eq_add, false_and, and_false, Nat.reduceSub, Nat.sub_self, Nat.le_refl, Nat.zero_le, ge_iff_le, Nat.reduceAdd, Nat.reduceLeDiff, Nat.zero_add, Nat.reduceLT, z_lt, z_le, z_eq, z_l0, z_g0, z_le0, z_ge0, z_e0, z_e1, z_vp, z_nc, z_rem, z_div, i_ltT, i_ltF, i_leT, i_leF, i_eqT, i_eqF, n_ltT, n_ltF, n_leT, n_leF, n_eqT, n_eqF, tn_9, tn_12, tn_14, tn_20, tn_28, tn_44, tn_52, tn_68, tn_84, tn_100, tn_116, tn_132, fu_e, up_eq, ob_0, ob_b, oi_add, oi_sub, oi_mul, oi_neg, Int.add_zero, Int.zero_add, or_true, true_or, or_false, false_or, and_self, z_i2l, z_l2i, lo_nat, lo_add, lo_sub, lo_mul, lo_0, e_rem, mr_X9_turnsToBell, mh_X9_turnsToBell, k2]
        have := ih (k + 1) (a_fin (a_one (up B 8 0) (wayOf v0))) w2 (by omega) f2 m1 hgo8 o5 (fun w' f' => by
          rw [p1, tb_pa (way_or v0) n (k + 1) _ _ hgo.1]; exact hq w' f')
        simpa using this
      · rw [if_pos (by omega)] at hq
        exact hq w2 f2
theorem x_turnsToBell {w : mW} {A : Row} {Z : Zx} {Y : Yx} {X : Xx} {U : Ux} {Q : mW → mO → Prop} {v1 : Int} (h1 : -2147483648 ≤ v1 ∧ v1 ≤ 2147483647) {v0 : Int} (h0 : v0 = 0 ∨ v0 = 1) (hS : CS w A Z Y X U) (hG : GR A) (hn1 : ¬ (1 ≤ v1 ∧ v1 ≤ 999) → Q w (.inr 1)) (hn2 : (1 ≤ v1 ∧ v1 ≤ 999) → 0 < A 5 → Q w (.inr 0)) (hq : (1 ≤ v1 ∧ v1 ≤ 999) → ¬ 0 < A 5 → ∀ w', CS w' A Z Y X U → FX CL w w' → Q w' (.inl (some (.int (Int32.ofInt (tb (wayOf v0) v1.toNat 1 A))))))  : CT n_X9_turnsToBell [.ref 100, .int (Int32.ofInt v0), .int (Int32.ofInt v1)] w Q := by
  have hCS := hS
  obtain ⟨hC, hS, hB, hE, hH, hX, hU⟩ := hS
  have hz := hG.sz
  have hS0 := hS
  have hJ := hG.1.1
  obtain ⟨⟨k0, c0, c1, c2, c3, c4, c5, c6, c7, c8, c9, c10⟩, -⟩ := id hC
  obtain ⟨⟨s0, s1, s2, s3, s4, s5, s6, s7, s8, s9, s10, s11⟩, r6, r7, r8, r9, r10, r11, r12, r13, q2, q10, q11⟩ := hS.1
  simp only [Nat.reduceAdd] at s0 s1 s2 s3 s4 s5 s6 s7 s8 s9 s10 s11 r6 r7 r8 r9 r10 r11 r12 r13 q2 q10 q11
  obtain ⟨⟨b0, b1, b2, b3, b4⟩, -⟩ := id hS.2.1
  have hjm := hS.jam
  simp only [Nat.reduceAdd] at hjm
  have hK := hC
  have s13 := hC.2.1.2.1.1.1
  by_cases h : 1 ≤ v1 ∧ v1 ≤ 999
  rotate_left
  · refine ct_X9_turnsToBell (rt_X9_turnsToBell_0 ?_)
    simp (disch := omega) only [wp_c, wp_n, jj_n, v_ct, Int.reduceToNat, Int.toNat_natCast, stE, wlE, lgt, lpu, lpw, v_c2, va_s, true_and, and_true, Option.toList, List.nil_append, List.cons_append, List.take, List.drop, List.reverse, List.reverseAux, List.length_cons, List.length_nil, reduceCtorEq, false_implies, true_implies, forall_const, not_true_eq_false, not_false_eq_true, ite_true, ite_false, Bool.false_eq_true, I_I, J_J, Nat.add_left_cancel_iff, Nat.reduceEqDiff, Nat.add_eq_left, Nat.left_eq_add, false_and, and_false, Nat.reduceSub, Nat.sub_self, Nat.le_refl, Nat.zero_le, ge_iff_le, Nat.reduceAdd, Nat.reduceLeDiff, Nat.zero_add, Nat.reduceLT, z_lt, z_le, z_eq, z_l0, z_g0, z_le0, z_ge0, z_e0, z_e1, z_vp, z_nc, z_rem, z_div, i_ltT, i_ltF, i_leT, i_leF, i_eqT, i_eqF, n_ltT, n_ltF, n_leT, n_leF, n_eqT, n_eqF, tn_9, tn_12, tn_14, tn_20, tn_28, tn_44, tn_52, tn_68, tn_84, tn_100, tn_116, tn_132, fu_e, up_eq, ob_0, ob_b, oi_add, oi_sub, oi_mul, oi_neg, Int.add_zero, Int.zero_add, or_true, true_or, or_false, false_or, and_self, z_i2l, z_l2i, lo_nat, lo_add, lo_sub, lo_mul, lo_0, e_rem, mr_X9_turnsToBell, mh_X9_turnsToBell, k0, c0, c1, c2, c3, c4, c5, c6, c7, c8, c9, c10, s0, s1, s2, s3, s4, s5, s6, s7, s8, s9, s10, s11, r6, r7, r8, r9, r10, r11, r12, r13, q2, q10, q11, b0, b1, b2, b3, b4, hjm]
    repeat' (first | (with_reducible refine And.intro ?_ ?_) | (with_reducible intro _) | ((first | refine rt_X9_turnsToBell_12 ?_ | refine rt_X9_turnsToBell_40 ?_ | refine rt_X9_turnsToBell_61 ?_ | refine rt_X9_turnsToBell_76 ?_ | refine rt_X9_turnsToBell_82 ?_); simp (disch := omega) only [wp_c, wp_n, jj_n, v_ct, Int.reduceToNat, Int.toNat_natCast, stE, wlE, lgt, lpu, lpw, v_c2, va_s, true_and, and_true, Option.toList, List.nil_append, List.cons_append, List.take, List.drop, List.reverse, List.reverseAux, List.length_cons, List.length_nil, reduceCtorEq, false_implies, true_implies, forall_const, not_true_eq_false, not_false_eq_true, ite_true, ite_false, Bool.false_eq_true, I_I, J_J, Nat.add_left_cancel_iff, Nat.reduceEqDiff, Nat.add_eq_left, Nat.left_eq_add, false_and, and_false, Nat.reduceSub, Nat.sub_self, Nat.le_refl, Nat.zero_le, ge_iff_le, Nat.reduceAdd, Nat.reduceLeDiff, Nat.zero_add, Nat.reduceLT, z_lt, z_le, z_eq, z_l0, z_g0, z_le0, z_ge0, z_e0, z_e1, z_vp, z_nc, z_rem, z_div, i_ltT, i_ltF, i_leT, i_leF, i_eqT, i_eqF, n_ltT, n_ltF, n_leT, n_leF, n_eqT, n_eqF, tn_9, tn_12, tn_14, tn_20, tn_28, tn_44, tn_52, tn_68, tn_84, tn_100, tn_116, tn_132, fu_e, up_eq, ob_0, ob_b, oi_add, oi_sub, oi_mul, oi_neg, Int.add_zero, Int.zero_add, or_true, true_or, or_false, false_or, and_self, z_i2l, z_l2i, lo_nat, lo_add, lo_sub, lo_mul, lo_0, e_rem, mr_X9_turnsToBell, mh_X9_turnsToBell, k0, c0, c1, c2, c3, c4, c5, c6, c7, c8, c9, c10, s0, s1, s2, s3, s4, s5, s6, s7, s8, s9, s10, s11, r6, r7, r8, r9, r10, r11, r12, r13, q2, q10, q11, b0, b1, b2, b3, b4, hjm]))
    all_goals first | (exfalso; omega) | exact hn1 h
  refine ct_X9_turnsToBell (rt_X9_turnsToBell_0 ?_)
  simp (disch := omega) only [wp_c, wp_n, jj_n, v_ct, Int.reduceToNat, Int.toNat_natCast, stE, wlE, lgt, lpu, lpw, v_c2, va_s, true_and, and_true, Option.toList, List.nil_append, List.cons_append, List.take, List.drop, List.reverse, List.reverseAux, List.length_cons, List.length_nil, reduceCtorEq, false_implies, true_implies, forall_const, not_true_eq_false, not_false_eq_true, ite_true, ite_false, Bool.false_eq_true, I_I, J_J, Nat.add_left_cancel_iff, Nat.reduceEqDiff, Nat.add_eq_left, Nat.left_eq_add, false_and, and_false, Nat.reduceSub, Nat.sub_self, Nat.le_refl, Nat.zero_le, ge_iff_le, Nat.reduceAdd, Nat.reduceLeDiff, Nat.zero_add, Nat.reduceLT, z_lt, z_le, z_eq, z_l0, z_g0, z_le0, z_ge0, z_e0, z_e1, z_vp, z_nc, z_rem, z_div, i_ltT, i_ltF, i_leT, i_leF, i_eqT, i_eqF, n_ltT, n_ltF, n_leT, n_leF, n_eqT, n_eqF, tn_9, tn_12, tn_14, tn_20, tn_28, tn_44, tn_52, tn_68, tn_84, tn_100, tn_116, tn_132, fu_e, up_eq, ob_0, ob_b, oi_add, oi_sub, oi_mul, oi_neg, Int.add_zero, Int.zero_add, or_true, true_or, or_false, false_or, and_self, z_i2l, z_l2i, lo_nat, lo_add, lo_sub, lo_mul, lo_0, e_rem, mr_X9_turnsToBell, mh_X9_turnsToBell, k0, c0, c1, c2, c3, c4, c5, c6, c7, c8, c9, c10, s0, s1, s2, s3, s4, s5, s6, s7, s8, s9, s10, s11, r6, r7, r8, r9, r10, r11, r12, r13, q2, q10, q11, b0, b1, b2, b3, b4, hjm]
  refine rt_X9_turnsToBell_23 ?_
  simp (disch := omega) only [wp_c, wp_n, jj_n, v_ct, Int.reduceToNat, Int.toNat_natCast, stE, wlE, lgt, lpu, lpw, v_c2, va_s, true_and, and_true, Option.toList, List.nil_append, List.cons_append, List.take, List.drop, List.reverse, List.reverseAux, List.length_cons, List.length_nil, reduceCtorEq, false_implies, true_implies, forall_const, not_true_eq_false, not_false_eq_true, ite_true, ite_false, Bool.false_eq_true, I_I, J_J, Nat.add_left_cancel_iff, Nat.reduceEqDiff, Nat.add_eq_left, Nat.left_eq_add, false_and, and_false, Nat.reduceSub, Nat.sub_self, Nat.le_refl, Nat.zero_le, ge_iff_le, Nat.reduceAdd, Nat.reduceLeDiff, Nat.zero_add, Nat.reduceLT, z_lt, z_le, z_eq, z_l0, z_g0, z_le0, z_ge0, z_e0, z_e1, z_vp, z_nc, z_rem, z_div, i_ltT, i_ltF, i_leT, i_leF, i_eqT, i_eqF, n_ltT, n_ltF, n_leT, n_leF, n_eqT, n_eqF, tn_9, tn_12, tn_14, tn_20, tn_28, tn_44, tn_52, tn_68, tn_84, tn_100, tn_116, tn_132, fu_e, up_eq, ob_0, ob_b, oi_add, oi_sub, oi_mul, oi_neg, Int.add_zero, Int.zero_add, or_true, true_or, or_false, false_or, and_self, z_i2l, z_l2i, lo_nat, lo_add, lo_sub, lo_mul, lo_0, e_rem, mr_X9_turnsToBell, mh_X9_turnsToBell, k0, c0, c1, c2, c3, c4, c5, c6, c7, c8, c9, c10, s0, s1, s2, s3, s4, s5, s6, s7, s8, s9, s10, s11, r6, r7, r8, r9, r10, r11, r12, r13, q2, q10, q11, b0, b1, b2, b3, b4, hjm]
  refine x_requireNoJam hCS hG (fun h5 => hn2 h h5) (fun h5 => ?_)
  simp (disch := omega) only [wp_c, wp_n, jj_n, v_ct, Int.reduceToNat, Int.toNat_natCast, stE, wlE, lgt, lpu, lpw, v_c2, va_s, true_and, and_true, Option.toList, List.nil_append, List.cons_append, List.take, List.drop, List.reverse, List.reverseAux, List.length_cons, List.length_nil, reduceCtorEq, false_implies, true_implies, forall_const, not_true_eq_false, not_false_eq_true, ite_true, ite_false, Bool.false_eq_true, I_I, J_J, Nat.add_left_cancel_iff, Nat.reduceEqDiff, Nat.add_eq_left, Nat.left_eq_add, false_and, and_false, Nat.reduceSub, Nat.sub_self, Nat.le_refl, Nat.zero_le, ge_iff_le, Nat.reduceAdd, Nat.reduceLeDiff, Nat.zero_add, Nat.reduceLT, z_lt, z_le, z_eq, z_l0, z_g0, z_le0, z_ge0, z_e0, z_e1, z_vp, z_nc, z_rem, z_div, i_ltT, i_ltF, i_leT, i_leF, i_eqT, i_eqF, n_ltT, n_ltF, n_leT, n_leF, n_eqT, n_eqF, tn_9, tn_12, tn_14, tn_20, tn_28, tn_44, tn_52, tn_68, tn_84, tn_100, tn_116, tn_132, fu_e, up_eq, ob_0, ob_b, oi_add, oi_sub, oi_mul, oi_neg, Int.add_zero, Int.zero_add, or_true, true_or, or_false, false_or, and_self, z_i2l, z_l2i, lo_nat, lo_add, lo_sub, lo_mul, lo_0, e_rem, mr_X9_turnsToBell, mh_X9_turnsToBell, k0, c0, c1, c2, c3, c4, c5, c6, c7, c8, c9, c10, s0, s1, s2, s3, s4, s5, s6, s7, s8, s9, s10, s11, r6, r7, r8, r9, r10, r11, r12, r13, q2, q10, q11, b0, b1, b2, b3, b4, hjm, s13]
  refine c_copyFrom (by omega) hC.2.1.2.1 hS hJ fun w1 g1 g2 => ?_
  have f1 : FX SX w w1 := g2.toX (fun a a1 a2 => ⟨a1, by omega⟩)
  have nx : ∀ a, SX a → 113 ≤ a ∧ a < 125 := fun a q => q
  have fin : ∀ w2, FX SX w w2 → CS w2 A Z Y X U ∧ FX CL w w2 := fun w2 f => ⟨hCS.fx f (fun a a1 a2 q => Or.inl (nx a q)), f.mono (fun a q => by have := nx a q; unfold CL; omega)⟩
  have h50 := (hG.free h5).1
  have k1 := (hC.fx f1).1.1
  have d1 := (hC.fx f1).1.2.2.1
  have t13 := g1.1.1.1
  have t22 := g1.1.1.2.2.2.2.2.2.2.2.2.1
  have t13r := g1.1.2.2.2.2.2.2.2.2.1
  simp only [Nat.reduceAdd] at t22 t13r
  simp (disch := omega) only [wp_c, wp_n, jj_n, v_ct, Int.reduceToNat, Int.toNat_natCast, stE, wlE, lgt, lpu, lpw, v_c2, va_s, true_and, and_true, Option.toList, List.nil_append, List.cons_append, List.take, List.drop, List.reverse, List.reverseAux, List.length_cons, List.length_nil, reduceCtorEq, false_implies, true_implies, forall_const, not_true_eq_false, not_false_eq_true, ite_true, ite_false, Bool.false_eq_true, I_I, J_J, Nat.add_left_cancel_iff, Nat.reduceEqDiff, Nat.add_eq_left, Nat.left_eq_add, false_and, and_false, Nat.reduceSub, Nat.sub_self, Nat.le_refl, Nat.zero_le, ge_iff_le, Nat.reduceAdd, Nat.reduceLeDiff, Nat.zero_add, Nat.reduceLT, z_lt, z_le, z_eq, z_l0, z_g0, z_le0, z_ge0, z_e0, z_e1, z_vp, z_nc, z_rem, z_div, i_ltT, i_ltF, i_leT, i_leF, i_eqT, i_eqF, n_ltT, n_ltF, n_leT, n_leF, n_eqT, n_eqF, tn_9, tn_12, tn_14, tn_20, tn_28, tn_44, tn_52, tn_68, tn_84, tn_100, tn_116, tn_132, fu_e, up_eq, ob_0, ob_b, oi_add, oi_sub, oi_mul, oi_neg, Int.add_zero, Int.zero_add, or_true, true_or, or_false, false_or, and_self, z_i2l, z_l2i, lo_nat, lo_add, lo_sub, lo_mul, lo_0, e_rem, mr_X9_turnsToBell, mh_X9_turnsToBell, k1, d1, t13]
  have := x_tb_40 (w0 := w) (A0 := A) (Q := Q) h0 h hC v1.toNat 1 A w1 (by omega) f1 g1 hG h50 (fun w' f' => hq h h5 w' (fin w' f').1 (fin w' f').2)
  simpa using this
