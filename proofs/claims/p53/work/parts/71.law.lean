/-! a machine without faults adds -/
def NF (A : Row) : Prop := A 3 = 16 ∧ ∀ i, i < 16 → A (68 + i) = 0
theorem tn_u {f g : Nat → Int} {i : Nat} : ∀ n : Nat, i < n → (∀ j, j < n → j ≠ i → g j = f j) → tn g n = tn f n + (g i - f i) * 10 ^ i := by
  intro n
  induction n with
  | zero => intro h; omega
  | succ n ih =>
    intro h e
    rw [tn, tn]
    by_cases q : i = n
    · subst q
      have : tn g i = tn f i := tn_c i (fun j hj => e j (by omega) (by omega))
      rw [this, Int.sub_mul]
      omega
    · rw [ih (by omega) (fun j hj => e j (by omega)), e n (by omega) (by omega)]
      omega
def VA (A : Row) (m : Nat) : Int := tn (fun i => A (28 + i)) m + A 7 * (10 * tn (fun i => A (52 + i)) m)
theorem VA_mv {A : Row} {j m : Nat} {x : Int} (hj : j < m) (hm : m ≤ 16) (hI : TI A) (hx : 0 ≤ x ∧ x ≤ 9) (hl : A (52 + j) = 0 ∨ ¬ (A (28 + j) + A 7 * x < 0 ∨ 9 < A (28 + j) + A 7 * x)) : VA (a_mv A j x) m = VA A m + A 7 * (x * 10 ^ j) := by
  have h7 := hI.2.1
  have hd := hI.2.2.2.1 j (by omega)
  have e7 : a_mv A j x 7 = A 7 := mv_k _ _ _ _ (by omega) (by unfold kp; omega)
  have ed : ∀ i, i < m → i ≠ j → a_mv A j x (28 + i) = A (28 + i) := fun i hi hn => by
    rw [mv_at, if_neg (by omega), if_neg (by omega), if_neg (by omega), if_neg (by omega)]
  have el : ∀ i, i < m → i ≠ j → a_mv A j x (52 + i) = A (52 + i) := fun i hi hn => by
    rw [mv_at, if_neg (by omega), if_neg (by omega), if_neg (by omega), if_neg (by omega)]
  have dj : a_mv A j x (28 + j) = (A (28 + j) + A 7 * x + 10) % 10 := by
    rw [mv_at, if_neg (by omega), if_neg (by omega), if_pos rfl]
  have lj : a_mv A j x (52 + j) = if (A (28 + j) + A 7 * x < 0 ∨ 9 < A (28 + j) + A 7 * x) then 1 else A (52 + j) := by
    rw [mv_at, if_neg (by omega), if_neg (by omega), if_neg (by omega)]
    by_cases q : A (28 + j) + A 7 * x < 0 ∨ 9 < A (28 + j) + A 7 * x
    · rw [if_pos ⟨rfl, q⟩, if_pos q]
    · rw [if_neg (fun z => q z.2), if_neg q]
  have s1 := tn_u (f := fun i => A (28 + i)) (g := fun i => a_mv A j x (28 + i)) m hj ed
  have s2 := tn_u (f := fun i => A (52 + i)) (g := fun i => a_mv A j x (52 + i)) m hj el
  unfold VA
  rw [s1, s2, e7, dj, lj]
  generalize (10 : Int) ^ j = X
  generalize tn (fun i => A (28 + i)) m = S
  generalize tn (fun i => A (52 + i)) m = T
  rcases h7 with h7 | h7 <;> rw [h7] at hl ⊢
  · by_cases q : A (28 + j) + 1 * x < 0 ∨ 9 < A (28 + j) + 1 * x
    · have l0 : A (52 + j) = 0 := by
        rcases hl with z | z
        · exact z
        · exact absurd q z
      rw [if_pos q, l0, show (A (28 + j) + 1 * x + 10) % 10 - A (28 + j) = x - 10 by omega, Int.sub_mul]
      omega
    · rw [if_neg q, show (A (28 + j) + 1 * x + 10) % 10 - A (28 + j) = x by omega, Int.sub_self]
      omega
  · by_cases q : A (28 + j) + -1 * x < 0 ∨ 9 < A (28 + j) + -1 * x
    · have l0 : A (52 + j) = 0 := by
        rcases hl with z | z
        · exact z
        · exact absurd q z
      rw [if_pos q, l0, show (A (28 + j) + -1 * x + 10) % 10 - A (28 + j) = 10 - x by omega, Int.sub_mul]
      omega
    · rw [if_neg q, show (A (28 + j) + -1 * x + 10) % 10 - A (28 + j) = -x by omega, Int.sub_self, Int.neg_mul]
      omega
/-- a wheel whose lever is set bears one step more -/
def SK (A : Row) (k : Nat) : Prop := ∀ j, k ≤ j → j < 16 → A (52 + j) = 1 → (A 7 = 1 → A (28 + j) ≤ 8) ∧ (A 7 = -1 → 1 ≤ A (28 + j))
theorem mv_o {A : Row} {i j : Nat} {x : Int} (hj : j < 16) (hi : i < 16) (h : i ≠ j) : a_mv A j x (28 + i) = A (28 + i) ∧ a_mv A j x (52 + i) = A (52 + i) :=
  ⟨by rw [mv_at, if_neg (by omega), if_neg (by omega), if_neg (by omega), if_neg (by omega)], by rw [mv_at, if_neg (by omega), if_neg (by omega), if_neg (by omega), if_neg (by omega)]⟩
theorem NF.mv {A : Row} {j : Nat} {x : Int} (h : NF A) (hj : j < 16) : NF (a_mv A j x) := ⟨by rw [mv_k _ _ _ _ hj (by unfold kp; omega)]; exact h.1, fun i hi => by rw [mv_k _ _ _ _ hj (by unfold kp; omega)]; exact h.2 i hi⟩
theorem SK.mv {A : Row} {j k : Nat} {x : Int} (h : SK A k) (hj : j < 16) (hI : TI A) (hx : 0 ≤ x ∧ x ≤ 9) (hl : A (52 + j) = 0) : SK (a_mv A j x) k := by
  intro i h1 h2 h3
  have e7 : a_mv A j x 7 = A 7 := mv_k _ _ _ _ hj (by unfold kp; omega)
  have hd := hI.2.2.2.1 j hj
  rw [e7]
  by_cases q : i = j
  · subst q
    have dj : a_mv A i x (28 + i) = (A (28 + i) + A 7 * x + 10) % 10 := by
      rw [mv_at, if_neg (by omega), if_neg (by omega), if_pos rfl]
    rw [dj]
    rw [mv_at, if_neg (by omega), if_neg (by omega), if_neg (by omega)] at h3
    have hov : A (28 + i) + A 7 * x < 0 ∨ 9 < A (28 + i) + A 7 * x := by
      by_cases z : A (28 + i) + A 7 * x < 0 ∨ 9 < A (28 + i) + A 7 * x
      · exact z
      · rw [if_neg (fun y => z y.2)] at h3; omega
    refine ⟨fun z => ?_, fun z => ?_⟩
    · rw [z] at hov ⊢; omega
    · rw [z] at hov ⊢; omega
  · obtain ⟨d1, d2⟩ := mv_o (A := A) (x := x) hj h2 q
    rw [d2] at h3
    rw [d1]
    exact h i h1 h2 h3
theorem pins_V {m : Nat} : ∀ (n : Nat) (A : Row) (p : Nat), (p : Int) + n = A 0 → TI A → NF A → SK A 0 → m = (A 1).toNat → (∀ i, (A 4).toNat + p ≤ i → i < 16 → A (52 + i) = 0) →
    (a_pins n A p).2 = none ∧ VA (a_pins n A p).1 m = VA A m + A 7 * (10 ^ (A 4).toNat * (10 ^ p * tn (fun i => A (20 + (p + i))) n)) ∧ SK (a_pins n A p).1 0 ∧ NF (a_pins n A p).1 ∧ ∀ i, i < (A 4).toNat + p → (a_pins n A p).1 (52 + i) = A (52 + i) := by
  intro n
  induction n with
  | zero =>
    intro A p hn hI hN hS hm hl
    refine ⟨rfl, ?_, hS, hN, fun i hi => rfl⟩
    show VA A m = VA A m + A 7 * (10 ^ (A 4).toNat * (10 ^ p * 0))
    rw [Int.mul_zero, Int.mul_zero, Int.mul_zero, Int.add_zero]
  | succ n ih =>
    intro A p hn hI hN hS hm hl
    have h0 := hI.1
    have hp := hI.2.2.1 p (by omega)
    rw [tn_first]
    simp only [Nat.add_zero]
    have es : ∀ B : Row, (∀ i, i < n → B (20 + (p + 1 + i)) = A (20 + (p + 1 + i))) → tn (fun i => A (20 + (p + (i + 1)))) n = tn (fun i => B (20 + (p + 1 + i))) n := fun B hB => tn_c _ (fun i hi => by rw [hB i hi, show p + (i + 1) = p + 1 + i by omega])
    rw [a_pins]
    by_cases q : A (20 + p) = 0
    · rw [if_pos q]
      obtain ⟨i1, i2, i3, i4, i5⟩ := ih A (p + 1) (by omega) hI hN hS hm (fun i a b => hl i (by omega) b)
      refine ⟨i1, ?_, i3, i4, fun i hi => i5 i (by omega)⟩
      rw [i2, q, es A (fun _ _ => rfl), Int.zero_add, Int.pow_succ, Int.mul_assoc]
    · rw [if_neg q, if_neg (by rw [hN.2 _ (by omega)]; omega)]
      have hj : (A 4).toNat + p < 16 := by omega
      have k : ∀ j, kp j → a_mv A ((A 4).toNat + p) (A (20 + p)) j = A j := fun j hkj => mv_k _ _ _ _ hj hkj
      have e0 := k 0 (by unfold kp; omega)
      have e1 := k 1 (by unfold kp; omega)
      have e4 := k 4 (by unfold kp; omega)
      have e7 := k 7 (by unfold kp; omega)
      have hlj := hl ((A 4).toNat + p) (by omega) hj
      obtain ⟨i1, i2, i3, i4, i5⟩ := ih (a_mv A ((A 4).toNat + p) (A (20 + p))) (p + 1) (by omega) (hI.mv hj hp) (hN.mv hj) (hS.mv hj hI hp hlj) (by rw [e1]; exact hm) (fun i a b => by
        rw [e4] at a
        rw [(mv_o (A := A) hj b (by omega)).2]
        exact hl i (by omega) b)
      refine ⟨i1, ?_, i3, i4, fun i hi => ?_⟩
      · rw [i2, VA_mv (by omega) (by omega) hI hp (Or.inl hlj), e4, e7, es (a_mv A ((A 4).toNat + p) (A (20 + p))) (fun i hi => k _ (by unfold kp; omega)), Int.pow_add, Int.pow_succ]
        generalize (10 : Int) ^ (A 4).toNat = C
        generalize (10 : Int) ^ p = D
        generalize tn (fun i => a_mv A ((A 4).toNat + p) (A (20 + p)) (20 + (p + 1 + i))) n = t
        generalize A (20 + p) = x
        have e : C * (D * (x + 10 * t)) = x * (C * D) + C * (D * 10 * t) := by
          rw [Int.mul_add, Int.mul_add, Int.mul_comm x, Int.mul_assoc C, Int.mul_assoc D]
        rw [e, Int.mul_add, Int.add_assoc]
      · rw [i5 i (by rw [e4]; omega), (mv_o (A := A) hj (by omega) (by omega)).2]
theorem VA_clr {A A' : Row} {wh m : Nat} (hm : m ≤ 16) (hw : wh < m) (h1 : A (52 + wh) = 1) (h0 : A' (52 + wh) = 0) (ed : ∀ i, i < 16 → A' (28 + i) = A (28 + i)) (el : ∀ i, i < 16 → i ≠ wh → A' (52 + i) = A (52 + i)) (e7 : A' 7 = A 7) : VA A' m = VA A m - A 7 * (10 * 10 ^ wh) := by
  have s1 : tn (fun i => A' (28 + i)) m = tn (fun i => A (28 + i)) m := tn_c m (fun i hi => ed i (by omega))
  have s2 := tn_u (f := fun i => A (52 + i)) (g := fun i => A' (52 + i)) m hw (fun i hi hn => el i (by omega) hn)
  unfold VA
  rw [s1, s2, e7, h0, h1, show (0 : Int) - 1 = -1 by decide, Int.neg_one_mul, Int.mul_add, Int.mul_add, Int.mul_neg, Int.mul_neg]
  omega
theorem lev_V {m : Nat} : ∀ (n : Nat) (A : Row) (wh : Nat) (c l : Int32), (wh : Int) + n = A 1 → TI A → NF A → SK A (wh + 1) → m = (A 1).toNat →
    (a_lev n A wh c l).2.1 = none ∧ VA (a_lev n A wh c l).1 m = VA A m - A 7 * (10 ^ m * ((a_lev n A wh c l).1 9 - A 9)) ∧ A 9 ≤ (a_lev n A wh c l).1 9 ∧ NF (a_lev n A wh c l).1 ∧ (∀ i, i < 16 → i < wh → (a_lev n A wh c l).1 (52 + i) = A (52 + i)) ∧ (∀ i, i < 16 → wh ≤ i → (i : Int) < A 1 → (a_lev n A wh c l).1 (52 + i) = 0) := by
  intro n
  induction n with
  | zero =>
    intro A wh c l hn hI hN hS hm
    refine ⟨rfl, ?_, Int.le_refl _, hN, fun i _ _ => rfl, fun i _ a b => by omega⟩
    show VA A m = VA A m - A 7 * (10 ^ m * (A 9 - A 9))
    rw [Int.sub_self, Int.mul_zero, Int.mul_zero, Int.sub_zero]
  | succ n ih =>
    intro A wh c l hn hI hN hS hm
    have h0 := hI.1
    have hlv := hI.2.2.2.2.2.1 wh (by omega)
    rw [a_lev]
    by_cases q : A (52 + wh) = 0
    · rw [if_pos q]
      obtain ⟨i1, i2, i3, i4, i5, i6⟩ := ih A (wh + 1) (Int32.ofInt 0) l (by omega) hI hN (fun j a b => hS j (by omega) b) hm
      refine ⟨i1, i2, i3, i4, fun i a b => i5 i a (by omega), fun i a b d => ?_⟩
      by_cases z : i = wh
      · rw [z, i5 wh (by omega) (by omega)]; exact q
      · exact i6 i a (by omega) d
    rw [if_neg q]
    have hl1 : A (52 + wh) = 1 := by omega
    have tk : ∀ (B : Row) (k : Nat), k < 3 → (∀ j, ¬ j = 52 + wh → ¬ j = 9 + k → ¬ j = 14 + k → up (a_tal B k) (52 + wh) 0 j = B j) ∧ up (a_tal B k) (52 + wh) 0 (52 + wh) = 0 ∧ up (a_tal B k) (52 + wh) 0 (9 + k) = B (9 + k) + 1 := by
      intro B k hk
      refine ⟨fun j a b d => ?_, ?_, ?_⟩
      · rw [up_eq, if_neg a]; simp only [a_tal, up_eq]; rw [if_neg d, if_neg b]
      · rw [up_eq, if_pos rfl]
      · rw [up_eq, if_neg (by omega)]; simp only [a_tal, up_eq]; rw [if_neg (by omega), if_pos trivial]
    by_cases q1 : (wh : Int) = A 1 - 1
    · rw [if_pos q1]
      obtain ⟨t1, t2, t3⟩ := tk A 0 (by omega)
      have ea : ∀ j, ¬ j = 52 + wh → ¬ j = 9 → ¬ j = 14 → up (a_tal A 0) (52 + wh) 0 j = A j := t1
      have e9 : up (a_tal A 0) (52 + wh) 0 9 = A 9 + 1 := t3
      have hv := VA_clr (A' := up (a_tal A 0) (52 + wh) 0) (m := m) (by omega) (by omega) hl1 t2 (fun i hi => ea _ (by omega) (by omega) (by omega)) (fun i hi hn => ea _ (by omega) (by omega) (by omega)) (ea 7 (by omega) (by omega) (by omega))
      have hTI : TI (up (a_tal A 0) (52 + wh) 0) := by
        have := lev_TI (n + 1) A wh c l (by omega) hI
        rw [a_lev, if_neg q, if_pos q1] at this
        have hn0 : n = 0 := by omega
        rw [hn0] at this
        exact this
      obtain ⟨i1, i2, i3, i4, i5, i6⟩ := ih (up (a_tal A 0) (52 + wh) 0) (wh + 1) (Int32.ofInt 0) l (by rw [ea 1 (by omega) (by omega) (by omega)]; omega) hTI ⟨by rw [ea 3 (by omega) (by omega) (by omega)]; exact hN.1, fun i hi => by rw [ea _ (by omega) (by omega) (by omega)]; exact hN.2 i hi⟩ (fun j a b d => by
          rw [ea _ (by omega) (by omega) (by omega)] at d
          rw [ea 7 (by omega) (by omega) (by omega), ea _ (by omega) (by omega) (by omega)]
          exact hS j (by omega) b d) (by rw [ea 1 (by omega) (by omega) (by omega)]; exact hm)
      rw [e9] at i2 i3
      refine ⟨i1, ?_, by omega, i4, fun i a b => ?_, fun i a b d => ?_⟩
      · rw [i2, hv, ea 7 (by omega) (by omega) (by omega)]
        have em : (10 : Int) ^ m = 10 * 10 ^ wh := by rw [show m = wh + 1 by omega, Int.pow_succ, Int.mul_comm]
        rw [← em]
        generalize (a_lev n (up (a_tal A 0) (52 + wh) 0) (wh + 1) (Int32.ofInt 0) l).1 9 = y
        rw [show y - (A 9 + 1) = (y - A 9) - 1 by omega, Int.mul_sub (10 ^ m), Int.mul_one, Int.mul_sub (A 7)]
        omega
      · rw [i5 i a (by omega), ea _ (by omega) (by omega) (by omega)]
      · by_cases z : i = wh
        · rw [z, i5 wh (by omega) (by omega)]; exact t2
        · omega
    rw [if_neg q1, if_neg (by rw [hN.2 wh (by omega), hN.1]; omega), if_neg (by rw [hN.2 (wh + 1) (by omega)]; omega)]
    have hj : wh + 1 < 16 := by omega
    have k : ∀ j, kp j → a_mv A (wh + 1) 1 j = A j := fun j hkj => mv_k _ _ _ _ hj hkj
    have hd1 := hI.2.2.2.1 (wh + 1) hj
    have hl2 := hI.2.2.2.2.2.1 (wh + 1) hj
    have h7 := hI.2.1
    have hno : A (52 + (wh + 1)) = 0 ∨ ¬ (A (28 + (wh + 1)) + A 7 * 1 < 0 ∨ 9 < A (28 + (wh + 1)) + A 7 * 1) := by
      by_cases z : A (52 + (wh + 1)) = 0
      · exact Or.inl z
      · have := hS (wh + 1) (by omega) hj (by omega)
        right
        rcases h7 with y | y <;> rw [y] at this ⊢
        · have := this.1 rfl; omega
        · have := this.2 rfl; omega
    have hvm := VA_mv (m := m) (x := 1) (by omega) (by omega) hI (by omega) hno
    obtain ⟨t1, t2, -⟩ := tk (a_mv A (wh + 1) 1) 1 (by omega)
    have ea : ∀ j, ¬ j = 52 + wh → ¬ j = 10 → ¬ j = 15 → up (a_tal (a_mv A (wh + 1) 1) 1) (52 + wh) 0 j = a_mv A (wh + 1) 1 j := t1
    have e9m : a_mv A (wh + 1) 1 9 = A 9 := by rw [mv_at, if_neg (by omega), if_neg (by omega), if_neg (by omega), if_neg (by omega)]
    have hlm : a_mv A (wh + 1) 1 (52 + wh) = 1 := by rw [(mv_o (A := A) hj (by omega) (by omega)).2]; exact hl1
    have hv := VA_clr (A' := up (a_tal (a_mv A (wh + 1) 1) 1) (52 + wh) 0) (m := m) (by omega) (by omega) hlm t2 (fun i hi => ea _ (by omega) (by omega) (by omega)) (fun i hi hn => ea _ (by omega) (by omega) (by omega)) (ea 7 (by omega) (by omega) (by omega))
    have hTI : TI (up (a_tal (a_mv A (wh + 1) 1) 1) (52 + wh) 0) := by
      have hm1 := hI.mv (j := wh + 1) (m := 1) hj ⟨by omega, by omega⟩
      obtain ⟨s1, s2, s3, s4, s5, s6, s7⟩ := hm1
      refine ⟨?_, ?_, fun j hj => ?_, fun j hj => ?_, fun j hj => ?_, fun j hj => ?_, fun j hj => ?_⟩
      · rw [ea 0 (by omega) (by omega) (by omega), ea 1 (by omega) (by omega) (by omega), ea 2 (by omega) (by omega) (by omega), ea 3 (by omega) (by omega) (by omega), ea 4 (by omega) (by omega) (by omega)]; exact s1
      · rw [ea 7 (by omega) (by omega) (by omega)]; exact s2
      · rw [ea _ (by omega) (by omega) (by omega)]; exact s3 j hj
      · rw [ea _ (by omega) (by omega) (by omega)]; exact s4 j hj
      · rw [ea _ (by omega) (by omega) (by omega)]; exact s5 j hj
      · by_cases z : j = wh
        · rw [z, t2]; omega
        · rw [ea _ (by omega) (by omega) (by omega)]; exact s6 j hj
      · rw [ea _ (by omega) (by omega) (by omega)]; exact s7 j hj
    have e1 : up (a_tal (a_mv A (wh + 1) 1) 1) (52 + wh) 0 1 = A 1 := by rw [ea 1 (by omega) (by omega) (by omega)]; exact k 1 (by unfold kp; omega)
    have e7 : up (a_tal (a_mv A (wh + 1) 1) 1) (52 + wh) 0 7 = A 7 := by rw [ea 7 (by omega) (by omega) (by omega)]; exact k 7 (by unfold kp; omega)
    have e9 : up (a_tal (a_mv A (wh + 1) 1) 1) (52 + wh) 0 9 = A 9 := by rw [ea 9 (by omega) (by omega) (by omega)]; exact e9m
    have hNm := hN.mv (j := wh + 1) (x := 1) hj
    obtain ⟨i1, i2, i3, i4, i5, i6⟩ := ih (up (a_tal (a_mv A (wh + 1) 1) 1) (52 + wh) 0) (wh + 1) (c + Int32.ofInt 1) (if l < c + Int32.ofInt 1 then c + Int32.ofInt 1 else l) (by rw [e1]; omega) hTI ⟨by rw [ea 3 (by omega) (by omega) (by omega)]; exact hNm.1, fun i hi => by rw [ea _ (by omega) (by omega) (by omega)]; exact hNm.2 i hi⟩ (fun j a b d => by
        obtain ⟨o1, o2⟩ := mv_o (A := A) (i := j) (x := 1) hj b (by omega)
        rw [ea _ (by omega) (by omega) (by omega), o2] at d
        rw [e7, ea _ (by omega) (by omega) (by omega), o1]
        exact hS j (by omega) b d) (by rw [e1]; exact hm)
    rw [e9] at i2 i3
    refine ⟨i1, ?_, i3, i4, fun i a b => ?_, fun i a b d => ?_⟩
    · rw [i2, hv, hvm, e7, k 7 (by unfold kp; omega), Int.one_mul, Int.pow_succ, Int.mul_comm (10 ^ wh) 10]
      omega
    · rw [i5 i a (by omega), ea _ (by omega) (by omega) (by omega), (mv_o (A := A) hj (by omega) (by omega)).2]
    · by_cases z : i = wh
      · rw [z, i5 wh (by omega) (by omega)]; exact t2
      · exact i6 i a (by omega) (by rw [e1]; exact d)
theorem hn_t (f : Nat → Int) (n : Nat) : hn f n 0 = tn f n := by rw [hn_tn, Int.zero_mul, Int.zero_add]
theorem one_add {A : Row} {way : Int} (hG : GR A) (hN : NF A) (hw : way = 1 ∨ way = -1) :
    (a_one A way).2.1 = none ∧ r_num (a_fin (a_one A way)) = r_num A + way * (10 ^ (A 4).toNat * p_num A) - way * (10 ^ (A 1).toNat * a_fin (a_one A way) 9) ∧ NF (a_fin (a_one A way)) ∧ 0 ≤ a_fin (a_one A way) 9 ∧ (∀ j, (j < 5 ∨ j = 8 ∨ (20 ≤ j ∧ j < 28)) → a_fin (a_one A way) j = A j) ∧
    du (a_fin (a_one A way)) = (du A + way * (p_num A * 10 ^ (A 4).toNat)) % 10 ^ (A 1).toNat ∧ k_num (a_fin (a_one A way)) = (if A 4 < A 2 then (k_num A + (if 0 < A 8 then -way else way) * 10 ^ (A 4).toNat) % 10 ^ (A 2).toNat else k_num A) := by
  have hJ := hG.1.1
  have h18 := hG.1.2.2
  have hI := beg_TI (way := way) hJ.1 hw
  have bk : ∀ j, ¬ j = 7 → ¬ ((52 ≤ j ∧ j < 68) ∨ (84 ≤ j ∧ j < 100) ∨ (9 ≤ j ∧ j < 12)) → a_beg A way j = A j := fun j h1 h2 => by rw [beg_at, if_neg h1, if_neg h2]
  have b7 : a_beg A way 7 = way := by rw [beg_at, if_pos rfl]
  have bz : ∀ j, ((52 ≤ j ∧ j < 68) ∨ (84 ≤ j ∧ j < 100) ∨ (9 ≤ j ∧ j < 12)) → a_beg A way j = 0 := fun j h => by rw [beg_at, if_neg (by omega), if_pos h]
  have hNC : NF (a_beg A way) := ⟨by rw [bk 3 (by omega) (by omega)]; exact hN.1, fun i hi => by rw [bk _ (by omega) (by omega)]; exact hN.2 i hi⟩
  have hSC : SK (a_beg A way) 0 := fun j _ b d => by rw [bz _ (by omega)] at d; omega
  have hdC : ∀ j, j < 16 → 0 ≤ a_beg A way (116 + j) ∧ a_beg A way (116 + j) ≤ 9 := fun j hj => by rw [bk _ (by omega) (by omega)]; exact hJ.2 j hj
  have rC : tn (fun i => a_beg A way (28 + i)) (A 1).toNat = r_num A := by
    unfold r_num; rw [hn_t]; exact tn_c _ (fun i hi => by have := hG.sz; rw [bk _ (by omega) (by omega)])
  have tC : tn (fun i => a_beg A way (52 + i)) (A 1).toNat = 0 := by
    rw [tn_c (g := fun _ => 0) _ (fun i hi => bz _ (by have := hG.sz; omega))]; exact tn_0 _
  have pC : tn (fun i => a_beg A way (20 + (0 + i))) (A 0).toNat = p_num A := by
    unfold p_num; rw [hn_t]; exact tn_c _ (fun i hi => by have := hG.sz; rw [Nat.zero_add, bk _ (by omega) (by omega)])
  have dC : du (a_beg A way) = du A := du_beg A way
  have p2C : p_num (a_beg A way) = p_num A := p_c (bk 0 (by omega) (by omega)) (by have := hG.sz; omega) (fun j hj => bk _ (by omega) (by omega))
  have kC : k_num (a_beg A way) = k_num A := k_c (bk 2 (by omega) (by omega)) (by have := hG.sz; omega) (fun j hj => bk _ (by omega) (by omega))
  have c0 := bk 0 (by omega) (by omega)
  have c1 := bk 1 (by omega) (by omega)
  have c2 := bk 2 (by omega) (by omega)
  have c3 := bk 3 (by omega) (by omega)
  have c4 := bk 4 (by omega) (by omega)
  have c8 := bk 8 (by omega) (by omega)
  have c18 := bk 18 (by omega) (by omega)
  have c9 := bz 9 (by omega)
  have hlC : ∀ i, i < 16 → a_beg A way (52 + i) = 0 := fun i hi => bz _ (by omega)
  have cp : ∀ j, 20 ≤ j → j < 28 → a_beg A way j = A j := fun j a b => bk j (by omega) (by omega)
  have hz := hG.sz
  unfold a_one
  generalize a_beg A way = C at hI b7 hNC hSC hdC rC tC pC dC p2C kC c0 c1 c2 c3 c4 c8 c18 c9 hlC cp
  clear bk bz
  obtain ⟨p1, p2, p3, p4, p5⟩ := pins_V (m := (A 1).toNat) ((C 0).toNat - 0) C 0 (by omega) hI hNC hSC (by rw [c1]) (fun i _ b => hlC i b)
  have kI : ∀ j, kp j → (a_pins ((C 0).toNat - 0) C 0).1 j = C j ∧ TI (a_pins ((C 0).toNat - 0) C 0).1 := fun j hj => pins_k _ C 0 j (by omega) hI hj
  have p9 : (a_pins ((C 0).toNat - 0) C 0).1 9 = C 9 := pins_9 _ _ _
  unfold a_go
  rw [if_pos rfl]
  generalize a_pins ((C 0).toNat - 0) C 0 = z at p1 p2 p3 p4 p5 kI p9
  obtain ⟨D, ok⟩ := z
  simp only at p1 p2 p3 p4 p5 kI p9
  subst p1
  have k : ∀ j, kp j → D j = C j := fun j hj => (kI j hj).1
  have kD : TI D := (kI 0 (by unfold kp; omega)).2
  have k1 := k 1 (by unfold kp; omega)
  have k4 := k 4 (by unfold kp; omega)
  have k7 := k 7 (by unfold kp; omega)
  have k18 := k 18 (by unfold kp; omega)
  simp only
  have hDz := kD.1
  obtain ⟨q1, q2, q3, q4, q5, q6⟩ := lev_V (m := (A 1).toNat) ((C 1).toNat - (C 4).toNat) D (C 4).toNat (Int32.ofInt 0) (Int32.ofInt 0) (by omega) kD p4 (fun j _ b => p3 j (Nat.zero_le _) b) (by rw [k1, c1])
  have kk := fun j hj => lev_k ((C 1).toNat - (C 4).toNat) D (C 4).toNat (Int32.ofInt 0) (Int32.ofInt 0) j (by omega) (by omega) hj
  have kE := lev_TI ((C 1).toNat - (C 4).toNat) D (C 4).toNat (Int32.ofInt 0) (Int32.ofInt 0) (by omega) kD
  generalize a_lev ((C 1).toNat - (C 4).toNat) D (C 4).toNat (Int32.ofInt 0) (Int32.ofInt 0) = y at q1 q2 q3 q4 q5 q6 kk kE
  obtain ⟨E, ok, l⟩ := y
  simp only at q1 q2 q3 q4 q5 q6 kk kE
  subst q1
  simp only
  have g : ∀ j, kp j → E j = C j := fun j hj => (kk j hj).trans (k j hj)
  have e18 := g 18 (by unfold kp; omega)
  have e4 := g 4 (by unfold kp; omega)
  have e1 := g 1 (by unfold kp; omega)
  have e2 := g 2 (by unfold kp; omega)
  have e7 := g 7 (by unfold kp; omega)
  have e8 := g 8 (by unfold kp; omega)
  have eo : ∀ j, ((20 ≤ j ∧ j < 44) ∨ (52 ≤ j ∧ j < 132)) → a_endC E j = E j := fun j hj => endC_o (by omega) ⟨by omega, by omega⟩ (by omega)
  have ek : ∀ j, kg j → a_endC E j = E j := fun j hj => endC_k kE (by omega) hj
  have f1 := ek 1 (by unfold kg; omega)
  have f4 := ek 4 (by unfold kg; omega)
  have f7 := ek 7 (by unfold kg; omega)
  have hF := endC_TI kE (by omega)
  have hdF : ∀ j, j < 16 → 0 ≤ a_endC E (116 + j) ∧ a_endC E (116 + j) ≤ 9 := fun j hj => by rw [eo _ (by omega), g _ (by unfold kp; omega)]; exact hdC j hj
  obtain ⟨-, o2, o3⟩ := owe_du hF hdF
  have n9 : a_endC E 9 = E 9 := endC_9 (by omega)
  have nk := endC_num kE (by omega)
  have ef : a_fin (a_endC E, (none : Option (Nat × Nat)), l) = up (a_owe (a_endC E 1 - a_endC E 4).toNat (a_endC E) (a_endC E 4).toNat 0) 5 0 := rfl
  rw [ef]
  have r : ∀ j, j < 116 → ¬ j = 5 → up (a_owe (a_endC E 1 - a_endC E 4).toNat (a_endC E) (a_endC E 4).toNat 0) 5 0 j = a_endC E j := fun j hj h5 => by rw [up_eq, if_neg h5, o2 j (Or.inl hj)]
  have rdu : du (up (a_owe (a_endC E 1 - a_endC E 4).toNat (a_endC E) (a_endC E 4).toNat 0) 5 0) = du (a_owe (a_endC E 1 - a_endC E 4).toNat (a_endC E) (a_endC E 4).toNat 0) := by
    unfold du; rw [up_eq, if_neg (by omega)]; exact hn_c _ _ (fun i hi => by rw [up_eq, if_neg (by omega)])
  generalize hR : up (a_owe (a_endC E 1 - a_endC E 4).toNat (a_endC E) (a_endC E 4).toNat 0) 5 0 = R at r rdu
  have r9 : R 9 = E 9 := by rw [r 9 (by omega) (by omega), n9]
  have r1 : R 1 = A 1 := by rw [r 1 (by omega) (by omega), f1, e1, c1]
  have hm16 : (A 1).toNat ≤ 16 := by omega
  refine ⟨trivial, ?_, ⟨?_, fun i hi => ?_⟩, ?_, fun j hj => ?_, ?_, ?_⟩
  · have vE : VA E (A 1).toNat = tn (fun i => E (28 + i)) (A 1).toNat := by
      unfold VA
      have : tn (fun i => E (52 + i)) (A 1).toNat = 0 := by
        rw [tn_c (g := fun _ => 0) _ (fun i hi => ?_)]
        · exact tn_0 _
        · by_cases zz : i < (C 4).toNat
          · show E (52 + i) = 0
            rw [q5 i (by omega) zz, p5 i (by omega)]; exact hlC i (by omega)
          · exact q6 i (by omega) (by omega) (by omega)
      rw [this, Int.mul_zero, Int.mul_zero, Int.add_zero]
    have vC : VA C (A 1).toNat = r_num A := by unfold VA; rw [rC, tC, Int.mul_zero, Int.mul_zero, Int.add_zero]
    have rE : r_num R = tn (fun i => E (28 + i)) (A 1).toNat := by
      unfold r_num; rw [hn_t, r1]; exact tn_c _ (fun i hi => by rw [r _ (by omega) (by omega), eo _ (by omega)])
    have cc0 : (C 0).toNat - 0 = (A 0).toNat := by omega
    rw [cc0, pC, Int.pow_zero, Int.one_mul, vC, b7, c4] at p2
    rw [vE, p2, k7, b7, p9, c9, Int.sub_zero] at q2
    rw [rE, q2, r9]
  · rw [r 3 (by omega) (by omega), ek 3 (by unfold kg; omega), g 3 (by unfold kp; omega), c3]; exact hN.1
  · rw [r _ (by omega) (by omega), eo _ (by omega)]; exact q4.2 i hi
  · rw [r9]; omega
  · rw [r j (by omega) (by omega), ek j (by unfold kg; omega), g j (by unfold kp; omega)]
    rcases hj with hj | hj | hj
    · rcases (show j = 0 ∨ j = 1 ∨ j = 2 ∨ j = 3 ∨ j = 4 by omega) with rfl | rfl | rfl | rfl | rfl
      · exact c0
      · exact c1
      · exact c2
      · exact c3
      · exact c4
    · rw [hj]; exact c8
    · exact cp j hj.1 hj.2
  · rw [rdu, o3, f1, f4, f7, e1, e4, e7, b7, c1, c4]
    have d1 : du (a_endC E) = du A := by
      rw [← dC]; unfold du
      rw [f1, e1]
      exact hn_c _ _ (fun i hi => by rw [eo _ (by omega), g _ (by unfold kp; omega)])
    have d2 : p_num (a_endC E) = p_num A := by
      rw [← p2C]
      exact p_c (by rw [ek 0 (by unfold kg; omega)]; exact g 0 (by unfold kp; omega)) (by omega) (fun j hj => by rw [ek _ (by unfold kg; omega)]; exact g _ (by unfold kp; omega))
    rw [d1, d2]
  · have kR : k_num R = k_num (a_endC E) := k_c (by rw [r 2 (by omega) (by omega)]) (by rw [ek 2 (by unfold kg; omega)]; omega) (fun j hj => r _ (by omega) (by omega))
    have kE2 : k_num E = k_num A := by rw [← kC]; exact k_c e2 (by omega) (fun j hj => g _ (by unfold kp; omega))
    rw [kR, nk, kE2, e4, e2, e8, e7, b7, c4, c2, c8]
