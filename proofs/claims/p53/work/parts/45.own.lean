/-! the counter as a number -/
theorem emg (r x b M : Int) (hr : 0 ≤ r ∧ r < b) (hM : 0 < M) : (r + b * x) % (b * M) = r + b * (x % M) := by
  have h := Int.emod_add_mul_ediv x M
  have h1 := Int.emod_nonneg x (show M ≠ 0 by omega)
  have h2 := Int.emod_lt_of_pos x hM
  have hb : 0 < b := by omega
  have e : r + b * x = (r + b * (x % M)) + b * M * (x / M) := by
    rw [Int.mul_assoc, Int.add_assoc, ← Int.mul_add, h]
  have h3 : b * (x % M) + b ≤ b * M := by
    have := Int.mul_le_mul_of_nonneg_left (show x % M + 1 ≤ M by omega) (Int.le_of_lt hb)
    rw [Int.mul_add, Int.mul_one] at this
    exact this
  have h4 : 0 ≤ b * (x % M) := Int.mul_nonneg (Int.le_of_lt hb) h1
  rw [e, Int.add_mul_emod_self_left, Int.emod_eq_of_lt (by omega) (by omega)]
theorem cnt_lo (way : Int) : ∀ (n : Nat) (A : Row) (wh j : Nat), j < 44 + wh → a_cnt n A wh way j = A j := by
  intro n
  induction n with
  | zero => intro A wh j _; rfl
  | succ n ih =>
    intro A wh j hj
    simp only [a_cnt]
    split
    · rw [ih _ _ _ (by omega), up_eq, if_neg (by omega)]
    · rw [up_eq, if_neg (by omega)]
theorem cnt_tn {way : Int} (hw : way = 1 ∨ way = -1) : ∀ (n : Nat) (A : Row) (wh : Nat), (∀ i, i < n → 0 ≤ A (44 + wh + i) ∧ A (44 + wh + i) ≤ 9) → tn (fun i => a_cnt n A wh way (44 + wh + i)) n = (tn (fun i => A (44 + wh + i)) n + way) % 10 ^ n := by
  intro n
  induction n with
  | zero =>
    intro A wh _
    simp only [tn, Int.pow_zero]
    omega
  | succ n ih =>
    intro A wh h
    have hd := h 0 (by omega)
    simp only [Nat.add_zero] at hd
    have hT := tn_b (fun i => A (44 + wh + (i + 1))) n (fun i hi => h (i + 1) (by omega))
    have hp : (0 : Int) < 10 ^ n := Int.pow_pos (by decide)
    rw [tn_first, tn_first, Int.pow_succ, Int.mul_comm (10 ^ n) 10]
    simp only [Nat.add_zero]
    by_cases c : A (44 + wh) + way < 0 ∨ 9 < A (44 + wh) + way
    · have e : ∀ j, a_cnt (n + 1) A wh way j = a_cnt n (up A (44 + wh) ((A (44 + wh) + way + 10) % 10)) (wh + 1) way j := by
        intro j; simp only [a_cnt, if_pos c]
      have e0 : a_cnt (n + 1) A wh way (44 + wh) = (A (44 + wh) + way + 10) % 10 := by
        rw [e, cnt_lo _ _ _ _ _ (by omega), up_eq, if_pos rfl]
      have ih' := ih (up A (44 + wh) ((A (44 + wh) + way + 10) % 10)) (wh + 1) (fun i hi => by
        rw [up_eq, if_neg (by omega), show 44 + (wh + 1) + i = 44 + wh + (i + 1) by omega]
        exact h (i + 1) (by omega))
      have e1 : tn (fun i => a_cnt (n + 1) A wh way (44 + wh + (i + 1))) n = tn (fun i => a_cnt n (up A (44 + wh) ((A (44 + wh) + way + 10) % 10)) (wh + 1) way (44 + (wh + 1) + i)) n :=
        tn_c _ (fun i hi => by rw [e, show 44 + wh + (i + 1) = 44 + (wh + 1) + i by omega])
      have e2 : tn (fun i => up A (44 + wh) ((A (44 + wh) + way + 10) % 10) (44 + (wh + 1) + i)) n = tn (fun i => A (44 + wh + (i + 1))) n :=
        tn_c _ (fun i hi => by rw [up_eq, if_neg (by omega), show 44 + wh + (i + 1) = 44 + (wh + 1) + i by omega])
      rw [e0, e1, ih', e2]
      generalize tn (fun i => A (44 + wh + (i + 1))) n = T
      have e3 : A (44 + wh) + 10 * T + way = (A (44 + wh) + way + 10) % 10 + 10 * (T + way) := by
        rcases hw with q | q <;> subst q <;> omega
      rw [e3, emg _ _ _ _ ⟨by omega, by omega⟩ hp]
    · have e : ∀ j, a_cnt (n + 1) A wh way j = up A (44 + wh) ((A (44 + wh) + way + 10) % 10) j := by
        intro j; simp only [a_cnt, if_neg c]
      have e0 : a_cnt (n + 1) A wh way (44 + wh) = A (44 + wh) + way := by
        rw [e, up_eq, if_pos rfl]; omega
      have e1 : tn (fun i => a_cnt (n + 1) A wh way (44 + wh + (i + 1))) n = tn (fun i => A (44 + wh + (i + 1))) n :=
        tn_c _ (fun i hi => by rw [e, up_eq, if_neg (by omega)])
      rw [e0, e1]
      generalize tn (fun i => A (44 + wh + (i + 1))) n = T at hT ⊢
      rw [Int.emod_eq_of_lt (by omega) (by omega)]
      omega
theorem cnt_num {A : Row} {way : Int} (hw : way = 1 ∨ way = -1) (h4 : 0 ≤ A 4) (hc : A 4 < A 2) (h2 : A 2 ≤ 8) (hd : ∀ j, j < 8 → 0 ≤ A (44 + j) ∧ A (44 + j) ≤ 9) : hn (fun i => a_cnt (A 2 - A 4).toNat A (A 4).toNat way (44 + i)) (A 2).toNat 0 = (k_num A + way * 10 ^ (A 4).toNat) % 10 ^ (A 2).toNat := by
  unfold k_num
  rw [hn_tn, hn_tn, Int.zero_mul, Int.zero_add, Int.zero_add]
  obtain ⟨c, hc0⟩ : ∃ c : Nat, A 4 = c := ⟨(A 4).toNat, by omega⟩
  obtain ⟨n, hn0⟩ : ∃ n : Nat, A 2 - A 4 = n := ⟨(A 2 - A 4).toNat, by omega⟩
  have e2 : (A 2).toNat = c + n := by omega
  have e4 : (A 4).toNat = c := by omega
  have en : (A 2 - A 4).toNat = n := by omega
  rw [e2, e4, en, tn_add, tn_add, Int.pow_add]
  have t1 : tn (fun i => a_cnt n A c way (44 + i)) c = tn (fun i => A (44 + i)) c := tn_c _ (fun i hi => cnt_lo _ _ _ _ _ (by omega))
  have t2 : tn (fun i => a_cnt n A c way (44 + (c + i))) n = tn (fun i => a_cnt n A c way (44 + c + i)) n := tn_c _ (fun i hi => by rw [Nat.add_assoc])
  have t3 : tn (fun i => A (44 + (c + i))) n = tn (fun i => A (44 + c + i)) n := tn_c _ (fun i hi => by rw [Nat.add_assoc])
  rw [t1, t2, t3, cnt_tn hw n A c (fun i hi => by rw [Nat.add_assoc]; exact hd _ (by omega))]
  have hb := tn_b (fun i => A (44 + i)) c (fun i hi => hd i (by omega))
  have hp : (0 : Int) < 10 ^ n := Int.pow_pos (by decide)
  rw [← emg _ _ _ _ hb hp]
  congr 1
  rw [Int.mul_add, Int.mul_comm way]
  omega
/-! what a turn keeps: what was counted before, and the digits before -/
def SV (A A' : Row) : Prop := A' 7 = A 7 ∧ (∀ i, i < 3 → A' (14 + i) - A' (9 + i) = A (14 + i) - A (9 + i)) ∧ ∀ i, i < 16 → (A' (28 + i) - A 7 * A' (84 + i)) % 10 = (A (28 + i) - A 7 * A (84 + i)) % 10
theorem SV.refl (A : Row) : SV A A := ⟨rfl, fun _ _ => rfl, fun _ _ => rfl⟩
theorem SV.trans {A B C : Row} (h : SV A B) (h' : SV B C) : SV A C := ⟨h'.1.trans h.1, fun i hi => (h'.2.1 i hi).trans (h.2.1 i hi), fun i hi => by have := h'.2.2 i hi; rw [h.1] at this; exact this.trans (h.2.2 i hi)⟩
theorem SV.same {A B : Row} (e : ∀ j, (j = 7 ∨ (9 ≤ j ∧ j < 12) ∨ (14 ≤ j ∧ j < 17) ∨ (28 ≤ j ∧ j < 44) ∨ (84 ≤ j ∧ j < 100)) → B j = A j) : SV A B :=
  ⟨e 7 (by omega), fun i hi => by rw [e _ (by omega), e _ (by omega)], fun i hi => by rw [e _ (by omega), e _ (by omega)]⟩
theorem SV.mv (A : Row) (j : Nat) (m : Int) (h7 : A 7 = 1 ∨ A 7 = -1) (hj : j < 16) : SV A (a_mv A j m) := by
  refine ⟨mv_k _ _ _ _ hj (by unfold kp; omega), fun i hi => ?_, fun i hi => ?_⟩
  · have e : ∀ k, (k < 28 ∨ 116 ≤ k) → a_mv A j m k = A k := fun k hk => mv_s _ _ _ _ hj (by omega)
    rw [e _ (by omega), e _ (by omega)]
  · rw [mv_at, mv_at]
    by_cases q : i = j
    · subst q
      rw [if_neg (by omega), if_neg (by omega), if_pos rfl, if_neg (by omega), if_pos rfl]
      rcases h7 with e | e <;> rw [e] <;> omega
    · rw [if_neg (by omega), if_neg (by omega), if_neg (by omega), if_neg (by omega), if_neg (by omega), if_neg (by omega), if_neg (by omega), if_neg (by omega)]
theorem SV.tal (A : Row) (k : Nat) (hk : k < 3) : SV A (a_tal A k) := by
  refine ⟨tal_s _ _ _ hk (by omega), fun i hi => ?_, fun i hi => ?_⟩
  · simp only [a_tal, up_eq]
    by_cases q : i = k
    · subst q
      rw [if_pos rfl, if_neg (by omega), if_neg (by omega), if_pos rfl]
      omega
    · rw [if_neg (by omega), if_neg (by omega), if_neg (by omega), if_neg (by omega)]
  · rw [tal_s _ _ _ hk (by omega), tal_s _ _ _ hk (by omega)]
theorem pins_SV : ∀ (n : Nat) (A : Row) (p : Nat), (p : Int) + n = A 0 → TI A → SV A (a_pins n A p).1 := by
  intro n
  induction n with
  | zero => intro A p _ _; exact SV.refl A
  | succ n ih =>
    intro A p hn hI
    have h0 := hI.1
    rw [a_pins]
    split
    · exact ih A (p + 1) (by omega) hI
    · split
      · exact SV.same (fun j hj => by show up A 17 (A 17 + 1) j = A j; rw [up_eq, if_neg (by omega)])
      · have e0 : a_mv A ((A 4).toNat + p) (A (20 + p)) 0 = A 0 := mv_k _ _ _ _ (by omega) (by unfold kp; omega)
        exact (SV.mv A _ _ hI.2.1 (by omega)).trans (ih _ (p + 1) (by omega) (hI.mv (by omega) (hI.2.2.1 p (by omega))))
theorem lev_SV : ∀ (n : Nat) (A : Row) (wh : Nat) (c l : Int32), (wh : Int) + n = A 1 → TI A → SV A (a_lev n A wh c l).1 := by
  intro n
  induction n with
  | zero => intro A wh c l _ _; exact SV.refl A
  | succ n ih =>
    intro A wh c l hn hI
    have h0 := hI.1
    have u : ∀ (X : Row), SV X (up X (52 + wh) 0) := fun X => SV.same (fun j hj => by rw [up_eq, if_neg (by omega)])
    have t : ∀ k, k < 3 → TI (up (a_tal A k) (52 + wh) 0) := fun k hk => (hI.tal hk).lev ⟨by omega, by omega⟩ (by omega)
    have t1 : ∀ k, k < 3 → up (a_tal A k) (52 + wh) 0 1 = A 1 := fun k hk => by rw [up_eq, if_neg (by omega), tal_s _ _ _ hk (by omega)]
    rw [a_lev]
    split
    · exact ih A (wh + 1) _ _ (by omega) hI
    · split
      · exact ((SV.tal A 0 (by omega)).trans (u _)).trans (ih _ (wh + 1) _ _ (by rw [t1 0 (by omega)]; omega) (t 0 (by omega)))
      · split
        · exact ((SV.tal A 2 (by omega)).trans (u _)).trans (ih _ (wh + 1) _ _ (by rw [t1 2 (by omega)]; omega) (t 2 (by omega)))
        · split
          · exact SV.same (fun j hj => by show up A 17 (A 17 + 1) j = A j; rw [up_eq, if_neg (by omega)])
          · have hI2 : TI (up (a_tal (a_mv A (wh + 1) 1) 1) (52 + wh) 0) := ((hI.mv (by omega) ⟨by omega, by omega⟩).tal (by omega)).lev ⟨by omega, by omega⟩ (by omega)
            have e1 : up (a_tal (a_mv A (wh + 1) 1) 1) (52 + wh) 0 1 = A 1 := by rw [up_eq, if_neg (by omega), tal_s _ _ _ (by omega) (by omega), mv_s _ _ _ _ (by omega) (by omega)]
            exact (((SV.mv A _ _ hI.2.1 (by omega)).trans (SV.tal _ 1 (by omega))).trans (u _)).trans (ih _ (wh + 1) _ _ (by rw [e1]; omega) hI2)
theorem endC_j {A : Row} (h18 : 0 ≤ A 18) {j : Nat} (hj : j < 44 ∧ j ≠ 12 ∧ j ≠ 13 ∧ j ≠ 18) : a_endC A j = A j := by
  have c : ∀ i, i < 44 → a_cnt (A 2 - A 4).toNat A (A 4).toNat (if 0 < A 8 then -A 7 else A 7) i = A i := fun i hi => cnt_s _ _ _ _ _ (Or.inl hi)
  simp only [a_endC]
  rw [log_s]
  · split
    · rw [up_eq, if_neg (by omega), up_eq, if_neg (by omega), c _ hj.1]
    · rw [up_eq, if_neg (by omega), c _ hj.1]
  · split
    · rw [up_eq, if_neg (by omega), up_eq, if_neg (by omega), c _ (by omega)]; exact h18
    · rw [up_eq, if_neg (by omega), c _ (by omega)]; exact h18
  · omega
theorem endC_12 {A : Row} (h18 : 0 ≤ A 18) (h7 : A 7 = 1 ∨ A 7 = -1) : a_endC A 12 = A 12 + 1 ∧ a_endC A 13 = A 13 + (if A 7 < 0 then 1 else 0) := by
  have c : ∀ i, i < 44 → a_cnt (A 2 - A 4).toNat A (A 4).toNat (if 0 < A 8 then -A 7 else A 7) i = A i := fun i hi => cnt_s _ _ _ _ _ (Or.inl hi)
  simp only [a_endC]
  generalize a_cnt (A 2 - A 4).toNat A (A 4).toNat (if 0 < A 8 then -A 7 else A 7) = G at c
  rcases h7 with e | e
  · have n1 : ¬ A 7 = -1 := by omega
    have k : 0 ≤ up G 12 (G 12 + 1) 18 := by rw [up_eq, if_neg (by omega), c _ (by omega)]; exact h18
    rw [if_neg n1, if_neg (show ¬ A 7 < 0 by omega), log_s _ _ _ _ _ k _ (by omega), log_s _ _ _ _ _ k _ (by omega), up_eq, if_pos rfl, up_eq, if_neg (by omega), c _ (by omega), c _ (by omega)]
    exact ⟨rfl, by omega⟩
  · have k : 0 ≤ up (up G 12 (G 12 + 1)) 13 (up G 12 (G 12 + 1) 13 + 1) 18 := by rw [up_eq, if_neg (by omega), up_eq, if_neg (by omega), c _ (by omega)]; exact h18
    have e13 : up G 12 (G 12 + 1) 13 = A 13 := by rw [up_eq, if_neg (by omega), c _ (by omega)]
    have e12 : up G 12 (G 12 + 1) 12 = A 12 + 1 := by rw [up_eq, if_pos rfl, c _ (by omega)]
    rw [if_pos e, if_pos (show A 7 < 0 by omega), log_s _ _ _ _ _ k _ (by omega), log_s _ _ _ _ _ k _ (by omega), e13]
    refine ⟨?_, ?_⟩
    · rw [up_eq, if_neg (by omega)]; exact e12
    · rw [up_eq, if_pos rfl]
/-- the counter's digits behind a turn -/
theorem endC_44 {A : Row} (h18 : 0 ≤ A 18) {j : Nat} (hj : 20 ≤ j ∧ j < 132) : a_endC A j = a_cnt (A 2 - A 4).toNat A (A 4).toNat (if 0 < A 8 then -A 7 else A 7) j := by
  have c : ∀ i, i < 44 → a_cnt (A 2 - A 4).toNat A (A 4).toNat (if 0 < A 8 then -A 7 else A 7) i = A i := fun i hi => cnt_s _ _ _ _ _ (Or.inl hi)
  simp only [a_endC]
  rw [log_s]
  · split
    · rw [up_eq, if_neg (by omega), up_eq, if_neg (by omega)]
    · rw [up_eq, if_neg (by omega)]
  · split
    · rw [up_eq, if_neg (by omega), up_eq, if_neg (by omega), c _ (by omega)]; exact h18
    · rw [up_eq, if_neg (by omega), c _ (by omega)]; exact h18
  · omega
theorem endC_num {A : Row} (hI : TI A) (h18 : 0 ≤ A 18) : k_num (a_endC A) = (if A 4 < A 2 then (k_num A + (if 0 < A 8 then -A 7 else A 7) * 10 ^ (A 4).toNat) % 10 ^ (A 2).toNat else k_num A) := by
  have h0 := hI.1
  have e2 : a_endC A 2 = A 2 := endC_j h18 (by omega)
  have e : k_num (a_endC A) = hn (fun i => a_cnt (A 2 - A 4).toNat A (A 4).toNat (if 0 < A 8 then -A 7 else A 7) (44 + i)) (A 2).toNat 0 := by
    unfold k_num
    rw [e2]
    exact hn_c _ _ (fun i hi => endC_44 h18 (by omega))
  rw [e]
  by_cases hc : A 4 < A 2
  · rw [if_pos hc]
    refine cnt_num ?_ (by omega) hc (by omega) (fun j hj => hI.2.2.2.2.1 j hj)
    rcases hI.2.1 with q | q <;> rw [q] <;> split <;> simp
  · rw [if_neg hc, show (A 2 - A 4).toNat = 0 by omega]
    rfl
