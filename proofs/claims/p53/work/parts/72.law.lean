/-! products and quotients -/
def SG (A : Row) : Prop := GR A ∧ NF A ∧ A 5 = 0
theorem r_bd {A : Row} (h : TJ A) : 0 ≤ r_num A ∧ r_num A < 10 ^ (A 1).toNat := by
  have hz := TJ_sz h
  have := hn_b (fun i => A (28 + i)) (A 1).toNat 0 (fun i hi => TJ_dig h i (by omega)) (by omega)
  unfold r_num
  omega
theorem k_bd {A : Row} (h : TJ A) : 0 ≤ k_num A ∧ k_num A < 10 ^ (A 2).toNat := by
  have hz := TJ_sz h
  have := hn_b (fun i => A (44 + i)) (A 2).toNat 0 (fun i hi => TJ_cnt h i (by omega)) (by omega)
  unfold k_num
  omega
theorem p_bd {A : Row} (h : TJ A) : 0 ≤ p_num A ∧ p_num A < 10 ^ (A 0).toNat := by
  have hz := TJ_sz h
  have := hn_b (fun i => A (20 + i)) (A 0).toNat 0 (fun i hi => TJ_pin h i (by omega)) (by omega)
  unfold p_num
  omega
theorem em_u {x X K b : Int} (h : x = X - K * b) (h0 : 0 ≤ x ∧ x < K) : x = X % K := by
  have e : X = x + K * b := by omega
  rw [e, Int.add_mul_emod_self_left, Int.emod_eq_of_lt h0.1 h0.2]
theorem one_sg {A : Row} {way : Int} (h : SG A) (hw : way = 1 ∨ way = -1) : SG (a_fin (a_one A way)) ∧ (a_one A way).2.1 = none ∧ (∀ j, (j < 5 ∨ j = 8 ∨ (20 ≤ j ∧ j < 28)) → a_fin (a_one A way) j = A j) ∧
    r_num (a_fin (a_one A way)) = r_num A + way * (10 ^ (A 4).toNat * p_num A) - way * (10 ^ (A 1).toNat * a_fin (a_one A way) 9) ∧ 0 ≤ a_fin (a_one A way) 9 ∧
    du (a_fin (a_one A way)) = (du A + way * (p_num A * 10 ^ (A 4).toNat)) % 10 ^ (A 1).toNat ∧ k_num (a_fin (a_one A way)) = (if A 4 < A 2 then (k_num A + (if 0 < A 8 then -way else way) * 10 ^ (A 4).toNat) % 10 ^ (A 2).toNat else k_num A) := by
  obtain ⟨hG, hN, h5⟩ := h
  obtain ⟨a1, a2, a3, a4, a5, a6, a7⟩ := one_add hG hN hw
  have f5 := fin_5 hG hw
  rw [a1] at f5
  exact ⟨⟨one_GR hG hw, a3, f5⟩, a1, a5, a2, a4, a6, a7⟩
/-- the result follows the due one -/
theorem one_rd {A : Row} {way : Int} (h : SG A) (hw : way = 1 ∨ way = -1) : r_num (a_fin (a_one A way)) = (r_num A + way * (p_num A * 10 ^ (A 4).toNat)) % 10 ^ (A 1).toNat := by
  obtain ⟨b1, b2, b3, b4, b5, b6, b7⟩ := one_sg h hw
  have hb := r_bd b1.1.1.1
  rw [b3 1 (by omega)] at hb
  refine em_u (b := way * a_fin (a_one A way) 9) ?_ hb
  rw [b4, Int.mul_comm (p_num A), Int.mul_left_comm way (10 ^ (A 1).toNat)]
theorem p_kp {A R : Row} (h1 : A 0 ≤ 8) (e : ∀ j, (j < 5 ∨ j = 8 ∨ (20 ≤ j ∧ j < 28)) → R j = A j) : p_num R = p_num A := p_c (e 0 (by omega)) h1 (fun j hj => e _ (by omega))
theorem many_sg {way : Int} (hw : way = 1 ∨ way = -1) : ∀ (n : Nat) (A : Row), SG A → (a_many n A way).2 = n ∧ SG (a_many n A way).1 ∧ (∀ j, (j < 5 ∨ j = 8 ∨ (20 ≤ j ∧ j < 28)) → (a_many n A way).1 j = A j) ∧
    (r_num A = du A → r_num (a_many n A way).1 = du (a_many n A way).1) ∧ (du A = du A % 10 ^ (A 1).toNat → du (a_many n A way).1 = (du A + (n : Int) * way * (p_num A * 10 ^ (A 4).toNat)) % 10 ^ (A 1).toNat) := by
  intro n
  induction n with
  | zero =>
    intro A h
    refine ⟨rfl, h, fun _ _ => rfl, fun q => q, fun q => ?_⟩
    show du A = (du A + ((0 : Nat) : Int) * way * _) % _
    rw [show ((0 : Nat) : Int) = 0 from rfl, Int.zero_mul, Int.zero_mul, Int.add_zero]
    exact q
  | succ n ih =>
    intro A h
    obtain ⟨b1, b2, b3, b4, b5, b6, b7⟩ := one_sg h hw
    have hz := h.1.sz
    obtain ⟨i1, i2, i3, i4, i5⟩ := ih _ b1
    have br := one_rd h hw
    rw [a_many, b2]
    simp only
    refine ⟨by rw [i1], i2, fun j hj => (i3 j hj).trans (b3 j hj), fun q => i4 (by rw [br, b6, q]), fun _ => ?_⟩
    have bm : du (a_fin (a_one A way)) = du (a_fin (a_one A way)) % 10 ^ (a_fin (a_one A way) 1).toNat := by rw [b6, b3 1 (by omega), Int.emod_emod]
    rw [i5 bm, b3 1 (by omega), b3 4 (by omega), p_kp (by omega) b3, b6, Int.emod_add_emod]
    congr 1
    generalize p_num A * 10 ^ (A 4).toNat = y
    rw [show ((n + 1 : Nat) : Int) = (n : Int) + 1 by omega, Int.add_mul, Int.add_mul, Int.one_mul]
    omega
/-- a plan's sum -/
def pS : List Int → Int
  | [] => 0
  | x :: l => x + 10 * pS l
theorem pl_st {r c s : Int} {d : Nat} (hr : 0 ≤ r) (hc : c = 0 ∨ c = 1) (h : r + c ≤ 10 ^ (d + 1)) : r / 10 + (if ¬ s = 0 ∧ 6 ≤ r % 10 + c then 1 else 0) ≤ 10 ^ d := by
  have hp : (10 : Int) ^ (d + 1) = 10 ^ d * 10 := Int.pow_succ _ _
  rw [hp] at h
  generalize (10 : Int) ^ d = X at h ⊢
  split <;> omega
theorem pl_s0 {r c s : Int} (hr : 0 ≤ r) (hc : c = 0 ∨ c = 1) (h : r + c ≤ 1) : r / 10 + (if ¬ s = 0 ∧ 6 ≤ r % 10 + c then 1 else 0) = 0 := by
  rw [if_neg (by omega)]; omega
theorem pl_sum : ∀ (f : Nat) (r c s : Int), 0 ≤ r → (c = 0 ∨ c = 1) → (f = 0 → r + c = 0) → (∀ d, f = d + 1 → r + c ≤ 10 ^ d) → pS (a_pl f r c s) = r + c := by
  intro f
  induction f with
  | zero => intro r c s _ _ h _; rw [a_pl, pS]; exact (h rfl).symm
  | succ f ih =>
    intro r c s hr hc _ h
    have hd := h f rfl
    rw [a_pl]
    by_cases q : r + c ≤ 0
    · rw [if_pos q, pS]; omega
    · rw [if_neg q, pS]
      have hu : (if ¬ s = 0 ∧ 6 ≤ r % 10 + c then (1 : Int) else 0) = 0 ∨ (if ¬ s = 0 ∧ 6 ≤ r % 10 + c then (1 : Int) else 0) = 1 := by split; exact Or.inr rfl; exact Or.inl rfl
      have h0 : f = 0 → r / 10 + (if ¬ s = 0 ∧ 6 ≤ r % 10 + c then (1 : Int) else 0) = 0 := fun e => pl_s0 hr hc (by rw [e, Int.pow_zero] at hd; exact hd)
      have h1 : ∀ d, f = d + 1 → r / 10 + (if ¬ s = 0 ∧ 6 ≤ r % 10 + c then (1 : Int) else 0) ≤ 10 ^ d := fun d e => pl_st hr hc (by rw [← e]; exact hd)
      generalize (if ¬ s = 0 ∧ 6 ≤ r % 10 + c then (1 : Int) else 0) = u at hu h0 h1 ⊢
      rw [ih _ _ s (by omega) hu h0 h1]
      omega
theorem pl_ln : ∀ (f : Nat) (r c s : Int) (d : Nat), 0 ≤ r → (c = 0 ∨ c = 1) → r + c ≤ 10 ^ d → (a_pl f r c s).length ≤ d + 1 := by
  intro f
  induction f with
  | zero => intro r c s d _ _ _; rw [a_pl]; simp
  | succ f ih =>
    intro r c s d hr hc h
    rw [a_pl]
    by_cases q : r + c ≤ 0
    · rw [if_pos q]; simp
    · rw [if_neg q, List.length_cons]
      have hu : (if ¬ s = 0 ∧ 6 ≤ r % 10 + c then (1 : Int) else 0) = 0 ∨ (if ¬ s = 0 ∧ 6 ≤ r % 10 + c then (1 : Int) else 0) = 1 := by split; exact Or.inr rfl; exact Or.inl rfl
      cases d with
      | zero =>
        have h0 := pl_s0 (s := s) hr hc (by rw [Int.pow_zero] at h; exact h)
        generalize (if ¬ s = 0 ∧ 6 ≤ r % 10 + c then (1 : Int) else 0) = u at hu h0 ⊢
        have e : a_pl f (r / 10) u s = [] := by
          cases f with
          | zero => rfl
          | succ f => rw [a_pl, if_pos (by omega)]
        rw [e]; simp
      | succ d =>
        have h1 := pl_st (s := s) hr hc h
        generalize (if ¬ s = 0 ∧ 6 ≤ r % 10 + c then (1 : Int) else 0) = u at hu h1 ⊢
        have := ih (r / 10) u s d (by omega) hu h1
        omega
theorem SG.pos {A : Row} {c : Int} (h : SG A) (h0 : 0 ≤ c) (h1 : c + A 0 ≤ A 1) : SG (up A 4 c) := ⟨h.1.pos (by rw [h.2.2]; omega) h0 h1, ⟨by rw [up_eq, if_neg (by omega)]; exact h.2.1.1, fun i hi => by rw [up_eq, if_neg (by omega)]; exact h.2.1.2 i hi⟩, by rw [up_eq, if_neg (by omega)]; exact h.2.2⟩
theorem SG.u8 {A : Row} {v : Int} (h : SG A) (hv : v = 0 ∨ v = 1) : SG (up A 8 v) := ⟨h.1.u8 (by rw [h.2.2]; omega) hv, ⟨by rw [up_eq, if_neg (by omega)]; exact h.2.1.1, fun i hi => by rw [up_eq, if_neg (by omega)]; exact h.2.1.2 i hi⟩, by rw [up_eq, if_neg (by omega)]; exact h.2.2⟩
theorem up_nums (A : Row) (hz : A 0 ≤ 8 ∧ A 1 ≤ 16 ∧ A 2 ≤ 8) {i : Nat} {v : Int} (hi : i = 4 ∨ i = 8) : r_num (up A i v) = r_num A ∧ du (up A i v) = du A ∧ k_num (up A i v) = k_num A ∧ p_num (up A i v) = p_num A := by
  refine ⟨?_, ?_, k_c (by rw [up_eq, if_neg (by omega)]) hz.2.2 (fun j hj => by rw [up_eq, if_neg (by omega)]), p_c (by rw [up_eq, if_neg (by omega)]) hz.1 (fun j hj => by rw [up_eq, if_neg (by omega)])⟩
  · unfold r_num; rw [up_eq, if_neg (by omega)]; exact hn_c _ _ (fun j hj => by rw [up_eq, if_neg (by omega)])
  · unfold du; rw [up_eq, if_neg (by omega)]; exact hn_c _ _ (fun j hj => by rw [up_eq, if_neg (by omega)])
theorem mul_sg : ∀ (l : List Int) (k : Nat) (A : Row) (t : Nat), SG A → ((k + l.length : Nat) : Int) + A 0 ≤ A 1 + 1 → r_num A = du A → du A = du A % 10 ^ (A 1).toNat →
    SG (a_mul l k A t).1 ∧ (∀ j, (j < 4 ∨ (20 ≤ j ∧ j < 28)) → (a_mul l k A t).1 j = A j) ∧ r_num (a_mul l k A t).1 = du (a_mul l k A t).1 ∧ du (a_mul l k A t).1 = (du A + 10 ^ k * pS l * p_num A) % 10 ^ (A 1).toNat := by
  intro l
  induction l with
  | nil =>
    intro k A t h _ hr hd
    refine ⟨h, fun _ _ => rfl, hr, ?_⟩
    show du A = (du A + 10 ^ k * 0 * p_num A) % _
    rw [Int.mul_zero, Int.zero_mul, Int.add_zero]
    exact hd
  | cons x l ih =>
    intro k A t h hk hr hd
    have hz := h.1.sz
    rw [List.length_cons] at hk
    have hp := h.pos (c := (k : Int)) (by omega) (by omega)
    have hw : (if x < 0 then (-1 : Int) else 1) = 1 ∨ (if x < 0 then (-1 : Int) else 1) = -1 := by split; exact Or.inr rfl; exact Or.inl rfl
    have hx : ((x.natAbs : Nat) : Int) * (if x < 0 then (-1 : Int) else 1) = x := by split <;> omega
    obtain ⟨u1, u2, u3, u4⟩ := up_nums A ⟨by omega, by omega, by omega⟩ (i := 4) (v := (k : Int)) (Or.inl rfl)
    have e1 : up A 4 (k : Int) 1 = A 1 := by rw [up_eq, if_neg (by omega)]
    have e4 : up A 4 (k : Int) 4 = k := by rw [up_eq, if_pos rfl]
    obtain ⟨m1, m2, m3, m4, m5⟩ := many_sg hw x.natAbs _ hp
    rw [u1, u2] at m4
    rw [u2, e1, e4, u4, Int.toNat_natCast, hx] at m5
    have m4' := m4 hr
    have m5' := m5 hd
    rw [a_mul, if_neg (by rw [m2.2.2]; omega)]
    have n1 : (a_many x.natAbs (up A 4 (k : Int)) (if x < 0 then -1 else 1)).1 1 = A 1 := by rw [m3 1 (by omega)]; exact e1
    have n0 : (a_many x.natAbs (up A 4 (k : Int)) (if x < 0 then -1 else 1)).1 0 = A 0 := by rw [m3 0 (by omega), up_eq, if_neg (by omega)]
    have np : p_num (a_many x.natAbs (up A 4 (k : Int)) (if x < 0 then -1 else 1)).1 = p_num A := by rw [p_kp (by rw [up_eq, if_neg (by omega)]; omega) m3, u4]
    generalize (a_many x.natAbs (up A 4 (k : Int)) (if x < 0 then -1 else 1)).1 = C at m2 m3 m4' m5' n1 n0 np ⊢
    obtain ⟨i1, i2, i3, i4⟩ := ih (k + 1) C (t + (a_many x.natAbs (up A 4 (k : Int)) (if x < 0 then -1 else 1)).2) m2 (by rw [n0, n1]; omega) m4' (by rw [m5', n1, Int.emod_emod])
    refine ⟨i1, fun j hj => ?_, i3, ?_⟩
    · rw [i2 j hj, m3 j (by omega), up_eq, if_neg (by omega)]
    · rw [i4, n1, np, m5', Int.emod_add_emod]
      congr 1
      rw [pS, Int.pow_succ]
      generalize (10 : Int) ^ k = D
      generalize pS l = S
      generalize p_num A = p
      have e : D * (x + 10 * S) * p = x * (p * D) + D * 10 * S * p := by
        rw [Int.mul_add, Int.add_mul, Int.mul_comm D x, Int.mul_assoc x, Int.mul_comm D p, Int.mul_assoc D 10 S]
      omega
/-- a turn back below zero, and one forth again -/
theorem dh_sg : ∀ (n : Nat) (A : Row) (t : Nat) (q : Int), SG A → A 8 = 1 → 0 < p_num A → r_num A = p_num A * q → 0 ≤ q → q < n * 10 ^ (A 4).toNat →
    SG (a_dh n A t).1 ∧ (∀ j, (j < 5 ∨ j = 8 ∨ (20 ≤ j ∧ j < 28)) → (a_dh n A t).1 j = A j) ∧ r_num (a_dh n A t).1 = p_num A * (q % 10 ^ (A 4).toNat) ∧ (A 4 < A 2 → k_num (a_dh n A t).1 = (k_num A + q / 10 ^ (A 4).toNat * 10 ^ (A 4).toNat) % 10 ^ (A 2).toNat) := by
  intro n
  induction n with
  | zero => intro A t q _ _ _ _ h0 h1; exfalso; rw [show ((0 : Nat) : Int) = 0 from rfl, Int.zero_mul] at h1; omega
  | succ n ih =>
    intro A t q h h8 hp hr h0 h1
    have hz := h.1.sz
    obtain ⟨b1, b2, b3, b4, b5, b6, b7⟩ := one_sg (way := -1) h (Or.inr rfl)
    have br := r_bd b1.1.1.1
    have b31 := b3 1 (by omega)
    have b34 := b3 4 (by omega)
    have b32 := b3 2 (by omega)
    have b38 := b3 8 (by omega)
    have bp : p_num (a_fin (a_one A (-1))) = p_num A := p_kp (by omega) b3
    have ar := r_bd h.1.1.1
    have hX : (0 : Int) < 10 ^ (A 4).toNat := Int.pow_pos (by decide)
    have hkb := k_bd h.1.1.1
    rw [b31] at br
    rw [hr] at b4 ar
    rw [h8, if_pos (show (0 : Int) < 1 by decide)] at b7
    rw [a_dh, b2]
    simp only
    by_cases hq : q < 10 ^ (A 4).toNat
    · have hbell : 0 < a_fin (a_one A (-1)) 9 := by
        by_cases z : 0 < a_fin (a_one A (-1)) 9
        · exact z
        · exfalso
          have z0 : a_fin (a_one A (-1)) 9 = 0 := by omega
          rw [z0, Int.mul_zero, Int.mul_zero, Int.sub_zero, Int.neg_one_mul, Int.mul_comm (10 ^ (A 4).toNat)] at b4
          have : p_num A * q < p_num A * 10 ^ (A 4).toNat := Int.mul_lt_mul_of_pos_left hq hp
          omega
      rw [if_pos hbell]
      obtain ⟨c1, c2, c3, c4, c5, c6, c7⟩ := one_sg (way := 1) b1 (Or.inl rfl)
      rw [c2]
      simp only
      have cr := r_bd c1.1.1.1
      have crd := one_rd (way := 1) b1 (Or.inl rfl)
      have brd := one_rd (way := -1) h (Or.inr rfl)
      rw [b31, b34, bp, brd, Int.emod_add_emod, hr] at crd
      refine ⟨c1, fun j hj => (c3 j hj).trans (b3 j hj), ?_, fun hc => ?_⟩
      · rw [crd, Int.emod_eq_of_lt h0 hq, show p_num A * q + -1 * (p_num A * 10 ^ (A 4).toNat) + 1 * (p_num A * 10 ^ (A 4).toNat) = p_num A * q by omega]
        exact Int.emod_eq_of_lt ar.1 ar.2
      · rw [b34, b32, b38, h8, if_pos hc, if_pos (show (0 : Int) < 1 by decide)] at c7
        rw [if_pos hc] at b7
        rw [c7, b7, Int.emod_add_emod, Int.ediv_eq_zero_of_lt h0 hq, Int.zero_mul, Int.add_zero]
        congr 1
        omega
    · have hno : a_fin (a_one A (-1)) 9 = 0 := by
        by_cases z : 0 < a_fin (a_one A (-1)) 9
        · exfalso
          have h2 : p_num A * 10 ^ (A 4).toNat ≤ p_num A * q := Int.mul_le_mul_of_nonneg_left (by omega) (by omega)
          rw [Int.neg_one_mul, Int.neg_one_mul, Int.mul_comm (10 ^ (A 4).toNat)] at b4
          have hM : (0 : Int) < 10 ^ (A 1).toNat := Int.pow_pos (by decide)
          have h3 : 10 ^ (A 1).toNat * 1 ≤ 10 ^ (A 1).toNat * a_fin (a_one A (-1)) 9 := Int.mul_le_mul_of_nonneg_left (by omega) (by omega)
          omega
        · omega
      rw [hno, Int.mul_zero, Int.mul_zero, Int.sub_zero, Int.neg_one_mul, Int.mul_comm (10 ^ (A 4).toNat)] at b4
      rw [if_neg (by rw [hno]; omega)]
      have e : r_num (a_fin (a_one A (-1))) = p_num A * (q - 10 ^ (A 4).toNat) := by rw [b4, Int.mul_sub]; omega
      have hq2 : q - 10 ^ (A 4).toNat < (n : Int) * 10 ^ (a_fin (a_one A (-1)) 4).toNat := by
        rw [b34]
        rw [show ((n + 1 : Nat) : Int) = (n : Int) + 1 by omega, Int.add_mul, Int.one_mul] at h1
        omega
      obtain ⟨i1, i2, i3, i4⟩ := ih (a_fin (a_one A (-1))) (t + 1) (q - 10 ^ (A 4).toNat) b1 (by rw [b38]; exact h8) (by rw [bp]; exact hp) (by rw [bp]; exact e) (by omega) hq2
      rw [b34] at i3
      rw [b34, b32] at i4
      refine ⟨i1, fun j hj => (i2 j hj).trans (b3 j hj), ?_, fun hc => ?_⟩
      · rw [i3, bp, Int.sub_emod_right]
      · rw [i4 hc, b7, if_pos hc, Int.emod_add_emod, Int.sub_ediv_of_dvd _ (Int.dvd_refl _), Int.ediv_self (by omega), Int.sub_mul, Int.one_mul]
        congr 1
        omega
theorem dv_sg : ∀ (c : Nat) (A : Row) (t : Nat) (q : Int), SG A → A 8 = 1 → 0 < p_num A → (c : Int) + A 0 ≤ A 1 + 1 → r_num A = p_num A * q → 0 ≤ q → q < 10 ^ c →
    SG (a_dv c A t).1 ∧ (∀ j, (j < 4 ∨ j = 8 ∨ (20 ≤ j ∧ j < 28)) → (a_dv c A t).1 j = A j) ∧ r_num (a_dv c A t).1 = 0 ∧ ((c : Int) ≤ A 2 → k_num (a_dv c A t).1 = (k_num A + q) % 10 ^ (A 2).toNat) := by
  intro c
  induction c with
  | zero =>
    intro A t q h h8 hp _ hr h0 h1
    have q0 : q = 0 := by rw [Int.pow_zero] at h1; omega
    have hkb := k_bd h.1.1.1
    refine ⟨h, fun _ _ => rfl, ?_, fun _ => ?_⟩
    · show r_num A = 0
      rw [hr, q0, Int.mul_zero]
    · show k_num A = _
      rw [q0, Int.add_zero, Int.emod_eq_of_lt hkb.1 hkb.2]
  | succ c ih =>
    intro A t q h h8 hp hc hr h0 h1
    have hz := h.1.sz
    have hpo := h.pos (c := (c : Int)) (by omega) (by omega)
    obtain ⟨u1, u2, u3, u4⟩ := up_nums A ⟨by omega, by omega, by omega⟩ (i := 4) (v := (c : Int)) (Or.inl rfl)
    have e : ∀ j, ¬ j = 4 → up A 4 (c : Int) j = A j := fun j hj => by rw [up_eq, if_neg hj]
    have e4 : up A 4 (c : Int) 4 = c := by rw [up_eq, if_pos rfl]
    have hX : (0 : Int) < 10 ^ c := Int.pow_pos (by decide)
    obtain ⟨d1, d2, d3, d4⟩ := dh_sg 10 (up A 4 (c : Int)) 0 q hpo (by rw [e 8 (by omega)]; exact h8) (by rw [u4]; exact hp) (by rw [u1, u4]; exact hr) h0 (by rw [e4, Int.toNat_natCast]; rw [Int.pow_succ, Int.mul_comm] at h1; exact h1)
    rw [e4, Int.toNat_natCast, u4] at d3
    rw [e4, Int.toNat_natCast, u3, e 2 (by omega)] at d4
    have k : ∀ j, (j < 4 ∨ j = 8 ∨ (20 ≤ j ∧ j < 28)) → (a_dh 10 (up A 4 (c : Int)) 0).1 j = A j := fun j hj => (d2 j (by omega)).trans (e j (by omega))
    have kp : p_num (a_dh 10 (up A 4 (c : Int)) 0).1 = p_num A := p_c (k 0 (by omega)) (by omega) (fun j hj => k _ (by omega))
    rw [a_dv, if_neg (by rw [d1.2.2]; omega)]
    generalize (a_dh 10 (up A 4 (c : Int)) 0).1 = C at d1 d3 d4 k kp ⊢
    obtain ⟨i1, i2, i3, i4⟩ := ih C (t + (a_dh 10 (up A 4 (c : Int)) 0).2) (q % 10 ^ c) d1 (by rw [k 8 (by omega)]; exact h8) (by rw [kp]; exact hp) (by rw [k 0 (by omega), k 1 (by omega)]; omega) (by rw [kp]; exact d3) (Int.emod_nonneg _ (by omega)) (Int.emod_lt_of_pos _ hX)
    rw [k 2 (by omega)] at i4
    refine ⟨i1, fun j hj => (i2 j hj).trans (k j hj), i3, fun hc2 => ?_⟩
    rw [i4 (by omega), d4 (by omega), Int.emod_add_emod]
    congr 1
    have := Int.emod_add_mul_ediv q (10 ^ c)
    rw [Int.mul_comm] at this
    omega
