/-! numbers, with side conditions that arithmetic settles -/
theorem z_lt {a b : Int} (h1 : -2147483648 ≤ a) (h2 : a ≤ 2147483647) (h3 : -2147483648 ≤ b) (h4 : b ≤ 2147483647) : (Int32.ofInt a < Int32.ofInt b) = (a < b) := propext (oi_lt ⟨h1, h2⟩ ⟨h3, h4⟩)
theorem z_le {a b : Int} (h1 : -2147483648 ≤ a) (h2 : a ≤ 2147483647) (h3 : -2147483648 ≤ b) (h4 : b ≤ 2147483647) : (Int32.ofInt a ≤ Int32.ofInt b) = (a ≤ b) := propext (oi_le ⟨h1, h2⟩ ⟨h3, h4⟩)
theorem z_eq {a b : Int} (h1 : -2147483648 ≤ a) (h2 : a ≤ 2147483647) (h3 : -2147483648 ≤ b) (h4 : b ≤ 2147483647) : (Int32.ofInt a = Int32.ofInt b) = (a = b) := propext (oi_eq ⟨h1, h2⟩ ⟨h3, h4⟩)
theorem z_l0 {a : Int} (h1 : -2147483648 ≤ a) (h2 : a ≤ 2147483647) : (Int32.ofInt a < 0) = (a < 0) := propext (oi_l0 ⟨h1, h2⟩)
theorem z_g0 {a : Int} (h1 : -2147483648 ≤ a) (h2 : a ≤ 2147483647) : (0 < Int32.ofInt a) = (0 < a) := propext (oi_g0 ⟨h1, h2⟩)
theorem z_le0 {a : Int} (h1 : -2147483648 ≤ a) (h2 : a ≤ 2147483647) : (Int32.ofInt a ≤ 0) = (a ≤ 0) := propext (oi_le0 ⟨h1, h2⟩)
theorem z_ge0 {a : Int} (h1 : -2147483648 ≤ a) (h2 : a ≤ 2147483647) : (0 ≤ Int32.ofInt a) = (0 ≤ a) := propext (oi_ge0 ⟨h1, h2⟩)
theorem z_e0 {a : Int} (h1 : -2147483648 ≤ a) (h2 : a ≤ 2147483647) : (Int32.ofInt a = 0) = (a = 0) := propext (oi_e0 ⟨h1, h2⟩)
theorem z_e1 {a : Int} (h1 : -2147483648 ≤ a) (h2 : a ≤ 2147483647) : (Int32.ofInt a = 1) = (a = 1) := propext (oi_eq (b := 1) ⟨h1, h2⟩ ⟨by omega, by omega⟩)
theorem z_vp {a : Int} {n : Nat} (h1 : -2147483648 ≤ a) (h2 : a ≤ 2147483647) (h3 : 0 ≤ a) (h4 : a < n) : vp_in (Int32.ofInt a) n = True := eq_true ((vp_oi ⟨h1, h2⟩).mpr ⟨h3, h4⟩)
theorem z_nc {a : Int} (h1 : -2147483648 ≤ a) (h2 : a ≤ 2147483647) : (Int32.ofInt a).toNatClampNeg = a.toNat := oi_nc ⟨h1, h2⟩
theorem z_rem {a b : Int} (h1 : -2147483648 ≤ a) (h2 : a ≤ 2147483647) (h3 : -2147483648 ≤ b) (h4 : b ≤ 2147483647) (h5 : 0 ≤ a) (h6 : 0 < b) : Int32.ofInt a - Int32.ofInt a / Int32.ofInt b * Int32.ofInt b = Int32.ofInt (a % b) := oi_rem ⟨h1, h2⟩ ⟨h3, h4⟩ h5 h6
theorem z_div {a b : Int} (h1 : -2147483648 ≤ a) (h2 : a ≤ 2147483647) (h3 : -2147483648 ≤ b) (h4 : b ≤ 2147483647) (h5 : 0 ≤ a) (h6 : 0 < b) : Int32.ofInt a / Int32.ofInt b = Int32.ofInt (a / b) := oi_div ⟨h1, h2⟩ ⟨h3, h4⟩ h5 h6
theorem z_i2l {a : Int} (h1 : -2147483648 ≤ a) (h2 : a ≤ 2147483647) : (Int32.ofInt a).toInt64 = Int64.ofInt a := lo_i ⟨h1, h2⟩
theorem z_l2i (a : Int) : (Int64.ofInt a).toInt32 = Int32.ofInt a := Int64.toInt32_ofInt
theorem e_rem (a b : Int) : a - a / b * b = a % b := by rw [Int.emod_def, Int.mul_comm b]
theorem i_ltT {a b : Int} (h : a < b) : (a < b) = True := eq_true h
theorem i_ltF {a b : Int} (h : ¬ a < b) : (a < b) = False := eq_false h
theorem i_leT {a b : Int} (h : a ≤ b) : (a ≤ b) = True := eq_true h
theorem i_leF {a b : Int} (h : ¬ a ≤ b) : (a ≤ b) = False := eq_false h
theorem i_eqT {a b : Int} (h : a = b) : (a = b) = True := eq_true h
theorem i_eqF {a b : Int} (h : ¬ a = b) : (a = b) = False := eq_false h
theorem n_ltT {a b : Nat} (h : a < b) : (a < b) = True := eq_true h
theorem n_ltF {a b : Nat} (h : ¬ a < b) : (a < b) = False := eq_false h
theorem n_leT {a b : Nat} (h : a ≤ b) : (a ≤ b) = True := eq_true h
theorem n_leF {a b : Nat} (h : ¬ a ≤ b) : (a ≤ b) = False := eq_false h
theorem n_eqT {a b : Nat} (h : a = b) : (a = b) = True := eq_true h
theorem n_eqF {a b : Nat} (h : ¬ a = b) : (a = b) = False := eq_false h
theorem tn_9 (j : Nat) : ((9 : Int) + (j : Int)).toNat = 9 + j := by omega
theorem tn_12 (j : Nat) : ((12 : Int) + (j : Int)).toNat = 12 + j := by omega
theorem tn_14 (j : Nat) : ((14 : Int) + (j : Int)).toNat = 14 + j := by omega
theorem tn_20 (j : Nat) : ((20 : Int) + (j : Int)).toNat = 20 + j := by omega
theorem tn_28 (j : Nat) : ((28 : Int) + (j : Int)).toNat = 28 + j := by omega
theorem tn_44 (j : Nat) : ((44 : Int) + (j : Int)).toNat = 44 + j := by omega
theorem tn_52 (j : Nat) : ((52 : Int) + (j : Int)).toNat = 52 + j := by omega
theorem tn_68 (j : Nat) : ((68 : Int) + (j : Int)).toNat = 68 + j := by omega
theorem tn_84 (j : Nat) : ((84 : Int) + (j : Int)).toNat = 84 + j := by omega
theorem tn_100 (j : Nat) : ((100 : Int) + (j : Int)).toNat = 100 + j := by omega
theorem tn_116 (j : Nat) : ((116 : Int) + (j : Int)).toNat = 116 + j := by omega
theorem tn_132 (j : Nat) : ((132 : Int) + (j : Int)).toNat = 132 + j := by omega
theorem fu_e (F : Nat → Int32) (i : Nat) (x : Int32) (j : Nat) : upd F i x j = if j = i then x else F j := rfl
theorem ob_0 {p : Prop} [Decidable p] : (Int32.ofInt (if p then 1 else 0) = 0) = ¬ p := by
  by_cases h : p
  · rw [if_pos h]; exact propext ⟨fun q => absurd q (by decide), fun q => absurd h q⟩
  · rw [if_neg h]; exact propext ⟨fun _ => h, fun _ => rfl⟩
theorem ob_b {p : Prop} [Decidable p] : (Int32.ofInt (if p then 1 else 0) = 0 ∨ Int32.ofInt (if p then 1 else 0) = 1) = True := by
  by_cases h : p
  · rw [if_pos h]; exact eq_true (Or.inr rfl)
  · rw [if_neg h]; exact eq_true (Or.inl rfl)
/-! the reference: its cells from r on -/
def Rb (w : mW) (r : Nat) : Prop := (w_sh w r = (0, 10) ∧ w_sh w (r + 1) = (1, 252) ∧ w_sh w (r + 2) = (1, 900) ∧ w_sh w (r + 3) = (1, 8) ∧ w_sh w (r + 4) = (1, 252) ∧ w_sh w (r + 5) = (1, 3528) ∧ w_sh w (r + 6) = (2, 2) ∧ w_sh w (r + 7) = (4, 4) ∧ w_sh w (r + 8) = (4, 6) ∧ w_sh w (r + 9) = (4, 7) ∧ w_sh w (r + 10) = (4, 5) ∧ w_sh w (r + 11) = (4, 4) ∧ w_sh w (r + 12) = (4, 5) ∧ w_sh w (r + 13) = (4, 3) ∧ w_sh w (r + 14) = (4, 4) ∧ w_sh w (r + 15) = (4, 5) ∧ w_sh w (r + 16) = (4, 5) ∧ w_sh w (r + 17) = (4, 6) ∧ w_sh w (r + 18) = (4, 5) ∧ w_sh w (r + 19) = (4, 5) ∧ w_sh w (r + 20) = (4, 6) ∧ w_sh w (r + 21) = (2, 4) ∧ w_sh w (r + 22) = (1, 40) ∧ w_sh w (r + 23) = (1, 40) ∧ w_sh w (r + 24) = (2, 40) ∧ w_sh w (r + 25) = (1, 40)) ∧ w_R w r 0 = some (r + 1) ∧ w_R w r 2 = some (r + 2) ∧ w_R w r 6 = some (r + 3) ∧ w_R w r 8 = some (r + 4) ∧ w_R w r 9 = some (r + 5) ∧ w_R w r 10 = some (r + 6) ∧ w_R w r 12 = some (r + 7) ∧ w_R w r 13 = some (r + 8) ∧ w_R w r 14 = some (r + 9) ∧ w_R w r 15 = some (r + 10) ∧ w_R w r 16 = some (r + 11) ∧ w_R w r 17 = some (r + 12) ∧ w_R w r 18 = some (r + 13) ∧ w_R w r 19 = some (r + 14) ∧ w_R w r 20 = some (r + 15) ∧ w_R w r 21 = some (r + 16) ∧ w_R w r 22 = some (r + 17) ∧ w_R w r 23 = some (r + 18) ∧ w_R w r 24 = some (r + 19) ∧ w_R w r 25 = some (r + 20) ∧ w_R w r 35 = some (r + 21) ∧ w_R w r 37 = some (r + 22) ∧ w_R w r 38 = some (r + 23) ∧ w_R w r 39 = some (r + 24) ∧ w_R w r 41 = some (r + 25)
theorem Rb.fr {l : List Nat} {w w' : mW} {r : Nat} (h : Rb w r) (f : Fr l w w') : Rb w' r := by
  unfold Rb; rw [f.1, f.2.1]; exact h
theorem mW_ext {w w' : mW} (h1 : w_sh w = w_sh w') (h2 : w_I w = w_I w') (h3 : w_J w = w_J w') (h4 : w_R w = w_R w') (h5 : w_n w = w_n w') : w = w' := by
  obtain ⟨a, b, c, d, e⟩ := w
  obtain ⟨a', b', c', d', e'⟩ := w'
  simp only [w_sh, w_I, w_J, w_R, w_n] at h1 h2 h3 h4 h5
  subst h1; subst h2; subst h3; subst h4; subst h5; rfl
theorem b_and2 {v : Int} (h : 0 ≤ v) (h' : v ≤ 3) : Int32.ofInt v &&& Int32.ofInt 2 = Int32.ofInt (if v < 2 then 0 else 2) := by
  have h4 : v = 0 ∨ v = 1 ∨ v = 2 ∨ v = 3 := by omega
  rcases h4 with h | h | h | h <;> rw [h] <;> decide
theorem b_and1 {v : Int} (h : 0 ≤ v) (h' : v ≤ 3) : Int32.ofInt v &&& Int32.ofInt 1 = Int32.ofInt (v % 2) := by
  have h4 : v = 0 ∨ v = 1 ∨ v = 2 ∨ v = 3 := by omega
  rcases h4 with h | h | h | h <;> rw [h] <;> decide
def FE (F F' : Nat → Int32) : Prop := ∀ i, i ≠ 4 → i ≠ 5 → F' i = F i
theorem pw_b (n : Nat) (h : n ≤ 8) : 0 < (10 : Int) ^ n ∧ (10 : Int) ^ n ≤ 100000000 := ⟨Int.pow_pos (by decide), p10 n h⟩
theorem log_18 (A : Row) (x y z r : Int) : a_log A x y z r 18 = if A 18 = 30 then 30 else A 18 + 1 := by
  simp only [a_log]
  by_cases h : A 18 = 30
  · rw [if_pos h, if_pos h, up_eq, if_pos rfl, up_eq, if_pos rfl]; rfl
  · rw [if_neg h, if_neg h, up_eq, if_pos rfl]
theorem endC_18 {A : Row} (h0 : 0 ≤ A 4) : a_endC A 18 = if A 18 = 30 then 30 else A 18 + 1 := by
  have hB18 : a_cnt (A 2 - A 4).toNat A (A 4).toNat (if 0 < A 8 then -A 7 else A 7) 18 = A 18 := cnt_s _ _ _ _ _ (by omega)
  simp only [a_endC]
  rw [log_18]
  generalize a_cnt (A 2 - A 4).toNat A (A 4).toNat (if 0 < A 8 then -A 7 else A 7) = B at hB18
  have e : (if A 7 = -1 then up (up B 12 (B 12 + 1)) 13 (up B 12 (B 12 + 1) 13 + 1) else up B 12 (B 12 + 1)) 18 = A 18 := by
    split
    · rw [up_eq, if_neg (by omega), up_eq, if_neg (by omega), hB18]
    · rw [up_eq, if_neg (by omega), hB18]
  rw [e]
theorem go_18 {A : Row} {part pl : Nat} {c l : Int32} (hI : TI A) (hp : (part = 0 ∧ (pl : Int) ≤ A 0) ∨ (part = 1 ∧ (pl : Int) ≤ A 1)) (h18 : 0 ≤ A 18 ∧ A 18 ≤ 30) : 0 ≤ a_fin (a_go A part pl c l) 18 ∧ a_fin (a_go A part pl c l) 18 ≤ 30 := by
  have h0 := hI.1
  have key : ∀ (B : Row) (wh : Nat) (r : Row × Option (Nat × Nat) × Int32), B 1 = A 1 → B 18 = A 18 → TI B → (wh : Int) ≤ A 1 → (r = match a_lev ((A 1).toNat - wh) B wh c l with | (B', none, l') => (a_endC B', none, l') | (B', some k, l') => (B', some (1, k), l')) →
      0 ≤ a_fin r 18 ∧ a_fin r 18 ≤ 30 := by
    intro B wh r e1 e18 hB hw hr
    have h2 := lev_k ((A 1).toNat - wh) B wh c l 18 (by omega) (by omega) (by unfold kp; omega)
    have h3 := lev_TI ((A 1).toNat - wh) B wh c l (by omega) hB
    generalize a_lev ((A 1).toNat - wh) B wh c l = z at hr h2 h3
    obtain ⟨B', ok, l'⟩ := z
    cases ok with
    | none =>
      subst hr
      simp only [a_fin] at h2 h3 ⊢
      have h30 := h3.1
      rw [up_eq, if_neg (by omega), owe_s _ _ _ _ _ (by omega), endC_18 (by omega)]
      split <;> omega
    | some k =>
      subst hr
      simp only [a_fin] at h2 ⊢
      rw [up_eq, if_neg (by omega), up_eq, if_neg (by omega)]
      omega
  by_cases hp0 : part = 0
  · simp only [a_go, if_pos hp0]
    have hpk := fun j hj => pins_k ((A 0).toNat - pl) A pl j (by omega) hI hj
    generalize a_pins ((A 0).toNat - pl) A pl = z at hpk
    obtain ⟨B, ok⟩ := z
    cases ok with
    | none => exact key B _ _ (hpk 1 (by unfold kp; omega)).1 (hpk 18 (by unfold kp; omega)).1 (hpk 0 (by unfold kp; omega)).2 (by omega) rfl
    | some k =>
      have := (hpk 18 (by unfold kp; omega)).1
      simp only [a_fin] at this ⊢
      rw [up_eq, if_neg (by omega), up_eq, if_neg (by omega)]; omega
  · simp only [a_go, if_neg hp0]
    exact key A _ _ rfl rfl hI (by omega) rfl
/-- what every row keeps, with its log's size -/
def RI (A : Row) : Prop := TJ A ∧ (A 8 = 0 ∨ A 8 = 1) ∧ 0 ≤ A 18 ∧ A 18 ≤ 30
theorem one_RI {A : Row} {way : Int} (h : RI A) (hw : way = 1 ∨ way = -1) : RI (a_fin (a_one A way)) := by
  obtain ⟨hJ, h8, h18⟩ := h
  obtain ⟨j1, j2, j3⟩ := one_TJ hJ hw h18.1
  have hI := beg_TI (way := way) hJ.1 hw
  have h0 := hI.1
  refine ⟨j1, by rw [j2]; exact h8, ?_⟩
  exact go_18 hI (Or.inl ⟨rfl, by omega⟩) (by rw [beg_k _ _ _ (by omega)]; exact h18)
/-- carries alone have changed, and the longest stays above 0 -/
def FG (F F' : Nat → Int32) : Prop := FE F F' ∧ (0 ≤ F 5 → 0 ≤ F' 5)
theorem FG.refl (F : Nat → Int32) : FG F F := ⟨fun _ _ _ => rfl, fun h => h⟩
theorem FG.trans {F F' F'' : Nat → Int32} (h : FG F F') (h' : FG F' F'') : FG F F'' := ⟨fun j a b => (h'.1 j a b).trans (h.1 j a b), fun q => h'.2 (h.2 q)⟩
/-- multiplying, on rows -/
def a_mul : List Int → Nat → Row → Nat → Row × Nat
  | [], _, A, t => (A, t)
  | x :: l, k, A, t => if 0 < (a_many x.natAbs (up A 4 k) (if x < 0 then -1 else 1)).1 5 then ((a_many x.natAbs (up A 4 k) (if x < 0 then -1 else 1)).1, t + (a_many x.natAbs (up A 4 k) (if x < 0 then -1 else 1)).2) else a_mul l (k + 1) (a_many x.natAbs (up A 4 k) (if x < 0 then -1 else 1)).1 (t + (a_many x.natAbs (up A 4 k) (if x < 0 then -1 else 1)).2)
theorem go_p {A : Row} {part pl : Nat} {c l : Int32} : match (a_go A part pl c l).2.1 with | none => True | some (p, _) => p ≤ 1 := by
  have key : ∀ (B : Row) (wh : Nat) (r : Row × Option (Nat × Nat) × Int32), (r = match a_lev ((A 1).toNat - wh) B wh c l with | (B', none, l') => (a_endC B', none, l') | (B', some k, l') => (B', some (1, k), l')) → match r.2.1 with | none => True | some (p, _) => p ≤ 1 := by
    intro B wh r hr
    generalize a_lev ((A 1).toNat - wh) B wh c l = z at hr
    obtain ⟨B', ok, l'⟩ := z
    cases ok with
    | none => subst hr; trivial
    | some k => subst hr; exact Nat.le_refl _
  by_cases hp0 : part = 0
  · simp only [a_go, if_pos hp0]
    generalize a_pins ((A 0).toNat - pl) A pl = z
    obtain ⟨B, ok⟩ := z
    cases ok with
    | none => exact key B _ _ rfl
    | some k => exact Nat.zero_le _
  · simp only [a_go, if_neg hp0]
    exact key A _ _ rfl
theorem one_52 {A : Row} {way : Int} (hJ : TJ A) (hw : way = 1 ∨ way = -1) (h18 : 0 ≤ A 18) : 0 ≤ a_fin (a_one A way) 5 ∧ a_fin (a_one A way) 5 ≤ 2 := by
  have hI := beg_TI (way := way) hJ.1 hw
  have h0 := hI.1
  have f4 := (fin_k (A := a_beg A way) (c := Int32.ofInt 0) (l := Int32.ofInt 0) (part := 0) (pl := 0) hI (Or.inl ⟨rfl, by omega⟩) (by rw [beg_k _ _ _ (by omega)]; exact h18) (fun j hj => by rw [beg_k _ _ _ (by omega)]; exact hJ.2 j hj)).2.2.2
  have f5 := go_p (A := a_beg A way) (part := 0) (pl := 0) (c := Int32.ofInt 0) (l := Int32.ofInt 0)
  unfold a_one
  generalize a_go (a_beg A way) 0 0 (Int32.ofInt 0) (Int32.ofInt 0) = r at f4 f5 ⊢
  obtain ⟨B, ok, l⟩ := r
  cases ok with
  | none => simp only at f4 ⊢; omega
  | some x => obtain ⟨p, k⟩ := x; simp only at f4 f5 ⊢; rw [f4]; omega
theorem many_RI {way : Int} (hw : way = 1 ∨ way = -1) : ∀ (n : Nat) (A : Row), RI A → RI (a_many n A way).1 ∧ (∀ j, j < 5 → (a_many n A way).1 j = A j) ∧ (a_many n A way).1 8 = A 8 := by
  intro n
  induction n with
  | zero => intro A h; exact ⟨h, fun _ _ => rfl, rfl⟩
  | succ n ih =>
    intro A h
    have h1 := one_RI h hw
    have h2 := one_sz h.1 hw h.2.2.1
    have h3 := (one_TJ h.1 hw h.2.2.1).2.1
    rw [a_many]
    cases ho : (a_one A way).2.1 with
    | none =>
      obtain ⟨g1, g2, g3⟩ := ih _ h1
      exact ⟨g1, fun j hj => (g2 j hj).trans (h2 j hj), g3.trans h3⟩
    | some y => exact ⟨h1, h2, h3⟩
theorem many_5 {way : Int} (hw : way = 1 ∨ way = -1) : ∀ (n : Nat) (A : Row), RI A → A 5 = 0 → (0 ≤ (a_many n A way).1 5 ∧ (a_many n A way).1 5 ≤ 2) ∧ ((a_many n A way).1 5 = 0 ↔ (a_many n A way).2 = n) ∧ (a_many n A way).2 ≤ n := by
  intro n
  induction n with
  | zero => intro A h h5; exact ⟨by show 0 ≤ A 5 ∧ A 5 ≤ 2; omega, ⟨fun _ => rfl, fun _ => h5⟩, Nat.le_refl _⟩
  | succ n ih =>
    intro A h h5
    have h1 := one_RI h hw
    have h2 := one_5 h.1 hw h.2.2.1
    have h22 := one_52 h.1 hw h.2.2.1
    rw [a_many]
    cases ho : (a_one A way).2.1 with
    | none =>
      rw [ho] at h2
      obtain ⟨g1, g2, g3⟩ := ih _ h1 h2
      refine ⟨g1, ?_, by show _ + 1 ≤ n + 1; omega⟩
      show _ ↔ _ + 1 = n + 1
      rw [g2]; omega
    | some y =>
      rw [ho] at h2
      simp only at h2
      refine ⟨h22, ?_, by show 0 ≤ n + 1; omega⟩
      show a_fin (a_one A way) 5 = 0 ↔ 0 = n + 1
      omega
theorem RI.pos {A : Row} {c : Int} (h : RI A) (h0 : 0 ≤ c) (h1 : c + A 0 ≤ A 1) : RI (up A 4 c) :=
  ⟨h.1.pos h0 h1, by rw [up_eq, if_neg (by omega)]; exact h.2.1, by rw [up_eq, if_neg (by omega)]; exact h.2.2⟩
theorem dh_RI : ∀ (n : Nat) (A : Row) (k : Nat), RI A → 0 ≤ A 5 → A 5 ≤ 2 → RI (a_dh n A k).1 ∧ (∀ j, j < 5 → (a_dh n A k).1 j = A j) ∧ (0 ≤ (a_dh n A k).1 5 ∧ (a_dh n A k).1 5 ≤ 2) ∧ (a_dh n A k).1 8 = A 8 := by
  intro n
  induction n with
  | zero => intro A k h h5 h52; exact ⟨h, fun _ _ => rfl, ⟨h5, h52⟩, rfl⟩
  | succ n ih =>
    intro A k h h5 h52
    have hw : (-1 : Int) = 1 ∨ (-1 : Int) = -1 := Or.inr rfl
    have h1 := one_RI h hw
    have h2 := one_sz h.1 hw h.2.2.1
    have h3 := one_52 h.1 hw h.2.2.1
    have h4 := (one_TJ h.1 hw h.2.2.1).2.1
    rw [a_dh]
    cases ho : (a_one A (-1)).2.1 with
    | some y => exact ⟨h1, h2, h3, h4⟩
    | none =>
      simp only
      generalize a_fin (a_one A (-1)) = B at h1 h2 h3 h4
      have g1 := one_RI h1 (Or.inl rfl : (1 : Int) = 1 ∨ (1 : Int) = -1)
      have g2 := one_sz h1.1 (Or.inl rfl : (1 : Int) = 1 ∨ (1 : Int) = -1) h1.2.2.1
      have g3 := one_52 h1.1 (Or.inl rfl : (1 : Int) = 1 ∨ (1 : Int) = -1) h1.2.2.1
      have g4 := (one_TJ h1.1 (Or.inl rfl : (1 : Int) = 1 ∨ (1 : Int) = -1) h1.2.2.1).2.1
      split
      · cases ho2 : (a_one B 1).2.1 with
        | none => exact ⟨g1, fun j hj => (g2 j hj).trans (h2 j hj), g3, g4.trans h4⟩
        | some y => exact ⟨g1, fun j hj => (g2 j hj).trans (h2 j hj), g3, g4.trans h4⟩
      · obtain ⟨q1, q2, q3, q4⟩ := ih B (k + 1) h1 h3.1 h3.2
        exact ⟨q1, fun j hj => (q2 j hj).trans (h2 j hj), q3, q4.trans h4⟩
theorem num_b {A : Row} (h0 : 0 ≤ A 0 ∧ A 0 ≤ 8) (hd : ∀ j, j < 8 → 0 ≤ A (20 + j) ∧ A (20 + j) ≤ 9) : 0 ≤ p_num A ∧ p_num A < 100000000 := by
  have := hn_b (fun i => A (20 + i)) (A 0).toNat 0 (fun i hi => hd i (by omega)) (by omega)
  have h8 := p10 (A 0).toNat (by omega)
  unfold p_num
  omega
theorem z_n {A : Row} {lo n : Nat} (i : Nat) (h : i < lo ∨ lo + n ≤ i) : a_z lo n A i = A i := by simp only [a_z]; rw [if_neg (by omega)]
/-- clearing, as the reference does it: within the sizes alone -/
def r_c1 (A : Row) (t : Int) : Row × Int := if t ≤ 1 then (a_z 116 (A 1).toNat (a_z 28 (A 1).toNat A), a_zc A 28 (A 1).toNat) else (A, 0)
def r_c2 (r : Row × Int) (t : Int) : Row × Int := if t = 0 ∨ t = 2 then (a_z 44 (r.1 2).toNat r.1, r.2 + a_zc r.1 44 (r.1 2).toNat) else r
def r_c3 (r : Row × Int) (t : Int) : Row × Int := if t = 0 ∨ t = 3 then (a_z 20 (r.1 0).toNat r.1, r.2 + a_zc r.1 20 (r.1 0).toNat) else r
def r_clear (A : Row) (t : Int) : Row × Int := r_c3 (r_c2 (r_c1 A t) t) t
/-- the rows that are kept -/
def hpush (H : Nat → Row) (n : Nat) (A : Row) : Nat → Row := fun i => if n = 12 then (if i < 11 then H (i + 1) else A) else (if i = n then A else H i)
def hlen (n : Nat) : Nat := if n = 12 then 12 else n + 1
def ST (w : mW) (r : Nat) (H : Nat → Row) (n : Nat) : Prop := ∀ i j, i < n → j < 252 → w_I w (r + 5) (252 * i + j) = Int32.ofInt (H i j)
/-! tokens, on numbers -/
def isB (c : Int) : Bool := decide (c = 32 ∨ c = 10)
def isL (c : Int) : Bool := decide (97 ≤ c ∧ c ≤ 122)
def isD (c : Int) : Bool := decide (48 ≤ c ∧ c ≤ 57)
def rn (p : Int → Bool) (f : Nat → Int) (n : Nat) : Nat → Nat → Nat
  | 0, i => i
  | k + 1, i => if i < n ∧ p (f i) = true then rn p f n k (i + 1) else i
def rnn (p : Int → Bool) (f : Nat → Int) (n i : Nat) : Nat := rn p f n (n - i) i
theorem rn_step {p : Int → Bool} {f : Nat → Int} {n i : Nat} (h : i < n) (hp : p (f i) = true) : rnn p f n i = rnn p f n (i + 1) := by
  unfold rnn
  obtain ⟨k, hk⟩ : ∃ k, n - i = k + 1 := ⟨n - i - 1, by omega⟩
  have hk' : n - (i + 1) = k := by omega
  rw [hk, hk', rn, if_pos ⟨h, hp⟩]
theorem rn_stop {p : Int → Bool} {f : Nat → Int} {n i : Nat} (h : n ≤ i ∨ p (f i) = false) : rnn p f n i = i := by
  unfold rnn
  cases hk : n - i with
  | zero => rfl
  | succ k =>
    rw [rn, if_neg]
    rintro ⟨h1, h2⟩
    rcases h with h | h
    · omega
    · rw [h] at h2; cases h2
theorem rn_ge {p : Int → Bool} {f : Nat → Int} {n : Nat} : ∀ (k i : Nat), i ≤ rn p f n k i := by
  intro k
  induction k with
  | zero => intro i; exact Nat.le_refl _
  | succ k ih =>
    intro i; rw [rn]
    split
    · have := ih (i + 1); omega
    · exact Nat.le_refl _
theorem rn_le {p : Int → Bool} {f : Nat → Int} {n : Nat} : ∀ (k i : Nat), i ≤ n → rn p f n k i ≤ n := by
  intro k
  induction k with
  | zero => intro i h; exact h
  | succ k ih =>
    intro i h; rw [rn]
    split
    · exact ih (i + 1) (by omega)
    · exact h
theorem rn_p {p : Int → Bool} {f : Nat → Int} {n : Nat} : ∀ (k i j : Nat), i ≤ j → j < rn p f n k i → p (f j) = true := by
  intro k
  induction k with
  | zero => intro i j h1 h2; rw [rn] at h2; omega
  | succ k ih =>
    intro i j h1 h2; rw [rn] at h2
    split at h2
    · rename_i h
      by_cases hij : j = i
      · rw [hij]; exact h.2
      · exact ih (i + 1) j (by omega) h2
    · omega
/-- a token: its kind (0 the end, 1 a word, 2 a number, 3 a sign, 4 an invalid one), its first byte, the byte behind it -/
abbrev Tk : Type := Nat × Nat × Nat
def tok (f : Nat → Int) (n i : Nat) : Tk :=
  if n ≤ rnn isB f n i then (0, rnn isB f n i, rnn isB f n i)
  else if isL (f (rnn isB f n i)) = true then (if 8 < rnn isL f n (rnn isB f n i) - rnn isB f n i then 4 else 1, rnn isB f n i, rnn isL f n (rnn isB f n i))
  else if isD (f (rnn isB f n i)) = true then (if 8 < rnn isD f n (rnn isB f n i) - rnn isB f n i then 4 else 2, rnn isB f n i, rnn isD f n (rnn isB f n i))
  else (3, rnn isB f n i, rnn isB f n i + 1)
def dv (f : Nat → Int) (s : Nat) : Nat → Int
  | 0 => 0
  | k + 1 => 10 * dv f s k + (f (s + k) - 48)
theorem dv_b (f : Nat → Int) (s : Nat) : ∀ k : Nat, (∀ i, i < k → isD (f (s + i)) = true) → 0 ≤ dv f s k ∧ dv f s k < 10 ^ k := by
  intro k
  induction k with
  | zero => intro _; exact ⟨Int.le_refl _, by show (0 : Int) < 1; omega⟩
  | succ k ih =>
    intro h
    have h1 := ih (fun i hi => h i (by omega))
    have h2 := h k (by omega)
    unfold isD at h2
    rw [decide_eq_true_eq] at h2
    rw [dv, Int.pow_succ]
    omega
theorem tok_b {f : Nat → Int} {n i : Nat} (h : i ≤ n) : i ≤ (tok f n i).2.1 ∧ (tok f n i).2.1 ≤ (tok f n i).2.2 ∧ (tok f n i).2.2 ≤ n ∧ (tok f n i).1 ≤ 4 ∧ ((tok f n i).1 = 0 ↔ (tok f n i).2.1 = n) ∧ ((tok f n i).1 = 0 → (tok f n i).2.2 = n) ∧ (0 < (tok f n i).1 → (tok f n i).2.1 < (tok f n i).2.2) ∧ ((tok f n i).1 = 1 ∨ (tok f n i).1 = 2 → (tok f n i).2.2 - (tok f n i).2.1 ≤ 8) ∧ ((tok f n i).1 = 2 → ∀ j, j < (tok f n i).2.2 - (tok f n i).2.1 → isD (f ((tok f n i).2.1 + j)) = true) := by
  have h1 : i ≤ rnn isB f n i := rn_ge _ _
  have h2 : rnn isB f n i ≤ n := rn_le _ _ h
  unfold tok
  generalize rnn isB f n i = s at h1 h2
  have key : ∀ (k e : Nat), s ≤ e → e ≤ n → k ≤ 4 → (k = 0 ↔ s = n) → (k = 0 → e = n) → (0 < k → s < e) → (k = 1 ∨ k = 2 → e - s ≤ 8) → (k = 2 → ∀ j, j < e - s → isD (f (s + j)) = true) → i ≤ ((k, s, e) : Tk).2.1 ∧ ((k, s, e) : Tk).2.1 ≤ ((k, s, e) : Tk).2.2 ∧ ((k, s, e) : Tk).2.2 ≤ n ∧ ((k, s, e) : Tk).1 ≤ 4 ∧ (((k, s, e) : Tk).1 = 0 ↔ ((k, s, e) : Tk).2.1 = n) ∧ (((k, s, e) : Tk).1 = 0 → ((k, s, e) : Tk).2.2 = n) ∧ (0 < ((k, s, e) : Tk).1 → ((k, s, e) : Tk).2.1 < ((k, s, e) : Tk).2.2) ∧ (((k, s, e) : Tk).1 = 1 ∨ ((k, s, e) : Tk).1 = 2 → ((k, s, e) : Tk).2.2 - ((k, s, e) : Tk).2.1 ≤ 8) ∧ (((k, s, e) : Tk).1 = 2 → ∀ j, j < ((k, s, e) : Tk).2.2 - ((k, s, e) : Tk).2.1 → isD (f (((k, s, e) : Tk).2.1 + j)) = true) :=
    fun k e a b c d e' g p q => ⟨h1, a, b, c, d, e', g, p, q⟩
  by_cases hn : n ≤ s
  · rw [if_pos hn]
    exact key _ _ (by omega) (by omega) (by omega) (by omega) (by omega) (by omega) (by omega) (fun q => by omega)
  · rw [if_neg hn]
    by_cases hL : isL (f s) = true
    · rw [if_pos hL]
      have g0 : rnn isL f n s = rnn isL f n (s + 1) := rn_step (by omega) hL
      have g1 : s + 1 ≤ rnn isL f n (s + 1) := rn_ge _ _
      have g2 : rnn isL f n s ≤ n := rn_le _ _ h2
      by_cases h8 : 8 < rnn isL f n s - s
      · rw [if_pos h8]
        exact key _ _ (by omega) (by omega) (by omega) (by omega) (by omega) (by omega) (by omega) (fun q => by omega)
      · rw [if_neg h8]
        exact key _ _ (by omega) (by omega) (by omega) (by omega) (by omega) (by omega) (by omega) (fun q => by omega)
    · rw [if_neg hL]
      by_cases hD : isD (f s) = true
      · rw [if_pos hD]
        have g0 : rnn isD f n s = rnn isD f n (s + 1) := rn_step (by omega) hD
        have g1 : s + 1 ≤ rnn isD f n (s + 1) := rn_ge _ _
        have g2 : rnn isD f n s ≤ n := rn_le _ _ h2
        by_cases h8 : 8 < rnn isD f n s - s
        · rw [if_pos h8]
          exact key _ _ (by omega) (by omega) (by omega) (by omega) (by omega) (by omega) (by omega) (fun q => by omega)
        · rw [if_neg h8]
          exact key _ _ (by omega) (by omega) (by omega) (by omega) (by omega) (by omega) (by omega) (fun _ j hj => rn_p (n := n) (n - s) s (s + j) (by omega) (by unfold rnn at hj; omega))
      · rw [if_neg hD]
        exact key _ _ (by omega) (by omega) (by omega) (by omega) (by omega) (by omega) (by omega) (fun q => by omega)
def tval (f : Nat → Int) (t : Tk) : Int := dv f t.2.1 (t.2.2 - t.2.1)
theorem tval_b {f : Nat → Int} {n i : Nat} (h : i ≤ n) (h2 : (tok f n i).1 = 2) : 0 ≤ tval f (tok f n i) ∧ tval f (tok f n i) < 100000000 := by
  obtain ⟨-, -, -, -, -, -, -, a, b⟩ := tok_b (f := f) h
  have h8 := a (Or.inr h2)
  have g := dv_b f (tok f n i).2.1 ((tok f n i).2.2 - (tok f n i).2.1) (b h2)
  have p8 := p10 ((tok f n i).2.2 - (tok f n i).2.1) h8
  unfold tval
  omega
def mt (f : Nat → Int) : Nat → List Int → Bool
  | _, [] => true
  | s, c :: l => decide (f s = c) && mt f (s + 1) l
def isW (f : Nat → Int) (t : Tk) (l : List Int) : Bool := decide (t.1 = 1) && decide (t.2.2 - t.2.1 = l.length) && mt f t.2.1 l
def isS (f : Nat → Int) (t : Tk) (c : Int) : Bool := decide (t.1 = 3) && decide (f t.2.1 = c)
def wd : Nat → List Int
  | 0 => [112, 105, 110, 115]
  | 1 => [119, 104, 101, 101, 108, 115]
  | 2 => [99, 111, 117, 110, 116, 101, 114]
  | 3 => [114, 101, 97, 99, 104]
  | 4 => [115, 108, 105, 112]
  | 5 => [115, 116, 117, 99, 107]
  | 6 => [115, 101, 116]
  | 7 => [116, 117, 114, 110]
  | 8 => [115, 104, 105, 102, 116]
  | 9 => [99, 108, 101, 97, 114]
  | 10 => [114, 101, 115, 117, 108, 116]
  | 11 => [116, 105, 109, 101, 115]
  | 12 => [115, 104, 111, 114, 116]
  | _ => [100, 105, 118, 105, 100, 101]
/-! the reference reads tokens -/
def RBf (w : mW) (r : Nat) (f : Nat → Int) (n : Nat) : Prop := n ≤ 900 ∧ ∀ i, i < 900 → w_I w (r + 2) i = Int32.ofInt (f i) ∧ 0 ≤ f i ∧ f i ≤ 255
theorem RBf.fr {l : List Nat} {w w' : mW} {r n : Nat} {f : Nat → Int} (h : RBf w r f n) (g : Fr l w w') (hl : r + 2 ∉ l) : RBf w' r f n :=
  ⟨h.1, fun i hi => by rw [(g.2.2.2 _ hl).1]; exact h.2 i hi⟩
/-- fields of the reading alone have changed -/
def KT (F F' : Nat → Int32) : Prop := ∀ i, i ≠ 27 → i ≠ 28 → i ≠ 29 → i ≠ 30 → F' i = F i
def tokS (f : Nat → Int) (n s : Nat) : Tk :=
  if n ≤ s then (0, s, s) else if isL (f s) = true then (if 8 < rnn isL f n s - s then 4 else 1, s, rnn isL f n s)
  else if isD (f s) = true then (if 8 < rnn isD f n s - s then 4 else 2, s, rnn isD f n s) else (3, s, s + 1)
theorem tok_S (f : Nat → Int) (n i : Nat) : tok f n i = tokS f n (rnn isB f n i) := rfl
def KB (F F' : Nat → Int32) : Prop := ∀ i, i ≠ 27 → i ≠ 28 → i ≠ 29 → i ≠ 30 → i ≠ 31 → i ≠ 32 → F' i = F i
theorem KT.b {F F' : Nat → Int32} (h : KT F F') : KB F F' := fun i a b c d _ _ => h i a b c d
theorem KB.trans {F F' F'' : Nat → Int32} (h : KB F F') (h' : KB F' F'') : KB F F'' := fun i a b c d e f => (h' i a b c d e f).trans (h i a b c d e f)
theorem KT.trans {F F' F'' : Nat → Int32} (h : KT F F') (h' : KT F' F'') : KT F F'' := fun i a b c d => (h' i a b c d).trans (h i a b c d)
/-- the words lie in the reference's cells -/
def RW (w : mW) (r : Nat) : Prop := ∀ k, k < 14 → ∀ i, i < (wd k).length → w_I w (r + 7 + k) i = Int32.ofInt ((wd k).getD i 0)
theorem RW.fr {l : List Nat} {w w' : mW} {r : Nat} (h : RW w r) (g : Fr l w w') (hl : ∀ k, k < 14 → r + 7 + k ∉ l) : RW w' r :=
  fun k hk i hi => by rw [(g.2.2.2 _ (hl k hk)).1]; exact h k hk i hi
/-! a setup's text, on rows -/
def s_kind (f : Nat → Int) (t : Tk) : Nat := if isW f t (wd 0) = true then 0 else if isW f t (wd 1) = true then 1 else if isW f t (wd 2) = true then 2 else if isW f t (wd 3) = true then 3 else if isW f t (wd 4) = true then 4 else if isW f t (wd 5) = true then 5 else 6
def s_lo (A : Row) (k : Nat) : Int := if k = 0 then 2 else if k = 1 then A 0 else if k = 2 then 2 else 0
def s_hi (A : Row) (k : Nat) : Int := if k = 0 then (if A 1 < 8 then A 1 else 8) else if k = 1 then 16 else if k = 2 then 8 else if k = 3 then 16 else A 1 - 1
def s_has (A : Row) (k : Nat) (v : Int) : Prop := 4 ≤ k ∧ (k = 4 ∧ A (68 + v.toNat) % 2 = 1 ∨ ¬ k = 4 ∧ 2 ≤ A (68 + v.toNat))
def s_put (A : Row) (k : Nat) (v : Int) : Row := if k < 4 then up A k v else up A (68 + v.toNat) (A (68 + v.toNat) + (if k = 4 then 1 else 2))
def s_late (td : Nat → Bool) (k : Nat) : Prop := k < 4 ∧ (td k = true ∨ k < 2 ∧ (td 4 = true ∨ td 5 = true))
def s_td (td : Nat → Bool) (k : Nat) : Nat → Bool := fun i => if i = k then true else td i
noncomputable def s_part (f : Nat → Int) (n : Nat) (A : Row) (td : Nat → Bool) (t : Tk) : (Nat × Nat) ⊕ (Row × (Nat → Bool) × Tk) :=
  haveI := Classical.propDecidable
  if s_kind f t = 6 then .inl (1, t.2.1)
  else if s_late td (s_kind f t) then .inl (3, t.2.1)
  else if ¬ (tok f n t.2.2).1 = 2 then .inl (1, (tok f n t.2.2).2.1)
  else if tval f (tok f n t.2.2) < s_lo A (s_kind f t) ∨ s_hi A (s_kind f t) < tval f (tok f n t.2.2) then .inl (2, (tok f n t.2.2).2.1)
  else if s_has A (s_kind f t) (tval f (tok f n t.2.2)) then .inl (3, (tok f n t.2.2).2.1)
  else if ¬ isS f (tok f n (tok f n t.2.2).2.2) 59 = true then .inl (1, (tok f n (tok f n t.2.2).2.2).2.1)
  else .inr (s_put A (s_kind f t) (tval f (tok f n t.2.2)), s_td td (s_kind f t), tok f n (tok f n (tok f n t.2.2).2.2).2.2)
theorem sp_1 {f : Nat → Int} {n : Nat} {A : Row} {td : Nat → Bool} {t : Tk} (h : s_kind f t = 6) : s_part f n A td t = .inl (1, t.2.1) := by
  unfold s_part; rw [if_pos h]
theorem sp_2 {f : Nat → Int} {n : Nat} {A : Row} {td : Nat → Bool} {t : Tk} (h : ¬ s_kind f t = 6) (h2 : s_late td (s_kind f t)) : s_part f n A td t = .inl (3, t.2.1) := by
  unfold s_part; rw [if_neg h, if_pos h2]
theorem sp_3 {f : Nat → Int} {n : Nat} {A : Row} {td : Nat → Bool} {t : Tk} (h : ¬ s_kind f t = 6) (h2 : ¬ s_late td (s_kind f t)) (h3 : ¬ (tok f n t.2.2).1 = 2) : s_part f n A td t = .inl (1, (tok f n t.2.2).2.1) := by
  unfold s_part; rw [if_neg h, if_neg h2, if_pos h3]
theorem sp_4 {f : Nat → Int} {n : Nat} {A : Row} {td : Nat → Bool} {t : Tk} (h : ¬ s_kind f t = 6) (h2 : ¬ s_late td (s_kind f t)) (h3 : (tok f n t.2.2).1 = 2) (h4 : tval f (tok f n t.2.2) < s_lo A (s_kind f t) ∨ s_hi A (s_kind f t) < tval f (tok f n t.2.2)) : s_part f n A td t = .inl (2, (tok f n t.2.2).2.1) := by
  unfold s_part; rw [if_neg h, if_neg h2, if_neg (fun q => q h3), if_pos h4]
theorem sp_5 {f : Nat → Int} {n : Nat} {A : Row} {td : Nat → Bool} {t : Tk} (h : ¬ s_kind f t = 6) (h2 : ¬ s_late td (s_kind f t)) (h3 : (tok f n t.2.2).1 = 2) (h4 : ¬ (tval f (tok f n t.2.2) < s_lo A (s_kind f t) ∨ s_hi A (s_kind f t) < tval f (tok f n t.2.2))) (h5 : s_has A (s_kind f t) (tval f (tok f n t.2.2))) : s_part f n A td t = .inl (3, (tok f n t.2.2).2.1) := by
  unfold s_part; rw [if_neg h, if_neg h2, if_neg (fun q => q h3), if_neg h4, if_pos h5]
theorem sp_6 {f : Nat → Int} {n : Nat} {A : Row} {td : Nat → Bool} {t : Tk} (h : ¬ s_kind f t = 6) (h2 : ¬ s_late td (s_kind f t)) (h3 : (tok f n t.2.2).1 = 2) (h4 : ¬ (tval f (tok f n t.2.2) < s_lo A (s_kind f t) ∨ s_hi A (s_kind f t) < tval f (tok f n t.2.2))) (h5 : ¬ s_has A (s_kind f t) (tval f (tok f n t.2.2))) (h6 : isS f (tok f n (tok f n t.2.2).2.2) 59 = false) : s_part f n A td t = .inl (1, (tok f n (tok f n t.2.2).2.2).2.1) := by
  unfold s_part; rw [if_neg h, if_neg h2, if_neg (fun q => q h3), if_neg h4, if_neg h5, if_pos (by rw [h6]; decide)]
theorem sp_7 {f : Nat → Int} {n : Nat} {A : Row} {td : Nat → Bool} {t : Tk} (h : ¬ s_kind f t = 6) (h2 : ¬ s_late td (s_kind f t)) (h3 : (tok f n t.2.2).1 = 2) (h4 : ¬ (tval f (tok f n t.2.2) < s_lo A (s_kind f t) ∨ s_hi A (s_kind f t) < tval f (tok f n t.2.2))) (h5 : ¬ s_has A (s_kind f t) (tval f (tok f n t.2.2))) (h6 : isS f (tok f n (tok f n t.2.2).2.2) 59 = true) : s_part f n A td t = .inr (s_put A (s_kind f t) (tval f (tok f n t.2.2)), s_td td (s_kind f t), tok f n (tok f n (tok f n t.2.2).2.2).2.2) := by
  unfold s_part; rw [if_neg h, if_neg h2, if_neg (fun q => q h3), if_neg h4, if_neg h5, if_neg (fun q => q h6)]
theorem sk_le (f : Nat → Int) (t : Tk) : s_kind f t ≤ 6 := by
  unfold s_kind
  repeat' split
  all_goals omega
theorem b_or {a : Int} (h : 0 ≤ a) (h2 : a ≤ 3) : (a % 2 = 0 → Int32.ofInt a ||| Int32.ofInt 1 = Int32.ofInt (a + 1)) ∧ (a < 2 → Int32.ofInt a ||| Int32.ofInt 2 = Int32.ofInt (a + 2)) := by
  have h4 : a = 0 ∨ a = 1 ∨ a = 2 ∨ a = 3 := by omega
  rcases h4 with h | h | h | h <;> subst h <;> refine ⟨fun q => ?_, fun q => ?_⟩ <;> first | decide | (exfalso; omega)
def KC (F F' : Nat → Int32) : Prop := ∀ i, i ≠ 27 → i ≠ 28 → i ≠ 29 → i ≠ 30 → i ≠ 31 → i ≠ 32 → i ≠ 36 → F' i = F i
theorem KB.c {F F' : Nat → Int32} (h : KB F F') : KC F F' := fun i a b c d e g _ => h i a b c d e g
theorem KC.trans {F F' F'' : Nat → Int32} (h : KC F F') (h' : KC F' F'') : KC F F'' := fun i a b c d e f g => (h' i a b c d e f g).trans (h i a b c d e f g)
/-! a whole setup -/
noncomputable def s_run (f : Nat → Int) (n : Nat) : Nat → Row → (Nat → Bool) → Tk → (Nat × Nat) ⊕ Row
  | 0, A, _, _ => .inr A
  | k + 1, A, td, t => if t.1 = 0 then .inr A else match s_part f n A td t with
    | .inl e => .inl e
    | .inr z => s_run f n k z.1 z.2.1 z.2.2
theorem TJ_size {A : Row} {k : Nat} {v : Int} (h : TJ A) (h4 : A 4 = 0) (hk : k < 4) (h0 : k = 0 → 2 ≤ v ∧ v ≤ 8 ∧ v ≤ A 1) (h1 : k = 1 → A 0 ≤ v ∧ v ≤ 16) (h2 : k = 2 → 2 ≤ v ∧ v ≤ 8) (h3 : k = 3 → 0 ≤ v ∧ v ≤ 16) : TJ (up A k v) := by
  have hz := TJ_sz h
  obtain ⟨⟨-, k7, k1, k2, k3, k4, k5⟩, hd⟩ := h
  refine ⟨⟨?_, ?_, fun j hj => ?_, fun j hj => ?_, fun j hj => ?_, fun j hj => ?_, fun j hj => ?_⟩, fun j hj => ?_⟩
  · rcases (show k = 0 ∨ k = 1 ∨ k = 2 ∨ k = 3 by omega) with rfl | rfl | rfl | rfl
    · have := h0 rfl; simp [up_eq]; omega
    · have := h1 rfl; simp [up_eq]; omega
    · have := h2 rfl; simp [up_eq]; omega
    · have := h3 rfl; simp [up_eq]; omega
  · rw [up_eq, if_pos rfl]; exact Or.inl rfl
  · have := k1 j hj; simp only [up_eq] at this ⊢; rw [if_neg (by omega)] at this; rw [if_neg (by omega), if_neg (by omega)]; exact this
  · have := k2 j hj; simp only [up_eq] at this ⊢; rw [if_neg (by omega)] at this; rw [if_neg (by omega), if_neg (by omega)]; exact this
  · have := k3 j hj; simp only [up_eq] at this ⊢; rw [if_neg (by omega)] at this; rw [if_neg (by omega), if_neg (by omega)]; exact this
  · have := k4 j hj; simp only [up_eq] at this ⊢; rw [if_neg (by omega)] at this; rw [if_neg (by omega), if_neg (by omega)]; exact this
  · have := k5 j hj; simp only [up_eq] at this ⊢; rw [if_neg (by omega)] at this; rw [if_neg (by omega), if_neg (by omega)]; exact this
  · rw [up_eq, if_neg (by omega)]; exact hd j hj
theorem TJ_fl {A : Row} {i : Nat} {v : Int} (h : TJ A) (hi : i < 16) (hv : 0 ≤ v ∧ v ≤ 3) : TJ (up A (68 + i) v) := by
  have e : up (up A (68 + i) v) 7 1 = up (up A 7 1) (68 + i) v := by
    funext j; simp only [up_eq]
    by_cases h1 : j = 7
    · subst h1; rw [if_pos rfl, if_neg (by omega), if_pos rfl]
    · rw [if_neg h1]; split
      · rfl
      · rfl
  refine ⟨by rw [e]; exact flt_TI h.1 hv hi, fun j hj => by rw [up_eq, if_neg (by omega)]; exact h.2 j hj⟩
theorem sp_inr {f : Nat → Int} {n i : Nat} {A A' : Row} {td td' : Nat → Bool} {t t' : Tk} (h : s_part f n A td t = .inr (A', td', t')) (ht : t = tok f n i) (hi : i ≤ n) (hJ : TJ A) (h4 : A 4 = 0) :
    ∃ i', i' ≤ n ∧ t' = tok f n i' ∧ TJ A' ∧ A' 4 = 0 ∧ t.2.1 < t'.2.1 ∧ (∀ j, 4 ≤ j → (j < 68 ∨ 84 ≤ j) → A' j = A j) := by
  have hz := TJ_sz hJ
  by_cases c1 : s_kind f t = 6
  · rw [sp_1 c1] at h; cases h
  by_cases c2 : s_late td (s_kind f t)
  · rw [sp_2 c1 c2] at h; cases h
  by_cases c3 : (tok f n t.2.2).1 = 2
  rotate_left
  · rw [sp_3 c1 c2 c3] at h; cases h
  by_cases c4 : tval f (tok f n t.2.2) < s_lo A (s_kind f t) ∨ s_hi A (s_kind f t) < tval f (tok f n t.2.2)
  · rw [sp_4 c1 c2 c3 c4] at h; cases h
  by_cases c5 : s_has A (s_kind f t) (tval f (tok f n t.2.2))
  · rw [sp_5 c1 c2 c3 c4 c5] at h; cases h
  cases c6 : isS f (tok f n (tok f n t.2.2).2.2) 59 with
  | false => rw [sp_6 c1 c2 c3 c4 c5 c6] at h; cases h
  | true =>
  rw [sp_7 c1 c2 c3 c4 c5 c6] at h
  cases h
  have b0 := tok_b (f := f) hi
  rw [← ht] at b0
  have b1 := tok_b (f := f) (n := n) (i := t.2.2) b0.2.2.1
  have hv := tval_b (f := f) (n := n) (i := t.2.2) b0.2.2.1 c3
  have hk := sk_le f t
  have hlt := b1.2.2.2.2.2.2.1 (by omega)
  generalize tok f n t.2.2 = t1 at c3 c4 c5 c6 b1 hv hlt ⊢
  have b2 := tok_b (f := f) (n := n) (i := t1.2.2) b1.2.2.1
  generalize tok f n t1.2.2 = t2 at c6 b2 ⊢
  have b3 := tok_b (f := f) (n := n) (i := t2.2.2) b2.2.2.1
  obtain ⟨z1, z2, z3, -⟩ := b1
  obtain ⟨y1, y2, y3, -⟩ := b2
  obtain ⟨x1, -⟩ := b3
  obtain ⟨w1, w2, w3, -⟩ := b0
  generalize tval f t1 = v at c4 c5 hv ⊢
  generalize s_kind f t = k at c1 c2 c4 c5 hk ⊢
  refine ⟨_, y3, rfl, ?_, ?_, by omega, fun j hj hj2 => ?_⟩
  · unfold s_put
    by_cases hk4 : k < 4
    · rw [if_pos hk4]
      unfold s_lo s_hi at c4
      refine TJ_size hJ h4 hk4 (fun q => ?_) (fun q => ?_) (fun q => ?_) (fun q => ?_)
      · rw [q] at c4; simp at c4; split at c4 <;> omega
      · rw [q] at c4; simp at c4; omega
      · rw [q] at c4; simp at c4; omega
      · rw [q] at c4; simp at c4; omega
    · rw [if_neg hk4]
      unfold s_lo s_hi at c4
      rw [if_neg (by omega), if_neg (by omega), if_neg (by omega), if_neg (by omega), if_neg (by omega), if_neg (by omega), if_neg (by omega)] at c4
      have hf := TJ_flt hJ v.toNat (by omega)
      unfold s_has at c5
      refine TJ_fl hJ (by omega) ?_
      split <;> omega
  · unfold s_put
    split
    · rw [up_eq, if_neg (by omega)]; exact h4
    · rw [up_eq, if_neg (by omega)]; exact h4
  · unfold s_put
    split
    · rw [up_eq, if_neg (by omega)]
    · unfold s_lo s_hi at c4
      rw [if_neg (by omega), if_neg (by omega), if_neg (by omega), if_neg (by omega), if_neg (by omega), if_neg (by omega), if_neg (by omega)] at c4
      rw [up_eq, if_neg (by omega)]
/-- a new row -/
def n_rw (A : Row) : Row := fun j => if j < 252 then n_row j else A j
/-! a script's text -/
abbrev Cmd : Type := Nat × Int × Bool
def x_kind (f : Nat → Int) (t : Tk) : Nat := if isW f t (wd 6) = true then 0 else if isW f t (wd 7) = true then 1 else if isW f t (wd 8) = true then 2 else if isW f t (wd 9) = true then 3 else if isW f t (wd 11) = true then 4 else if isW f t (wd 13) = true then 5 else 6
def x_nb (f : Nat → Int) (n : Nat) (lo hi : Int) (t : Tk) : (Nat × Nat) ⊕ (Int × Tk) := if ¬ t.1 = 2 then .inl (1, t.2.1) else if tval f t < lo ∨ hi < tval f t then .inl (2, t.2.1) else .inr (tval f t, tok f n t.2.2)
def x_ng (z : (Nat × Nat) ⊕ (Int × Tk)) : (Nat × Nat) ⊕ (Int × Tk) := match z with
  | .inl e => .inl e
  | .inr (v, t) => .inr (-v, t)
def x_sg (f : Nat → Int) (n : Nat) (lo hi : Int) (t : Tk) : (Nat × Nat) ⊕ (Int × Tk) := if isS f t 45 = true then x_ng (x_nb f n lo hi (tok f n t.2.2)) else x_nb f n lo hi t
def x_pt (f : Nat → Int) (n : Nat) (t : Tk) : Int × Tk := if isW f t (wd 10) = true then (1, tok f n t.2.2) else if isW f t (wd 2) = true then (2, tok f n t.2.2) else if isW f t (wd 0) = true then (3, tok f n t.2.2) else (0, t)
def x_num (f : Nat → Int) (n : Nat) (A : Row) (k : Nat) (t : Tk) : (Nat × Nat) ⊕ (Int × Tk) :=
  if k = 0 then x_nb f n 0 (10 ^ (A 0).toNat - 1) t else if k = 1 then x_sg f n 1 99 t else if k = 2 then x_sg f n 0 16 t else if k = 3 then .inr (x_pt f n t) else if k = 4 then x_nb f n 0 999999 t else .inr (0, t)
def x_sh (f : Nat → Int) (n : Nat) (k : Nat) (t : Tk) : Bool × Tk := if k = 4 ∧ isW f t (wd 12) = true then (true, tok f n t.2.2) else (false, t)
def x_end (f : Nat → Int) (n : Nat) (k : Nat) (v : Int) (z : Bool × Tk) : (Nat × Nat) ⊕ (Cmd × Tk) := if isS f z.2 59 = true then .inr ((k, v, z.1), tok f n z.2.2.2) else .inl (1, z.2.2.1)
def x_cmd (f : Nat → Int) (n : Nat) (A : Row) (sz : Nat) (t : Tk) : (Nat × Nat) ⊕ (Cmd × Tk) :=
  if x_kind f t = 6 then .inl (1, t.2.1) else if sz = 40 then .inl (4, t.2.1) else match x_num f n A (x_kind f t) (tok f n t.2.2) with
    | .inl e => .inl e
    | .inr (v, t1) => x_end f n (x_kind f t) v (x_sh f n (x_kind f t) t1)
def KX (F F' : Nat → Int32) : Prop := ∀ i, i ≠ 27 → i ≠ 28 → i ≠ 29 → i ≠ 30 → i ≠ 31 → i ≠ 32 → i ≠ 40 → F' i = F i
theorem KX.trans {F F' F'' : Nat → Int32} (h : KX F F') (h' : KX F' F'') : KX F F'' := fun i a b c d e f g => (h' i a b c d e f g).trans (h i a b c d e f g)
/-! a script, read and done -/
def TOk (f : Nat → Int) (n : Nat) (t : Tk) : Prop := ∃ i, i ≤ n ∧ t = tok f n i
theorem TOk.b {f : Nat → Int} {n : Nat} {t : Tk} (h : TOk f n t) : t.2.1 ≤ t.2.2 ∧ t.2.2 ≤ n ∧ t.1 ≤ 4 ∧ (t.1 = 0 ↔ t.2.1 = n) ∧ (0 < t.1 → t.2.1 < t.2.2) ∧ (t.1 = 2 → 0 ≤ tval f t ∧ tval f t < 100000000) := by
  obtain ⟨i, hi, rfl⟩ := h
  obtain ⟨-, b2, b3, b4, b5, -, b7, -⟩ := tok_b (f := f) hi
  exact ⟨b2, b3, b4, b5, b7, fun q => tval_b hi q⟩
theorem TOk.nx {f : Nat → Int} {n : Nat} {t : Tk} (h : TOk f n t) : TOk f n (tok f n t.2.2) ∧ t.2.2 ≤ (tok f n t.2.2).2.1 := by
  have hb := h.b
  exact ⟨⟨t.2.2, hb.2.1, rfl⟩, (tok_b (f := f) hb.2.1).1⟩
def CmdOK (N : Int) (c : Cmd) : Prop := (c.1 = 0 ∧ 0 ≤ c.2.1 ∧ c.2.1 ≤ 10 ^ N.toNat - 1) ∨ (c.1 = 1 ∧ -99 ≤ c.2.1 ∧ c.2.1 ≤ 99) ∨ (c.1 = 2 ∧ -16 ≤ c.2.1 ∧ c.2.1 ≤ 16) ∨ (c.1 = 3 ∧ 0 ≤ c.2.1 ∧ c.2.1 ≤ 3) ∨ (c.1 = 4 ∧ 0 ≤ c.2.1 ∧ c.2.1 ≤ 999999) ∨ c.1 = 5
/-! doing a command -/
theorem mul_RI : ∀ (l : List Int) (k : Nat) (A : Row) (t : Nat), RI A → 0 ≤ A 5 → A 5 ≤ 2 → A 5 = 0 → (k : Int) + l.length ≤ A 1 - A 0 + 1 → RI (a_mul l k A t).1 ∧ (∀ j, j < 4 → (a_mul l k A t).1 j = A j) ∧ (0 ≤ (a_mul l k A t).1 5 ∧ (a_mul l k A t).1 5 ≤ 2) ∧ (a_mul l k A t).1 8 = A 8 := by
  intro l
  induction l with
  | nil => intro k A t h h50 h52 _ _; exact ⟨h, fun _ _ => rfl, ⟨h50, h52⟩, rfl⟩
  | cons x l ih =>
    intro k A t h h50 h52 h5 hz
    simp only [List.length_cons] at hz
    have hz' := TJ_sz h.1
    have hw : (if x < 0 then (-1 : Int) else 1) = 1 ∨ (if x < 0 then (-1 : Int) else 1) = -1 := by split; exact Or.inr rfl; exact Or.inl rfl
    have hI4 : RI (up A 4 (k : Int)) := h.pos (by omega) (by omega)
    obtain ⟨m1, m2, m3⟩ := many_RI hw x.natAbs _ hI4
    obtain ⟨m4, m5, m6⟩ := many_5 hw x.natAbs _ hI4 (by rw [up_eq, if_neg (by omega)]; exact h5)
    have m2' : ∀ j, j < 4 → (a_many x.natAbs (up A 4 (k : Int)) (if x < 0 then -1 else 1)).1 j = A j := fun j hj => (m2 j (by omega)).trans (by rw [up_eq, if_neg (by omega)])
    have m3' : (a_many x.natAbs (up A 4 (k : Int)) (if x < 0 then -1 else 1)).1 8 = A 8 := m3.trans (by rw [up_eq, if_neg (by omega)])
    rw [a_mul]
    generalize a_many x.natAbs (up A 4 (k : Int)) (if x < 0 then -1 else 1) = z at m1 m2' m3' m4
    split
    · exact ⟨m1, m2', m4, m3'⟩
    · have e0 := m2' 0 (by omega)
      have e1 := m2' 1 (by omega)
      obtain ⟨g1, g2, g3, g4⟩ := ih (k + 1) z.1 (t + z.2) m1 m4.1 m4.2 (by omega) (by rw [e0, e1]; push_cast; omega)
      exact ⟨g1, fun j hj => (g2 j hj).trans (m2' j hj), g3, g4.trans m3'⟩
def x_pl (c : Cmd) : List Int := a_pl 7 c.2.1 0 (if c.2.2 = true then 1 else 0)
def x_dn (z : Row × Nat) : Row × Bool := (z.1, decide (z.1 5 = 0))
def x_do (A : Row) (c : Cmd) : Row × Bool :=
  if c.1 = 0 then (a_pp (A 0).toNat A 0 c.2.1, true)
  else if c.1 = 1 then x_dn (a_many c.2.1.natAbs (up A 8 0) (if c.2.1 < 0 then -1 else 1))
  else if c.1 = 2 then (up A 4 (if A 4 + c.2.1 < 0 then 0 else if A 1 - A 0 < A 4 + c.2.1 then A 1 - A 0 else A 4 + c.2.1), true)
  else if c.1 = 3 then ((r_clear A c.2.1).1, true)
  else if c.1 = 4 then (if ((x_pl c).length : Int) - 1 ≤ A 1 - A 0 then x_dn (a_mul (x_pl c) 0 (up (up A 4 0) 8 0) 0) else (A, false))
  else if 0 < p_num A then x_dn (a_dv (A 1 - A 0 + 1).toNat (up A 8 1) 0) else (A, false)
def FP (F F' : Nat → Int32) : Prop := (∀ i, i ≠ 4 → i ≠ 5 → i ≠ 7 → F' i = F i) ∧ (0 ≤ F 5 → 0 ≤ F' 5)
theorem FP.refl (F : Nat → Int32) : FP F F := ⟨fun _ _ _ _ => rfl, fun h => h⟩
theorem FG.p {F F' : Nat → Int32} (h : FG F F') : FP F F' := ⟨fun i a b _ => h.1 i a b, h.2⟩
theorem FP.trans {F F' F'' : Nat → Int32} (h : FP F F') (h' : FP F' F'') : FP F F'' := ⟨fun i a b c => (h'.1 i a b c).trans (h.1 i a b c), fun q => h'.2 (h.2 q)⟩
theorem RI.up8 {A : Row} {v : Int} (h : RI A) (hv : v = 0 ∨ v = 1) : RI (up A 8 v) := ⟨h.1.up8, by rw [up_eq, if_pos rfl]; exact hv, by rw [up_eq, if_neg (by omega)]; exact h.2.2⟩
theorem pl_g (f : Nat) (v s : Int) (h : 0 ≤ v) : ∀ i, -1000 < (a_pl f v 0 s).getD i 0 ∧ (a_pl f v 0 s).getD i 0 < 1000 := by
  intro i
  by_cases hi : i < (a_pl f v 0 s).length
  · have hm : (a_pl f v 0 s).getD i 0 ∈ a_pl f v 0 s := by
      rw [List.getD_eq_getElem?_getD, List.getElem?_eq_getElem hi]
      exact List.getElem_mem hi
    have := (pl_r f v 0 s h (Or.inl rfl)).2 _ hm
    omega
  · rw [List.getD_eq_getElem?_getD, List.getElem?_eq_none (by omega)]
    exact ⟨by decide, by decide⟩
theorem pp_TJ : ∀ (n j : Nat) (v : Int) (A : Row), j + n ≤ 8 → 0 ≤ v → TJ A → TJ (a_pp n A j v) ∧ ∀ i, (i < 20 ∨ 28 ≤ i) → a_pp n A j v i = A i := by
  intro n
  induction n with
  | zero => intro j v A _ _ h; exact ⟨h, fun _ _ => rfl⟩
  | succ n ih =>
    intro j v A hj hv h
    obtain ⟨g1, g2⟩ := ih (j + 1) (v / 10) (up A (20 + j) (v % 10)) (by omega) (by omega) (h.pin (by omega) (by omega))
    exact ⟨g1, fun i hi => (g2 i hi).trans (by rw [up_eq, if_neg (by omega)])⟩
theorem z_TJ {A : Row} {lo n : Nat} (hl : 19 < lo ∧ lo + n ≤ 132) (h : TJ A) : TJ (a_z lo n A) := by
  obtain ⟨⟨k0, k7, k1, k2, k3, k4, k5⟩, hd⟩ := h
  have e : up (a_z lo n A) 7 1 = a_z lo n (up A 7 1) := by
    funext i; simp only [up_eq, a_z]
    by_cases h1 : i = 7
    · rw [if_pos h1, if_neg (by omega), if_pos h1]
    · rw [if_neg h1, if_neg h1]
  refine ⟨?_, fun i hi => by unfold a_z; split; omega; exact hd i hi⟩
  rw [e]
  generalize up A 7 1 = B at k0 k7 k1 k2 k3 k4 k5
  refine ⟨?_, ?_, fun i hi => ?_, fun i hi => ?_, fun i hi => ?_, fun i hi => ?_, fun i hi => ?_⟩
  · simp only [a_z]
    rw [if_neg (by omega), if_neg (by omega), if_neg (by omega), if_neg (by omega), if_neg (by omega)]; exact k0
  · unfold a_z; rw [if_neg (by omega)]; exact k7
  all_goals unfold a_z
  all_goals split
  all_goals first | omega | exact k1 i hi | exact k2 i hi | exact k3 i hi | exact k4 i hi | exact k5 i hi
theorem z_RI {A : Row} {lo n : Nat} (hl : 19 < lo ∧ lo + n ≤ 132) (h : RI A) : RI (a_z lo n A) := ⟨z_TJ hl h.1, by rw [z_n _ (by omega)]; exact h.2.1, by rw [z_n _ (by omega)]; exact h.2.2⟩
theorem rc_RI {A : Row} {t : Int} (h : RI A) : RI (r_clear A t).1 ∧ ∀ j, j < 20 → (r_clear A t).1 j = A j := by
  have hz := TJ_sz h.1
  have h1 : RI (r_c1 A t).1 ∧ ∀ j, j < 20 → (r_c1 A t).1 j = A j := by
    unfold r_c1; split
    · refine ⟨z_RI (by omega) (z_RI (by omega) h), fun j hj => ?_⟩
      show a_z 116 (A 1).toNat (a_z 28 (A 1).toNat A) j = A j
      rw [z_n _ (by omega), z_n _ (by omega)]
    · exact ⟨h, fun _ _ => rfl⟩
  have hz1 := TJ_sz h1.1.1
  have h2 : RI (r_c2 (r_c1 A t) t).1 ∧ ∀ j, j < 20 → (r_c2 (r_c1 A t) t).1 j = A j := by
    unfold r_c2; split
    · refine ⟨z_RI (by omega) h1.1, fun j hj => ?_⟩
      show a_z 44 ((r_c1 A t).1 2).toNat (r_c1 A t).1 j = A j
      rw [z_n _ (by omega)]; exact h1.2 j hj
    · exact h1
  have hz2 := TJ_sz h2.1.1
  unfold r_clear r_c3; split
  · refine ⟨z_RI (by omega) h2.1, fun j hj => ?_⟩
    show a_z 20 ((r_c2 (r_c1 A t) t).1 0).toNat (r_c2 (r_c1 A t) t).1 j = A j
    rw [z_n _ (by omega)]; exact h2.2 j hj
  · exact h2
theorem dv_RI : ∀ (m : Nat) (B : Row) (t : Nat), (m : Int) + B 0 ≤ B 1 + 1 → RI B → 0 ≤ B 5 → B 5 ≤ 2 → RI (a_dv m B t).1 ∧ (∀ j, j < 4 → (a_dv m B t).1 j = B j) ∧ (0 ≤ (a_dv m B t).1 5 ∧ (a_dv m B t).1 5 ≤ 2) ∧ (a_dv m B t).1 8 = B 8 := by
  intro m
  induction m with
  | zero => intro B t _ h a b; exact ⟨h, fun _ _ => rfl, ⟨a, b⟩, rfl⟩
  | succ m ih =>
    intro B t hm hB a b
    have hzB := TJ_sz hB.1
    have hB4 : RI (up B 4 (m : Int)) := hB.pos (by omega) (by omega)
    have e5 : up B 4 (m : Int) 5 = B 5 := by rw [up_eq, if_neg (by omega)]
    obtain ⟨g1, g2, g3, g4⟩ := dh_RI 10 (up B 4 (m : Int)) 0 hB4 (by omega) (by omega)
    have g2' : ∀ j, j < 4 → (a_dh 10 (up B 4 (m : Int)) 0).1 j = B j := fun j hj => (g2 j (by omega)).trans (by rw [up_eq, if_neg (by omega)])
    have g4' : (a_dh 10 (up B 4 (m : Int)) 0).1 8 = B 8 := g4.trans (by rw [up_eq, if_neg (by omega)])
    rw [a_dv]
    split
    · exact ⟨g1, g2', g3, g4'⟩
    · obtain ⟨q1, q2, q3, q4⟩ := ih (a_dh 10 (up B 4 (m : Int)) 0).1 (t + (a_dh 10 (up B 4 (m : Int)) 0).2) (by rw [g2' 0 (by omega), g2' 1 (by omega)]; omega) g1 g3.1 g3.2
      exact ⟨q1, fun j hj => (q2 j hj).trans (g2' j hj), q3, q4.trans g4'⟩
theorem xdo_RI {A : Row} {c : Cmd} (h : RI A) (h5 : A 5 = 0) (hok : CmdOK (A 0) c) : RI (x_do A c).1 ∧ (∀ j, j < 4 → (x_do A c).1 j = A j) ∧ ((x_do A c).2 = true → (x_do A c).1 5 = 0) ∧ (0 ≤ (x_do A c).1 5 ∧ (x_do A c).1 5 ≤ 2) := by
  have hz := TJ_sz h.1
  obtain ⟨kd, v, sb⟩ := c
  rcases hok with ⟨rfl, v1, v2⟩ | ⟨rfl, v1, v2⟩ | ⟨rfl, v1, v2⟩ | ⟨rfl, v1, v2⟩ | ⟨rfl, v1, v2⟩ | rfl
  · simp only at v1 v2
    obtain ⟨g1, g2⟩ := pp_TJ (A 0).toNat 0 v A (by omega) v1 h.1
    have e : x_do A (0, v, sb) = (a_pp (A 0).toNat A 0 v, true) := rfl
    rw [e]
    refine ⟨⟨g1, by rw [show (a_pp (A 0).toNat A 0 v, true).1 8 = A 8 from g2 8 (by omega)]; exact h.2.1, by rw [show (a_pp (A 0).toNat A 0 v, true).1 18 = A 18 from g2 18 (by omega)]; exact h.2.2⟩, fun j hj => g2 j (by omega), fun _ => (g2 5 (by omega)).trans h5, ?_⟩
    show 0 ≤ a_pp (A 0).toNat A 0 v 5 ∧ a_pp (A 0).toNat A 0 v 5 ≤ 2
    rw [g2 5 (by omega)]; omega
  · have hw : (if v < 0 then (-1 : Int) else 1) = 1 ∨ (if v < 0 then (-1 : Int) else 1) = -1 := by split; exact Or.inr rfl; exact Or.inl rfl
    have h8 : RI (up A 8 0) := h.up8 (Or.inl rfl)
    obtain ⟨m1, m2, m3⟩ := many_RI hw v.natAbs _ h8
    obtain ⟨m4, m5, m6⟩ := many_5 hw v.natAbs _ h8 (by rw [up_eq, if_neg (by omega)]; exact h5)
    have e : x_do A (1, v, sb) = x_dn (a_many v.natAbs (up A 8 0) (if v < 0 then -1 else 1)) := rfl
    rw [e]
    refine ⟨m1, fun j hj => (m2 j (by omega)).trans (by rw [up_eq, if_neg (by omega)]), fun q => of_decide_eq_true q, m4⟩
  · have e : x_do A (2, v, sb) = (up A 4 (if A 4 + v < 0 then 0 else if A 1 - A 0 < A 4 + v then A 1 - A 0 else A 4 + v), true) := rfl
    rw [e]
    simp only at v1 v2
    have hub : 0 ≤ (if A 4 + v < 0 then 0 else if A 1 - A 0 < A 4 + v then A 1 - A 0 else A 4 + v) ∧ (if A 4 + v < 0 then 0 else if A 1 - A 0 < A 4 + v then A 1 - A 0 else A 4 + v) + A 0 ≤ A 1 := by
      split
      · omega
      · split <;> omega
    generalize (if A 4 + v < 0 then 0 else if A 1 - A 0 < A 4 + v then A 1 - A 0 else A 4 + v) = u at hub
    have e44 : ∀ j, j ≠ 4 → up A 4 u j = A j := fun j hj => by rw [up_eq, if_neg hj]
    have e45 : up A 4 u 5 = A 5 := by rw [up_eq, if_neg (by omega)]
    exact ⟨h.pos hub.1 hub.2, fun j hj => e44 j (by omega), fun _ => e45.trans h5, by show 0 ≤ up A 4 u 5 ∧ up A 4 u 5 ≤ 2; omega⟩
  · have e : x_do A (3, v, sb) = ((r_clear A v).1, true) := rfl
    obtain ⟨g1, g2⟩ := rc_RI (t := v) h
    rw [e]
    refine ⟨g1, fun j hj => g2 j (by omega), fun _ => (g2 5 (by omega)).trans h5, ?_⟩
    show 0 ≤ (r_clear A v).1 5 ∧ (r_clear A v).1 5 ≤ 2
    rw [g2 5 (by omega)]; omega
  · have e : x_do A (4, v, sb) = (if ((x_pl (4, v, sb)).length : Int) - 1 ≤ A 1 - A 0 then x_dn (a_mul (x_pl (4, v, sb)) 0 (up (up A 4 0) 8 0) 0) else (A, false)) := rfl
    rw [e]
    split
    · rename_i hf
      have hz4 : RI (up (up A 4 0) 8 0) := (h.pos (by omega) (by omega)).up8 (Or.inl rfl)
      have g0 : up (up A 4 0) 8 0 0 = A 0 := by rw [up_eq, if_neg (by omega), up_eq, if_neg (by omega)]
      have g1 : up (up A 4 0) 8 0 1 = A 1 := by rw [up_eq, if_neg (by omega), up_eq, if_neg (by omega)]
      have g5 : up (up A 4 0) 8 0 5 = 0 := by rw [up_eq, if_neg (by omega), up_eq, if_neg (by omega)]; exact h5
      obtain ⟨m1, m2, m3, m4⟩ := mul_RI (x_pl (4, v, sb)) 0 (up (up A 4 0) 8 0) 0 hz4 (by omega) (by omega) g5 (by rw [g0, g1]; push_cast; omega)
      exact ⟨m1, fun j hj => (m2 j hj).trans (by rw [up_eq, if_neg (by omega), up_eq, if_neg (by omega)]), fun q => of_decide_eq_true q, m3⟩
    · exact ⟨h, fun _ _ => rfl, fun q => absurd q (by simp), by show 0 ≤ A 5 ∧ A 5 ≤ 2; omega⟩
  · have e : x_do A (5, v, sb) = (if 0 < p_num A then x_dn (a_dv (A 1 - A 0 + 1).toNat (up A 8 1) 0) else (A, false)) := rfl
    rw [e]
    split
    · have h8 : RI (up A 8 1) := h.up8 (Or.inr rfl)
      obtain ⟨m1, m2, m3, m4⟩ := dv_RI (A 1 - A 0 + 1).toNat (up A 8 1) 0 (by rw [up_eq, if_neg (by omega), up_eq, if_neg (by omega)]; omega) h8 (by rw [up_eq, if_neg (by omega)]; omega) (by rw [up_eq, if_neg (by omega)]; omega)
      exact ⟨m1, fun j hj => (m2 j hj).trans (by rw [up_eq, if_neg (by omega)]), fun q => of_decide_eq_true q, m3⟩
    · exact ⟨h, fun _ _ => rfl, fun q => absurd q (by simp), by show 0 ≤ A 5 ∧ A 5 ≤ 2; omega⟩
def x_go : List Cmd → Nat → Row → Row × Nat
  | [], d, A => (A, d)
  | c :: l, d, A => if (x_do A c).2 = true then x_go l (d + 1) (x_do A c).1 else ((x_do A c).1, d)
/-! the reference between calls -/
abbrev Zx : Type := (Nat → Int) × Nat × Int × Int
abbrev Yx : Type := (Nat → Row) × Nat
abbrev Xx : Type := (Nat → Bool) × (Nat → Row)
abbrev Ux : Type := (Nat → Int) × Nat
def FrB (b n : Nat) (w w' : mW) : Prop := w_sh w' = w_sh w ∧ w_R w' = w_R w ∧ w_n w' = w_n w ∧ ∀ a, a < b ∨ b + n ≤ a → w_I w' a = w_I w a ∧ w_J w' a = w_J w a
theorem FrB.trans {b n : Nat} {w w' w'' : mW} (h : FrB b n w w') (h' : FrB b n w' w'') : FrB b n w w'' :=
  ⟨h'.1.trans h.1, h'.2.1.trans h.2.1, h'.2.2.1.trans h.2.2.1, fun a ha => ⟨(h'.2.2.2 a ha).1.trans (h.2.2.2 a ha).1, (h'.2.2.2 a ha).2.trans (h.2.2.2 a ha).2⟩⟩
theorem FrB.refl (b n : Nat) (w : mW) : FrB b n w w := ⟨rfl, rfl, rfl, fun _ _ => ⟨rfl, rfl⟩⟩
theorem Fr.toB {l : List Nat} {b n : Nat} {w w' : mW} (h : Fr l w w') (hl : ∀ a ∈ l, b ≤ a ∧ a < b + n) : FrB b n w w' :=
  ⟨h.1, h.2.1, h.2.2.1, fun a ha => h.2.2.2 a (fun q => by have := hl a q; omega)⟩
theorem FrM.toB {b c n : Nat} {w w' : mW} (h : FrM c w w') (hl : b ≤ c ∧ c + 12 ≤ b + n) : FrB b n w w' :=
  ⟨h.1, h.2.1, h.2.2.1, fun a ha => h.2.2.2 a (by omega)⟩
def ROx (w : mW) (r : Nat) (Z : Zx) (Y : Yx) (X : Xx) (U : Ux) : Prop := RBf w r Z.1 Z.2.1 ∧ (ST w r Y.1 Y.2 ∧ Y.2 ≤ 12) ∧ (∀ i, i < 2 → w_I w (r + 6) i = Int32.ofInt (if X.1 i = true then 1 else 0)) ∧ (∀ i, i < 2 → X.1 i = true → ∀ j, j < 252 → w_I w (r + 5) (252 * (12 + i) + j) = Int32.ofInt (X.2 i j)) ∧ U.2 ≤ 40 ∧ ∀ i, i < U.2 → w_I w (r + 25) i = Int32.ofInt (U.1 i)
def LV0 (A : Row) : Prop := ∀ j, j < 16 → A (52 + j) = 0
/-- zeros beyond the sizes -/
def ZB (A : Row) : Prop := (∀ j : Nat, j < 8 → A 0 ≤ j → A (20 + j) = 0) ∧ (∀ j : Nat, j < 16 → A 1 ≤ j → A (28 + j) = 0 ∧ A (52 + j) = 0 ∧ A (84 + j) = 0 ∧ A (116 + j) = 0) ∧ (∀ j : Nat, j < 8 → A 2 ≤ j → A (44 + j) = 0)
/-- in a jammed turn -/
def JM (A : Row) : Prop := (A 5 = 1 → (∀ j : Nat, j < 16 → (j : Int) < A 4 → A (52 + j) = 0) ∧ ∀ j : Nat, j < 16 → 0 ≤ A (84 + j) ∧ A (84 + j) ≤ 9 ∧ (A 4 + A 6 ≤ j → A (84 + j) = 0)) ∧ (A 5 = 2 → (∀ j : Nat, j < 16 → (j : Int) < A 6 → A (52 + j) = 0) ∧ ∀ j : Nat, j < 16 → 0 ≤ A (84 + j) ∧ A (84 + j) ≤ 10 ∧ (A 6 < j → A (84 + j) ≤ 9))
/-- a good row, between calls -/
def GR (A : Row) : Prop := RI A ∧ ZB A ∧ (A 9 = 0 ∨ A 9 = 1) ∧ ((A 5 = 0 ∧ LV0 A) ∨ (JI A ∧ A 9 = 0 ∧ JM A))
theorem GR.j5 {A : Row} (h : GR A) : 0 ≤ A 5 ∧ A 5 ≤ 2 := by
  obtain ⟨-, -, -, ⟨h, -⟩ | ⟨⟨h | h, -⟩, -⟩⟩ := h <;> omega
def o_state (A : Row) (v : Int) : Int := if v = 5 then f_tot A (A 1).toNat else if v = 6 then (if 0 < A 5 then 1 else 0) else A v.toNat

theorem r_b {A : Row} (hJ : TJ A) : 0 ≤ r_num A ∧ r_num A < 10000000000000000 := by
  have hz := TJ_sz hJ
  have h := hn_b (fun i => A (28 + i)) (A 1).toNat 0 (fun i hi => TJ_dig hJ i (by omega)) (by omega)
  have hp := p16 (A 1).toNat (by omega)
  unfold r_num; omega
theorem d_b {A : Row} (hJ : TJ A) : 0 ≤ du A ∧ du A < 10000000000000000 := by
  have hz := TJ_sz hJ
  have h := du_b (A := A) (by omega) hJ.2
  have hp := p16 (A 1).toNat (by omega)
  omega
theorem zl_eq {a b : Int} (h1 : -9223372036854775808 ≤ a) (h2 : a ≤ 9223372036854775807) (h3 : -9223372036854775808 ≤ b) (h4 : b ≤ 9223372036854775807) : (Int64.ofInt a = Int64.ofInt b) = (a = b) := propext (lo_eq ⟨h1, h2⟩ ⟨h3, h4⟩)
theorem lg_eP (x y : Int64) : (lg_cmp x y = 0) = (x = y) := propext (lg_e x y)

def fw (A : Row) : Nat → Nat → Int
  | 0, _ => -1
  | n + 1, j => if A (28 + j) = A (116 + j) then fw A n (j + 1) else j
def wc (A : Row) : Nat → Int
  | 0 => 0
  | n + 1 => wc A n + (if A (28 + n) = A (116 + n) then 0 else 1)
def sg (A : Row) : Nat → Int
  | 0 => 0
  | n + 1 => sg A n + A (28 + n)
theorem sg_b {A : Row} (hJ : TJ A) : ∀ n : Nat, n ≤ 16 → 0 ≤ sg A n ∧ sg A n ≤ 9 * n := by
  intro n
  induction n with
  | zero => intro _; exact ⟨Int.le_refl _, Int.le_refl _⟩
  | succ n ih =>
    intro h
    have g := ih (by omega)
    have hd := TJ_dig hJ n (by omega)
    rw [sg]; push_cast; omega
def o_jam (A : Row) (v : Int) : Int := if v = 0 then a_jw A else if v = 1 then A 5 - 1 else A 7
theorem ROx.fr {l : List Nat} {r : Nat} {w w' : mW} {Z : Zx} {Y : Yx} {X : Xx} {U : Ux} (h : ROx w r Z Y X U) (g : Fr l w w') (h2 : r + 2 ∉ l) (h5 : r + 5 ∉ l) (h6 : r + 6 ∉ l) (h25 : r + 25 ∉ l) : ROx w' r Z Y X U := by
  obtain ⟨⟨a0, a1⟩, ⟨a2, a3⟩, a4, a5, a6, a7⟩ := h
  have e2 := (g.2.2.2 _ h2).1
  have e5 := (g.2.2.2 _ h5).1
  have e6 := (g.2.2.2 _ h6).1
  have e25 := (g.2.2.2 _ h25).1
  refine ⟨⟨a0, fun i hi => by rw [e2]; exact a1 i hi⟩, ⟨fun i j hi hj => by rw [e5]; exact a2 i j hi hj, a3⟩, fun i hi => by rw [e6]; exact a4 i hi, fun i hi hx j hj => by rw [e5]; exact a5 i hi hx j hj, a6, fun i hi => by rw [e25]; exact a7 i hi⟩
/-- the way of a prediction -/
def wayOf (v : Int) : Int := if v = 0 then -1 else 1
theorem way_or (v : Int) : wayOf v = 1 ∨ wayOf v = -1 := by unfold wayOf; split; exact Or.inr rfl; exact Or.inl rfl
def tb (way : Int) : Nat → Nat → Row → Int
  | 0, _, _ => -1
  | n + 1, k, A => match (a_one A way).2.1 with
    | some _ => -1
    | none => if 0 < a_fin (a_one A way) 9 then (k : Int) else tb way n (k + 1) (a_fin (a_one A way))
/-! changes -/
def hp (Y : Yx) (A : Row) : Yx := (hpush Y.1 Y.2 A, hlen Y.2)
theorem tr_TJ : ∀ (n j : Nat) (A : Row), j + n ≤ 8 → TJ A → (∀ i, i < 8 → (A 4).toNat + i < 16 ∨ 8 ≤ i ∨ A 0 ≤ i) → (j : Int) + n ≤ A 0 → TJ (a_tr n A j) ∧ ∀ i, (i < 20 ∨ 28 ≤ i) → a_tr n A j i = A i := by
  intro n
  induction n with
  | zero => intro j A _ h _ _; exact ⟨h, fun _ _ => rfl⟩
  | succ n ih =>
    intro j A hj h hz hn
    have hzz := TJ_sz h
    have hd := TJ_dig h ((A 4).toNat + j) (by omega)
    have e4 : up A (20 + j) (A (28 + ((A 4).toNat + j))) 4 = A 4 := by rw [up_eq, if_neg (by omega)]
    have e0 : up A (20 + j) (A (28 + ((A 4).toNat + j))) 0 = A 0 := by rw [up_eq, if_neg (by omega)]
    obtain ⟨g1, g2⟩ := ih (j + 1) (up A (20 + j) (A (28 + ((A 4).toNat + j)))) (by omega) (h.pin hd (by omega)) (by rw [e4, e0]; exact hz) (by rw [e0]; omega)
    exact ⟨g1, fun i hi => (g2 i hi).trans (by rw [up_eq, if_neg (by omega)])⟩
/-! taking back, freeing, saving -/
def bkk (A : Row) (k : Nat) : Row := fun i => if 28 ≤ i ∧ i < 28 + k then (A i - A 7 * A (i + 56) + 20) % 10 else if 100 ≤ i ∧ i < 100 + k then A i + A (i - 16) else if 84 ≤ i ∧ i < 84 + k then 0 else if 52 ≤ i ∧ i < 52 + k then 0 else A i
def bk2 (B : Row) : Row := up (up (up (up (up (up B 14 (B 14 - B 9)) 9 0) 15 (B 15 - B 10)) 10 0) 16 (B 16 - B 11)) 11 0
def r_bk (A : Row) : Row := up (bk2 (bkk A (A 1).toNat)) 5 0
theorem mb {A : Row} (hG : GR A) (h : 0 < A 5) : ∀ i : Nat, i < 16 → 0 ≤ A (84 + i) ∧ A (84 + i) ≤ 10 := by
  intro i hi
  obtain ⟨-, -, -, h0 | ⟨hJ, -, hm⟩⟩ := hG
  · omega
  · obtain ⟨h1 | h1, -⟩ := hJ
    · have := (hm.1 h1.1).2 i hi; omega
    · have := (hm.2 h1.1).2 i hi; omega
/-! bytes -/
def by8 (x : Int32) (k : Int) : Int := (x >>> (Int32.ofInt k &&& 31)).toInt % 256
/-- four bytes come -/
def ap4 (f : Nat → Int) (n : Nat) (x : Int32) : Nat → Int := fun i => if i = n then by8 x 24 else if i = n + 1 then by8 x 16 else if i = n + 2 then by8 x 8 else if i = n + 3 then by8 x 0 else f i
/-- twenty -/
def ap20 (f : Nat → Int) (n : Nat) (a b c d e : Int32) : Nat → Int := ap4 (ap4 (ap4 (ap4 (ap4 f n a) (n + 4) b) (n + 8) c) (n + 12) d) (n + 16) e
/-! the text -/
def dg (A : Row) (fr : Nat) (mark : Int) : Nat → List Int
  | 0 => []
  | k + 1 => (if (k : Int) = mark then [94] else []) ++ (48 + A (fr + k)) :: dg A fr mark k
theorem dg_len (A : Row) (fr : Nat) (mark : Int) : ∀ k : Nat, (dg A fr mark k).length = k + (if 0 ≤ mark ∧ mark < k then 1 else 0) := by
  intro k
  induction k with
  | zero => rw [if_neg (by omega)]; rfl
  | succ k ih =>
    rw [dg, List.length_append, List.length_cons, ih]
    by_cases h : (k : Int) = mark
    · rw [if_pos h, if_neg (by omega), if_pos (by omega)]; simp; omega
    · rw [if_neg h]
      by_cases h2 : 0 ≤ mark ∧ mark < k
      · rw [if_pos h2, if_pos (by omega)]; simp
      · rw [if_neg h2, if_neg (by omega)]; simp
def shw (A : Row) : List Int := dg A 28 (A 4 + A 0 - 1) (A 1).toNat ++ 32 :: (dg A 44 (-1) (A 2).toNat ++ 32 :: (dg A 20 (-1) (A 0).toNat ++ (if 0 < A 5 then [33] else [])))
theorem shw_len {A : Row} (hJ : TJ A) : (shw A).length ≤ 36 := by
  have hz := TJ_sz hJ
  unfold shw
  simp only [List.length_append, List.length_cons, dg_len]
  split <;> split <;> split <;> split <;> simp <;> omega
theorem getD_ap (l : List Int) (c : Int) (i : Nat) : (l ++ [c]).getD i 0 = if i < l.length then l.getD i 0 else if i = l.length then c else 0 := by
  by_cases h : i < l.length
  · rw [if_pos h]; simp [List.getD_eq_getElem?_getD, List.getElem?_append_left h]
  · rw [if_neg h]
    by_cases h2 : i = l.length
    · rw [if_pos h2, h2]; simp
    · rw [if_neg h2, List.getD_eq_getElem?_getD, List.getElem?_eq_none (by simp; omega)]; rfl
/-! no NaN -/
theorem fk32 : FP.Core.b32.tails = 8388608 ∧ FP.Core.b32.exps = 256 ∧ FP.Core.b32.qmin = -149 ∧ FP.Core.b32.qmax = 104 ∧ FP.Core.b32.p = 24 := by decide
/-- what rounding leaves, encoded -/
theorem st32 (s : Bool) (c : Nat) (q : Int) (hq : -149 ≤ q) : FP.Core.encode FP.Core.b32 (FP.Core.settle FP.Core.b32 s c q) % 2147483648 ≤ 2139095040 ∧ FP.Core.encode FP.Core.b32 (FP.Core.settle FP.Core.b32 s c q) < 4294967296 := by
  obtain ⟨k1, k2, k3, k4, k5⟩ := fk32
  have hs : s.toNat ≤ 1 := by cases s <;> decide
  unfold FP.Core.settle FP.Core.bound
  rw [k5]
  by_cases h1 : c < 2 ^ 24
  · rw [if_pos h1]
    by_cases h2 : q ≤ FP.Core.b32.qmax
    · rw [if_pos h2]
      unfold FP.Core.encode FP.Core.assemble
      simp only [k1, k2, k3]
      rw [k4] at h2
      split <;> omega
    · rw [if_neg h2]
      unfold FP.Core.encode FP.Core.assemble
      simp only [k1, k2]
      omega
  · rw [if_neg h1]
    by_cases h2 : q + 1 ≤ FP.Core.b32.qmax
    · rw [if_pos h2]
      unfold FP.Core.encode FP.Core.assemble
      simp only [k1, k2, k3]
      rw [k4] at h2
      split <;> omega
    · rw [if_neg h2]
      unfold FP.Core.encode FP.Core.assemble
      simp only [k1, k2]
      omega
theorem rr32 (s : Bool) (A B : Nat) (e : Int) : FP.Core.encode FP.Core.b32 (FP.Core.roundRatio FP.Core.b32 s A B e) % 2147483648 ≤ 2139095040 ∧ FP.Core.encode FP.Core.b32 (FP.Core.roundRatio FP.Core.b32 s A B e) < 4294967296 := by
  obtain ⟨k1, k2, k3, k4, k5⟩ := fk32
  have hs : s.toNat ≤ 1 := by cases s <;> decide
  unfold FP.Core.roundRatio
  by_cases h : A = 0
  · rw [if_pos h]
    unfold FP.Core.encode FP.Core.assemble
    simp only [k1, k2, k3]
    split <;> omega
  · rw [if_neg h]
    unfold FP.Core.roundAt
    refine st32 _ _ _ ?_
    unfold FP.Core.quantum
    rw [k3]; omega
theorem n32 {n : Nat} (h : n % 2147483648 ≤ 2139095040) (h2 : n < 4294967296) : vf_n32 (UInt32.ofNat n) := by
  unfold vf_n32
  rw [UInt32.le_iff_toNat_le, UInt32.toNat_and]
  have e : (UInt32.ofNat n).toNat = n := UInt32.toNat_ofNat_of_lt' (by simpa using h2)
  rw [e]
  have e2 : n &&& (0x7fffffff : UInt32).toNat = n % 2147483648 := Nat.and_two_pow_sub_one_eq_mod n 31
  rw [e2]
  exact h
/-- a whole number of 32 bits, rounded -/
theorem ri32 (s : Bool) (A : Nat) (hA : A ≤ 2147483648) : ∃ c q, FP.Core.roundRatio FP.Core.b32 s A 1 0 = .fin s c q ∧ c < 16777216 ∧ -149 ≤ q ∧ q ≤ 104 ∧ (0 < A → 0 < c) := by
  obtain ⟨k1, k2, k3, k4, k5⟩ := fk32
  unfold FP.Core.roundRatio
  by_cases h : A = 0
  · rw [if_pos h]; exact ⟨0, _, rfl, by omega, by omega, by omega, fun q => by omega⟩
  · rw [if_neg h]
    have l1 := Nat.log2_self_le h
    have l2 := Nat.lt_log2_self (n := A)
    have hL : A.log2 ≤ 31 := by
      have := (Nat.log2_lt h (k := 32)).mpr (by omega)
      omega
    have hlead : FP.Core.leading A 1 = (A.log2 : Int) := by
      unfold FP.Core.leading
      have e1 : Nat.log2 1 = 0 := by decide
      rw [e1]
      have e2 : ((A.log2 : Int) - ((0 : Nat) : Int)).toNat = A.log2 := by omega
      have e3 : (-((A.log2 : Int) - ((0 : Nat) : Int))).toNat = 0 := by omega
      simp only [e2, e3]
      rw [if_pos (by omega)]
      omega
    have hqu : FP.Core.quantum FP.Core.b32 A 1 0 = (A.log2 : Int) - 23 := by
      unfold FP.Core.quantum
      rw [hlead, k3, k5]; omega
    unfold FP.Core.roundAt
    rw [hqu]
    -- the significand
    have hc : 8388608 ≤ FP.Core.nearest (FP.Core.unitsNum A 0 ((A.log2 : Int) - 23)) (FP.Core.unitsDen 1 0 ((A.log2 : Int) - 23)) ∧ FP.Core.nearest (FP.Core.unitsNum A 0 ((A.log2 : Int) - 23)) (FP.Core.unitsDen 1 0 ((A.log2 : Int) - 23)) ≤ 16777216 := by
      unfold FP.Core.unitsNum FP.Core.unitsDen FP.Core.nearest
      generalize A.log2 = L at l1 l2 hL
      have hcs : L = 0 ∨ L = 1 ∨ L = 2 ∨ L = 3 ∨ L = 4 ∨ L = 5 ∨ L = 6 ∨ L = 7 ∨ L = 8 ∨ L = 9 ∨ L = 10 ∨ L = 11 ∨ L = 12 ∨ L = 13 ∨ L = 14 ∨ L = 15 ∨ L = 16 ∨ L = 17 ∨ L = 18 ∨ L = 19 ∨ L = 20 ∨ L = 21 ∨ L = 22 ∨ L = 23 ∨ L = 24 ∨ L = 25 ∨ L = 26 ∨ L = 27 ∨ L = 28 ∨ L = 29 ∨ L = 30 ∨ L = 31 := by omega
      rcases hcs with rfl | rfl | rfl | rfl | rfl | rfl | rfl | rfl | rfl | rfl | rfl | rfl | rfl | rfl | rfl | rfl | rfl | rfl | rfl | rfl | rfl | rfl | rfl | rfl | rfl | rfl | rfl | rfl | rfl | rfl | rfl | rfl
      all_goals simp at l1 l2 ⊢
      all_goals (split <;> (try split) <;> omega)
    generalize FP.Core.nearest (FP.Core.unitsNum A 0 ((A.log2 : Int) - 23)) (FP.Core.unitsDen 1 0 ((A.log2 : Int) - 23)) = c at hc
    unfold FP.Core.settle FP.Core.bound
    rw [k5, k4, k1]
    by_cases h1 : c < 2 ^ 24
    · rw [if_pos h1, if_pos (by omega)]
      exact ⟨c, _, rfl, by omega, by omega, by omega, fun _ => by omega⟩
    · rw [if_neg h1, if_pos (by omega)]
      exact ⟨8388608, _, rfl, by omega, by omega, by omega, fun _ => by omega⟩
theorem de32 (s : Bool) (c : Nat) (q : Int) (hc : c < 16777216) (h1 : -149 ≤ q) (h2 : q ≤ 104) : ∃ s' c' q', FP.Core.decode FP.Core.b32 (FP.Core.encode FP.Core.b32 (.fin s c q)) = .fin s' c' q' ∧ (0 < c → 0 < c') := by
  obtain ⟨k1, k2, k3, k4, k5⟩ := fk32
  have hs : s.toNat ≤ 1 := by cases s <;> decide
  unfold FP.Core.decode FP.Core.encode FP.Core.assemble FP.Core.fieldE FP.Core.fieldT
  simp only [k1, k2, k3]
  by_cases h : c < 8388608
  · rw [if_pos h, if_neg (by omega), if_pos (by omega)]
    exact ⟨_, _, _, rfl, fun _ => by omega⟩
  · rw [if_neg h, if_neg (by omega), if_neg (by omega)]
    exact ⟨_, _, _, rfl, fun _ => by omega⟩
theorem i2f_v (a : Int) (ha : -2147483648 ≤ a ∧ a ≤ 2147483647) : ∃ s c q, FP.Core.decode FP.Core.b32 (FP.i2f (Int32.ofInt a)).toNat = .fin s c q ∧ (¬ a = 0 → 0 < c) := by
  have e : (Int32.ofInt a).toInt = a := oi_to ⟨ha.1, ha.2⟩
  obtain ⟨c, q, h1, h2, h3, h4, h5⟩ := ri32 (decide (a < 0)) a.natAbs (by omega)
  have hv : FP.i2f (Int32.ofInt a) = UInt32.ofNat (FP.Core.encode FP.Core.b32 (.fin (decide (a < 0)) c q)) := by
    show UInt32.ofNat (FP.Core.fromInt FP.Core.b32 (Int32.ofInt a).toInt) = _
    rw [e]
    unfold FP.Core.fromInt FP.Core.ofInt FP.Core.round
    simp only
    rw [h1]
  have hlt : FP.Core.encode FP.Core.b32 (.fin (decide (a < 0)) c q) < 4294967296 := by
    rw [← h1]; exact (rr32 _ _ _ _).2
  rw [hv, UInt32.toNat_ofNat_of_lt' (by simpa using hlt)]
  obtain ⟨s', c', q', g1, g2⟩ := de32 (decide (a < 0)) c q h2 h3 h4
  exact ⟨s', c', q', g1, fun hne => g2 (h5 (by omega))⟩
theorem fdiv_ok {a b : Int} (ha : -2147483648 ≤ a ∧ a ≤ 2147483647) (hb : -2147483648 ≤ b ∧ b ≤ 2147483647) (h : ¬ b = 0) : vf_n32 (FP.fdiv (FP.i2f (Int32.ofInt a)) (FP.i2f (Int32.ofInt b))) := by
  obtain ⟨s, c, q, h1, -⟩ := i2f_v a ha
  obtain ⟨t, d, r, h2, h3⟩ := i2f_v b hb
  have hd := h3 h
  show vf_n32 (UInt32.ofNat (FP.Core.div FP.Core.b32 _ _))
  unfold FP.Core.div
  rw [h1, h2]
  unfold FP.Core.quotient
  simp only
  rw [if_neg (by omega)]
  have := rr32 (s != t) c d (q - r)
  exact n32 this.1 this.2
/-! soundness -/
def snd (A : Row) : UInt32 := if Int32.ofInt (A 15 + A 16) = 0 then FP.fconst1 else FP.fdiv (FP.i2f (Int32.ofInt (A 15))) (FP.i2f (Int32.ofInt (A 15 + A 16)))
theorem snd_ok (A : Row) (h : ¬ Int32.ofInt (A 15 + A 16) = 0) : vf_n32 (FP.fdiv (FP.i2f (Int32.ofInt (A 15))) (FP.i2f (Int32.ofInt (A 15 + A 16)))) := by
  generalize Int32.ofInt (A 15) = a
  generalize Int32.ofInt (A 15 + A 16) = b at h ⊢
  have ra : -2147483648 ≤ a.toInt ∧ a.toInt ≤ 2147483647 := ⟨a.le_toInt, by have := a.toInt_lt; omega⟩
  have rb : -2147483648 ≤ b.toInt ∧ b.toInt ≤ 2147483647 := ⟨b.le_toInt, by have := b.toInt_lt; omega⟩
  have := fdiv_ok ra rb (fun q => h (by rw [← Int32.ofInt_toInt b, q]; rfl))
  rwa [Int32.ofInt_toInt, Int32.ofInt_toInt] at this
