theorem oi_add (a b : Int) : Int32.ofInt a + Int32.ofInt b = Int32.ofInt (a + b) := (Int32.ofInt_add a b).symm
theorem oi_sub (a b : Int) : Int32.ofInt a - Int32.ofInt b = Int32.ofInt (a - b) := (Int32.ofInt_sub a b).symm
theorem oi_mul (a b : Int) : Int32.ofInt a * Int32.ofInt b = Int32.ofInt (a * b) := (Int32.ofInt_mul a b).symm
theorem oi_neg (a : Int) : -Int32.ofInt a = Int32.ofInt (-a) := (Int32.ofInt_neg a).symm
theorem oi_nat (n : Nat) : Int32.ofNat n = Int32.ofInt n := (Int32.ofInt_eq_ofNat).symm
theorem oi_0 : (0 : Int32) = Int32.ofInt 0 := rfl
theorem oi_1 : (1 : Int32) = Int32.ofInt 1 := rfl
def inR (a : Int) : Prop := -2147483648 ≤ a ∧ a ≤ 2147483647
theorem oi_to {a : Int} (h : inR a) : (Int32.ofInt a).toInt = a := by
  obtain ⟨h1, h2⟩ := h
  exact Int32.toInt_ofInt_of_le h1 (by omega)
theorem oi_lt {a b : Int} (ha : inR a) (hb : inR b) : Int32.ofInt a < Int32.ofInt b ↔ a < b := by
  rw [Int32.lt_iff_toInt_lt, oi_to ha, oi_to hb]
theorem oi_le {a b : Int} (ha : inR a) (hb : inR b) : Int32.ofInt a ≤ Int32.ofInt b ↔ a ≤ b := by
  rw [Int32.le_iff_toInt_le, oi_to ha, oi_to hb]
theorem oi_eq {a b : Int} (ha : inR a) (hb : inR b) : Int32.ofInt a = Int32.ofInt b ↔ a = b := by
  rw [← Int32.toInt_inj, oi_to ha, oi_to hb]
theorem inR0 : inR 0 := ⟨by omega, by omega⟩
theorem oi_l0 {a : Int} (ha : inR a) : Int32.ofInt a < 0 ↔ a < 0 := oi_lt ha inR0
theorem oi_g0 {a : Int} (ha : inR a) : 0 < Int32.ofInt a ↔ 0 < a := oi_lt inR0 ha
theorem oi_le0 {a : Int} (ha : inR a) : Int32.ofInt a ≤ 0 ↔ a ≤ 0 := oi_le ha inR0
theorem oi_ge0 {a : Int} (ha : inR a) : 0 ≤ Int32.ofInt a ↔ 0 ≤ a := oi_le inR0 ha
theorem oi_e0 {a : Int} (ha : inR a) : Int32.ofInt a = 0 ↔ a = 0 := oi_eq ha inR0
theorem oi_nc {a : Int} (h : inR a) : (Int32.ofInt a).toNatClampNeg = a.toNat := by
  rw [Int32.toNatClampNeg, oi_to h]
theorem vp_oi {a : Int} {n : Nat} (h : inR a) : vp_in (Int32.ofInt a) n ↔ (0 ≤ a ∧ a < n) := by
  rw [vp_in, oi_l0 h, oi_nc h]; omega
theorem oi_div {a b : Int} (ha : inR a) (hb : inR b) (h0 : 0 ≤ a) (h1 : 0 < b) : Int32.ofInt a / Int32.ofInt b = Int32.ofInt (a / b) := by
  rw [← Int32.toInt_inj, Int32.toInt_div_of_ne_left, oi_to ha, oi_to hb, oi_to]
  · exact Int.tdiv_eq_ediv_of_nonneg h0
  · have := Int.ediv_le_self b h0
    have h2 := Int.ediv_nonneg h0 (Int.le_of_lt h1)
    obtain ⟨ha1, ha2⟩ := ha
    exact ⟨by omega, by omega⟩
  · intro h
    rw [← Int32.toInt_inj, oi_to ha] at h
    have : Int32.minValue.toInt = -2147483648 := by decide
    omega
theorem oi_rem {a b : Int} (ha : inR a) (hb : inR b) (h0 : 0 ≤ a) (h1 : 0 < b) : Int32.ofInt a - Int32.ofInt a / Int32.ofInt b * Int32.ofInt b = Int32.ofInt (a % b) := by
  rw [oi_div ha hb h0 h1, oi_mul, oi_sub, Int.emod_def, Int.mul_comm b]
-- worlds
theorem sh_I (w : mW) (a i : Nat) (x : Int32) : w_sh (s_I w a i x) = w_sh w := rfl
theorem sh_J (w : mW) (a i : Nat) (x : Int64) : w_sh (s_J w a i x) = w_sh w := rfl
theorem R_I (w : mW) (a i : Nat) (x : Int32) : w_R (s_I w a i x) = w_R w := rfl
theorem R_J (w : mW) (a i : Nat) (x : Int64) : w_R (s_J w a i x) = w_R w := rfl
theorem N_I (w : mW) (a i : Nat) (x : Int32) : w_n (s_I w a i x) = w_n w := rfl
theorem N_J (w : mW) (a i : Nat) (x : Int64) : w_n (s_J w a i x) = w_n w := rfl
theorem J_I (w : mW) (a i : Nat) (x : Int32) : w_J (s_I w a i x) = w_J w := rfl
theorem I_J (w : mW) (a i : Nat) (x : Int64) : w_I (s_J w a i x) = w_I w := rfl
theorem I_I (w : mW) (a i b j : Nat) (x : Int32) : w_I (s_I w a i x) b j = if b = a ∧ j = i then x else w_I w b j := by
  simp only [w_I, s_I, s_A, upd]
  by_cases h : b = a
  · subst h; by_cases h2 : j = i <;> simp [h2, upd]
  · simp [h]
theorem J_J (w : mW) (a i b j : Nat) (x : Int64) : w_J (s_J w a i x) b j = if b = a ∧ j = i then x else w_J w b j := by
  simp only [w_J, s_J, vp_updL]
  by_cases h : b = a
  · subst h; by_cases h2 : j = i <;> simp [h2, vp_updL]
  · simp [h]
theorem A_sh (w : mW) (a : Nat) (f : Nat → Int32) : w_sh (s_A w a f) = w_sh w := rfl
theorem A_R (w : mW) (a : Nat) (f : Nat → Int32) : w_R (s_A w a f) = w_R w := rfl
theorem A_N (w : mW) (a : Nat) (f : Nat → Int32) : w_n (s_A w a f) = w_n w := rfl
theorem A_J (w : mW) (a : Nat) (f : Nat → Int32) : w_J (s_A w a f) = w_J w := rfl
theorem A_I (w : mW) (a b : Nat) (f : Nat → Int32) : w_I (s_A w a f) b = if b = a then f else w_I w b := by
  simp only [w_I, s_A]
theorem wlE : (∀ (w : mW) (a i : Nat) (x : Int32), w_sh (s_I w a i x) = w_sh w) ∧ (∀ (w : mW) (a i : Nat) (x : Int64), w_sh (s_J w a i x) = w_sh w) ∧ (∀ (w : mW) (a i : Nat) (x : Int32), w_R (s_I w a i x) = w_R w) ∧ (∀ (w : mW) (a i : Nat) (x : Int64), w_R (s_J w a i x) = w_R w) ∧ (∀ (w : mW) (a i : Nat) (x : Int32), w_n (s_I w a i x) = w_n w) ∧ (∀ (w : mW) (a i : Nat) (x : Int64), w_n (s_J w a i x) = w_n w) ∧ (∀ (w : mW) (a i : Nat) (x : Int32), w_J (s_I w a i x) = w_J w) ∧ (∀ (w : mW) (a i : Nat) (x : Int64), w_I (s_J w a i x) = w_I w) ∧
  (∀ (w : mW) (a : Nat) (f : Nat → Int32), w_sh (s_A w a f) = w_sh w) ∧ (∀ (w : mW) (a : Nat) (f : Nat → Int32), w_R (s_A w a f) = w_R w) ∧ (∀ (w : mW) (a : Nat) (f : Nat → Int32), w_n (s_A w a f) = w_n w) ∧ (∀ (w : mW) (a : Nat) (f : Nat → Int32), w_J (s_A w a f) = w_J w) := ⟨sh_I, sh_J, R_I, R_J, N_I, N_J, J_I, I_J, A_sh, A_R, A_N, A_J⟩
theorem va_s (a : Nat) : va_rf (some a) = .ref a := rfl
/-! a Machine's cells, from b on; what its rows say -/
def Mb (w : mW) (b : Nat) : Prop := (w_sh w b = (0, 2) ∧ w_sh w (b + 1) = (1, 8) ∧ w_sh w (b + 2) = (1, 16) ∧ w_sh w (b + 3) = (1, 8) ∧ w_sh w (b + 4) = (1, 16) ∧ w_sh w (b + 5) = (1, 16) ∧ w_sh w (b + 6) = (1, 6) ∧ w_sh w (b + 7) = (0, 8) ∧ w_sh w (b + 8) = (1, 120) ∧ w_sh w (b + 9) = (0, 4) ∧ w_sh w (b + 10) = (2, 16) ∧ w_sh w (b + 11) = (1, 16)) ∧
  (w_R w b 6 = some (b + 1) ∧ w_R w b 7 = some (b + 2) ∧ w_R w b 8 = some (b + 3) ∧ w_R w b 9 = some (b + 4) ∧ w_R w b 10 = some (b + 5) ∧ w_R w b 11 = some (b + 6) ∧ w_R w b 12 = some (b + 7) ∧ w_R w b 13 = some (b + 9) ∧ w_R w (b + 7) 2 = some (b + 8) ∧ w_R w (b + 9) 10 = some (b + 10) ∧ w_R w (b + 9) 11 = some (b + 11))
abbrev Row : Type := Nat → Int
def up (A : Row) (i : Nat) (v : Int) : Row := fun j => if j = i then v else A j
def MemA (w : mW) (b : Nat) (A : Row) : Prop :=
  (w_I w b 0 = Int32.ofInt (A 0) ∧ w_I w b 1 = Int32.ofInt (A 1) ∧ w_I w b 2 = Int32.ofInt (A 2) ∧ w_I w b 3 = Int32.ofInt (A 3) ∧ w_I w b 4 = Int32.ofInt (A 4)) ∧
  (∀ j, j < 8 → w_I w (b + 1) j = Int32.ofInt (A (20 + j))) ∧ (∀ j, j < 16 → w_I w (b + 2) j = Int32.ofInt (A (28 + j))) ∧ (∀ j, j < 8 → w_I w (b + 3) j = Int32.ofInt (A (44 + j))) ∧
  (∀ j, j < 16 → w_I w (b + 4) j = Int32.ofInt (A (68 + j))) ∧ (∀ j, j < 16 → w_I w (b + 5) j = Int32.ofInt (A (100 + j))) ∧ (∀ j, j < 6 → w_I w (b + 6) j = Int32.ofInt (A (12 + j))) ∧
  (w_I w (b + 9) 5 = Int32.ofInt (A 9) ∧ w_I w (b + 9) 6 = Int32.ofInt (A 10) ∧ w_I w (b + 9) 7 = Int32.ofInt (A 11)) ∧
  (∀ j, j < 16 → w_I w (b + 10) j = Int32.ofInt (A (52 + j))) ∧ (∀ j, j < 16 → w_I w (b + 11) j = Int32.ofInt (A (84 + j)))
def Fr (l : List Nat) (w w' : mW) : Prop := w_sh w' = w_sh w ∧ w_R w' = w_R w ∧ w_n w' = w_n w ∧ ∀ a, a ∉ l → w_I w' a = w_I w a ∧ w_J w' a = w_J w a
/-- a digit wheel moves -/
def a_mv (A : Row) (j : Nat) (m : Int) : Row :=
  let v := A (28 + j) + A 7 * m
  let B := if v < 0 ∨ 9 < v then up A (52 + j) 1 else A
  let C := up B (28 + j) ((v + 10) % 10)
  let D := up C (84 + j) (C (84 + j) + m)
  up D (100 + j) (D (100 + j) + m)
theorem up_eq (A : Row) (i : Nat) (v : Int) (j : Nat) : up A i v j = if j = i then v else A j := rfl
theorem Fr.refl (l : List Nat) (w : mW) : Fr l w w := ⟨rfl, rfl, rfl, fun _ _ => ⟨rfl, rfl⟩⟩
theorem Fr.trans {l l' l'' : List Nat} {w w' w'' : mW} (h : Fr l w w') (h' : Fr l' w' w'') (h1 : ∀ a ∈ l, a ∈ l'') (h2 : ∀ a ∈ l', a ∈ l'') : Fr l'' w w'' :=
  ⟨h'.1.trans h.1, h'.2.1.trans h.2.1, h'.2.2.1.trans h.2.2.1, fun a ha => ⟨(h'.2.2.2 a (fun q => ha (h2 a q))).1.trans (h.2.2.2 a (fun q => ha (h1 a q))).1, (h'.2.2.2 a (fun q => ha (h2 a q))).2.trans (h.2.2.2 a (fun q => ha (h1 a q))).2⟩⟩
theorem Fr.mono {l l' : List Nat} {w w' : mW} (h : Fr l w w') (h1 : ∀ a ∈ l, a ∈ l') : Fr l' w w' := ⟨h.1, h.2.1, h.2.2.1, fun a ha => h.2.2.2 a (fun q => ha (h1 a q))⟩
theorem Fr.I {l : List Nat} {w w' : mW} {a i : Nat} {x : Int32} (h : Fr l w w') (ha : a ∈ l) : Fr l w (s_I w' a i x) :=
  ⟨h.1, h.2.1, h.2.2.1, fun c hc => ⟨by rw [← (h.2.2.2 c hc).1]; funext j; rw [I_I, if_neg (fun (q : c = a ∧ j = i) => hc (q.1 ▸ ha))], (h.2.2.2 c hc).2⟩⟩
theorem Fr.J {l : List Nat} {w w' : mW} {a i : Nat} {x : Int64} (h : Fr l w w') (ha : a ∈ l) : Fr l w (s_J w' a i x) :=
  ⟨h.1, h.2.1, h.2.2.1, fun c hc => ⟨(h.2.2.2 c hc).1, by rw [← (h.2.2.2 c hc).2]; funext j; rw [J_J, if_neg (fun (q : c = a ∧ j = i) => hc (q.1 ▸ ha))]⟩⟩
theorem Mb.fr {l : List Nat} {w w' : mW} {b : Nat} (h : Mb w b) (f : Fr l w w') : Mb w' b := by
  unfold Mb; rw [f.1, f.2.1]; exact h
theorem MemA.fld {w : mW} {b : Nat} {A : Row} {i : Nat} {v : Int} (h : MemA w b A) (hi : i < 5) : MemA (s_I w (b) i (Int32.ofInt v)) b (up A (i) v) := by
  obtain ⟨⟨b0, b1, b2, b3, b4⟩, a1, a2, a3, a4, a5, a6, ⟨c5, c6, c7⟩, a8, a9⟩ := h
  refine ⟨⟨?_, ?_, ?_, ?_, ?_⟩, fun j hj => ?_, fun j hj => ?_, fun j hj => ?_, fun j hj => ?_, fun j hj => ?_, fun j hj => ?_, ⟨?_, ?_, ?_⟩, fun j hj => ?_, fun j hj => ?_⟩
  all_goals rw [I_I, up_eq]
  all_goals split
  all_goals split
  all_goals first | rfl | (exfalso; omega) | assumption | exact a1 _ hj | exact a2 _ hj | exact a3 _ hj | exact a4 _ hj | exact a5 _ hj | exact a6 _ hj | exact a8 _ hj | exact a9 _ hj
theorem MemA.pin {w : mW} {b : Nat} {A : Row} {i : Nat} {v : Int} (h : MemA w b A) (hi : i < 8) : MemA (s_I w (b + 1) i (Int32.ofInt v)) b (up A (20 + i) v) := by
  obtain ⟨⟨b0, b1, b2, b3, b4⟩, a1, a2, a3, a4, a5, a6, ⟨c5, c6, c7⟩, a8, a9⟩ := h
  refine ⟨⟨?_, ?_, ?_, ?_, ?_⟩, fun j hj => ?_, fun j hj => ?_, fun j hj => ?_, fun j hj => ?_, fun j hj => ?_, fun j hj => ?_, ⟨?_, ?_, ?_⟩, fun j hj => ?_, fun j hj => ?_⟩
  all_goals rw [I_I, up_eq]
  all_goals split
  all_goals split
  all_goals first | rfl | (exfalso; omega) | assumption | exact a1 _ hj | exact a2 _ hj | exact a3 _ hj | exact a4 _ hj | exact a5 _ hj | exact a6 _ hj | exact a8 _ hj | exact a9 _ hj
theorem MemA.dig {w : mW} {b : Nat} {A : Row} {i : Nat} {v : Int} (h : MemA w b A) (hi : i < 16) : MemA (s_I w (b + 2) i (Int32.ofInt v)) b (up A (28 + i) v) := by
  obtain ⟨⟨b0, b1, b2, b3, b4⟩, a1, a2, a3, a4, a5, a6, ⟨c5, c6, c7⟩, a8, a9⟩ := h
  refine ⟨⟨?_, ?_, ?_, ?_, ?_⟩, fun j hj => ?_, fun j hj => ?_, fun j hj => ?_, fun j hj => ?_, fun j hj => ?_, fun j hj => ?_, ⟨?_, ?_, ?_⟩, fun j hj => ?_, fun j hj => ?_⟩
  all_goals rw [I_I, up_eq]
  all_goals split
  all_goals split
  all_goals first | rfl | (exfalso; omega) | assumption | exact a1 _ hj | exact a2 _ hj | exact a3 _ hj | exact a4 _ hj | exact a5 _ hj | exact a6 _ hj | exact a8 _ hj | exact a9 _ hj
theorem MemA.cnt {w : mW} {b : Nat} {A : Row} {i : Nat} {v : Int} (h : MemA w b A) (hi : i < 8) : MemA (s_I w (b + 3) i (Int32.ofInt v)) b (up A (44 + i) v) := by
  obtain ⟨⟨b0, b1, b2, b3, b4⟩, a1, a2, a3, a4, a5, a6, ⟨c5, c6, c7⟩, a8, a9⟩ := h
  refine ⟨⟨?_, ?_, ?_, ?_, ?_⟩, fun j hj => ?_, fun j hj => ?_, fun j hj => ?_, fun j hj => ?_, fun j hj => ?_, fun j hj => ?_, ⟨?_, ?_, ?_⟩, fun j hj => ?_, fun j hj => ?_⟩
  all_goals rw [I_I, up_eq]
  all_goals split
  all_goals split
  all_goals first | rfl | (exfalso; omega) | assumption | exact a1 _ hj | exact a2 _ hj | exact a3 _ hj | exact a4 _ hj | exact a5 _ hj | exact a6 _ hj | exact a8 _ hj | exact a9 _ hj
theorem MemA.flt {w : mW} {b : Nat} {A : Row} {i : Nat} {v : Int} (h : MemA w b A) (hi : i < 16) : MemA (s_I w (b + 4) i (Int32.ofInt v)) b (up A (68 + i) v) := by
  obtain ⟨⟨b0, b1, b2, b3, b4⟩, a1, a2, a3, a4, a5, a6, ⟨c5, c6, c7⟩, a8, a9⟩ := h
  refine ⟨⟨?_, ?_, ?_, ?_, ?_⟩, fun j hj => ?_, fun j hj => ?_, fun j hj => ?_, fun j hj => ?_, fun j hj => ?_, fun j hj => ?_, ⟨?_, ?_, ?_⟩, fun j hj => ?_, fun j hj => ?_⟩
  all_goals rw [I_I, up_eq]
  all_goals split
  all_goals split
  all_goals first | rfl | (exfalso; omega) | assumption | exact a1 _ hj | exact a2 _ hj | exact a3 _ hj | exact a4 _ hj | exact a5 _ hj | exact a6 _ hj | exact a8 _ hj | exact a9 _ hj
theorem MemA.stp {w : mW} {b : Nat} {A : Row} {i : Nat} {v : Int} (h : MemA w b A) (hi : i < 16) : MemA (s_I w (b + 5) i (Int32.ofInt v)) b (up A (100 + i) v) := by
  obtain ⟨⟨b0, b1, b2, b3, b4⟩, a1, a2, a3, a4, a5, a6, ⟨c5, c6, c7⟩, a8, a9⟩ := h
  refine ⟨⟨?_, ?_, ?_, ?_, ?_⟩, fun j hj => ?_, fun j hj => ?_, fun j hj => ?_, fun j hj => ?_, fun j hj => ?_, fun j hj => ?_, ⟨?_, ?_, ?_⟩, fun j hj => ?_, fun j hj => ?_⟩
  all_goals rw [I_I, up_eq]
  all_goals split
  all_goals split
  all_goals first | rfl | (exfalso; omega) | assumption | exact a1 _ hj | exact a2 _ hj | exact a3 _ hj | exact a4 _ hj | exact a5 _ hj | exact a6 _ hj | exact a8 _ hj | exact a9 _ hj
theorem MemA.cts {w : mW} {b : Nat} {A : Row} {i : Nat} {v : Int} (h : MemA w b A) (hi : i < 6) : MemA (s_I w (b + 6) i (Int32.ofInt v)) b (up A (12 + i) v) := by
  obtain ⟨⟨b0, b1, b2, b3, b4⟩, a1, a2, a3, a4, a5, a6, ⟨c5, c6, c7⟩, a8, a9⟩ := h
  refine ⟨⟨?_, ?_, ?_, ?_, ?_⟩, fun j hj => ?_, fun j hj => ?_, fun j hj => ?_, fun j hj => ?_, fun j hj => ?_, fun j hj => ?_, ⟨?_, ?_, ?_⟩, fun j hj => ?_, fun j hj => ?_⟩
  all_goals rw [I_I, up_eq]
  all_goals split
  all_goals split
  all_goals first | rfl | (exfalso; omega) | assumption | exact a1 _ hj | exact a2 _ hj | exact a3 _ hj | exact a4 _ hj | exact a5 _ hj | exact a6 _ hj | exact a8 _ hj | exact a9 _ hj
theorem MemA.lev {w : mW} {b : Nat} {A : Row} {i : Nat} {v : Int} (h : MemA w b A) (hi : i < 16) : MemA (s_I w (b + 10) i (Int32.ofInt v)) b (up A (52 + i) v) := by
  obtain ⟨⟨b0, b1, b2, b3, b4⟩, a1, a2, a3, a4, a5, a6, ⟨c5, c6, c7⟩, a8, a9⟩ := h
  refine ⟨⟨?_, ?_, ?_, ?_, ?_⟩, fun j hj => ?_, fun j hj => ?_, fun j hj => ?_, fun j hj => ?_, fun j hj => ?_, fun j hj => ?_, ⟨?_, ?_, ?_⟩, fun j hj => ?_, fun j hj => ?_⟩
  all_goals rw [I_I, up_eq]
  all_goals split
  all_goals split
  all_goals first | rfl | (exfalso; omega) | assumption | exact a1 _ hj | exact a2 _ hj | exact a3 _ hj | exact a4 _ hj | exact a5 _ hj | exact a6 _ hj | exact a8 _ hj | exact a9 _ hj
theorem MemA.mov {w : mW} {b : Nat} {A : Row} {i : Nat} {v : Int} (h : MemA w b A) (hi : i < 16) : MemA (s_I w (b + 11) i (Int32.ofInt v)) b (up A (84 + i) v) := by
  obtain ⟨⟨b0, b1, b2, b3, b4⟩, a1, a2, a3, a4, a5, a6, ⟨c5, c6, c7⟩, a8, a9⟩ := h
  refine ⟨⟨?_, ?_, ?_, ?_, ?_⟩, fun j hj => ?_, fun j hj => ?_, fun j hj => ?_, fun j hj => ?_, fun j hj => ?_, fun j hj => ?_, ⟨?_, ?_, ?_⟩, fun j hj => ?_, fun j hj => ?_⟩
  all_goals rw [I_I, up_eq]
  all_goals split
  all_goals split
  all_goals first | rfl | (exfalso; omega) | assumption | exact a1 _ hj | exact a2 _ hj | exact a3 _ hj | exact a4 _ hj | exact a5 _ hj | exact a6 _ hj | exact a8 _ hj | exact a9 _ hj
theorem MemA.oft {w : mW} {b : Nat} {A : Row} {i : Nat} {v : Int} (h : MemA w b A) (hi : i < 3) : MemA (s_I w (b + 9) (5 + i) (Int32.ofInt v)) b (up A (9 + i) v) := by
  obtain ⟨⟨b0, b1, b2, b3, b4⟩, a1, a2, a3, a4, a5, a6, ⟨c5, c6, c7⟩, a8, a9⟩ := h
  refine ⟨⟨?_, ?_, ?_, ?_, ?_⟩, fun j hj => ?_, fun j hj => ?_, fun j hj => ?_, fun j hj => ?_, fun j hj => ?_, fun j hj => ?_, ⟨?_, ?_, ?_⟩, fun j hj => ?_, fun j hj => ?_⟩
  all_goals rw [I_I, up_eq]
  all_goals split
  all_goals split
  all_goals first | rfl | (exfalso; omega) | assumption | exact a1 _ hj | exact a2 _ hj | exact a3 _ hj | exact a4 _ hj | exact a5 _ hj | exact a6 _ hj | exact a8 _ hj | exact a9 _ hj
/-- other cells -/
theorem MemA.oth {w : mW} {b : Nat} {A : Row} {a i : Nat} {x : Int32} (h : MemA w b A) (hi : a < b ∨ b + 12 ≤ a ∨ a = b + 7 ∨ a = b + 8 ∨ (a = b + 9 ∧ (i < 5 ∨ 7 < i))) : MemA (s_I w a i x) b A := by
  obtain ⟨⟨b0, b1, b2, b3, b4⟩, a1, a2, a3, a4, a5, a6, ⟨c5, c6, c7⟩, a8, a9⟩ := h
  refine ⟨⟨?_, ?_, ?_, ?_, ?_⟩, fun j hj => ?_, fun j hj => ?_, fun j hj => ?_, fun j hj => ?_, fun j hj => ?_, fun j hj => ?_, ⟨?_, ?_, ?_⟩, fun j hj => ?_, fun j hj => ?_⟩
  all_goals rw [I_I]
  all_goals split
  all_goals first | (exfalso; omega) | assumption | exact a1 _ hj | exact a2 _ hj | exact a3 _ hj | exact a4 _ hj | exact a5 _ hj | exact a6 _ hj | exact a8 _ hj | exact a9 _ hj
theorem MemA.fr {l : List Nat} {w w' : mW} {b : Nat} {A : Row} (h : MemA w b A) (f : Fr l w w') (hl : ∀ c, c < 12 → c ≠ 7 → c ≠ 8 → b + c ∉ l) : MemA w' b A := by
  have e0 := (f.2.2.2 b (hl 0 (by omega) (by omega) (by omega))).1
  have e1 := (f.2.2.2 _ (hl 1 (by omega) (by omega) (by omega))).1
  have e2 := (f.2.2.2 _ (hl 2 (by omega) (by omega) (by omega))).1
  have e3 := (f.2.2.2 _ (hl 3 (by omega) (by omega) (by omega))).1
  have e4 := (f.2.2.2 _ (hl 4 (by omega) (by omega) (by omega))).1
  have e5 := (f.2.2.2 _ (hl 5 (by omega) (by omega) (by omega))).1
  have e6 := (f.2.2.2 _ (hl 6 (by omega) (by omega) (by omega))).1
  have e9 := (f.2.2.2 _ (hl 9 (by omega) (by omega) (by omega))).1
  have e10 := (f.2.2.2 _ (hl 10 (by omega) (by omega) (by omega))).1
  have e11 := (f.2.2.2 _ (hl 11 (by omega) (by omega) (by omega))).1
  unfold MemA
  rw [e0, e1, e2, e3, e4, e5, e6, e9, e10, e11]
  exact h
theorem MemA.r_pin {w : mW} {b : Nat} {A : Row} {j : Nat} (h : MemA w b A) (hj : j < 8) : w_I w (b + 1) j = Int32.ofInt (A (20 + j)) := h.2.1 j hj
theorem MemA.r_dig {w : mW} {b : Nat} {A : Row} {j : Nat} (h : MemA w b A) (hj : j < 16) : w_I w (b + 2) j = Int32.ofInt (A (28 + j)) := h.2.2.1 j hj
theorem MemA.r_cnt {w : mW} {b : Nat} {A : Row} {j : Nat} (h : MemA w b A) (hj : j < 8) : w_I w (b + 3) j = Int32.ofInt (A (44 + j)) := h.2.2.2.1 j hj
theorem MemA.r_flt {w : mW} {b : Nat} {A : Row} {j : Nat} (h : MemA w b A) (hj : j < 16) : w_I w (b + 4) j = Int32.ofInt (A (68 + j)) := h.2.2.2.2.1 j hj
theorem MemA.r_stp {w : mW} {b : Nat} {A : Row} {j : Nat} (h : MemA w b A) (hj : j < 16) : w_I w (b + 5) j = Int32.ofInt (A (100 + j)) := h.2.2.2.2.2.1 j hj
theorem MemA.r_cts {w : mW} {b : Nat} {A : Row} {j : Nat} (h : MemA w b A) (hj : j < 6) : w_I w (b + 6) j = Int32.ofInt (A (12 + j)) := h.2.2.2.2.2.2.1 j hj
theorem MemA.r_lev {w : mW} {b : Nat} {A : Row} {j : Nat} (h : MemA w b A) (hj : j < 16) : w_I w (b + 10) j = Int32.ofInt (A (52 + j)) := h.2.2.2.2.2.2.2.2.1 j hj
theorem MemA.r_mov {w : mW} {b : Nat} {A : Row} {j : Nat} (h : MemA w b A) (hj : j < 16) : w_I w (b + 11) j = Int32.ofInt (A (84 + j)) := h.2.2.2.2.2.2.2.2.2 j hj
theorem c_hasFault {b j : Nat} {m : Int} {w : mW} {Q : mW → mO → Prop} (hM : Mb w b) (hj : j < 16) (hq : Q w (.inl (some (.int (if w_I w (b + 4) j &&& Int32.ofInt m = 0 then 0 else 1))))) : CT n_X2_hasFault [.ref b, .int (Int32.ofInt j), .int (Int32.ofInt m)] w Q := by
  obtain ⟨⟨s0, s1, s2, s3, s4, s5, s6, s7, s8, s9, s10, s11⟩, r6, r7, r8, r9, r10, r11, r12, r13, q2, q10, q11⟩ := hM
  have hR : inR j := ⟨by omega, by omega⟩
  refine ct_X2_hasFault (rt_X2_hasFault_0 ?_)
  simp only [wp_c, wp_n, jj_n, v_ct, Int.reduceToNat, Int.toNat_natCast, stE, wlE, lgt, lpu, lpw, v_c2, va_s, true_and, and_true, Option.toList, List.nil_append, List.cons_append, List.take, List.drop, List.reverse, List.reverseAux, List.length_cons, List.length_nil, reduceCtorEq, false_implies, true_implies, forall_const, not_true_eq_false, not_false_eq_true, ite_true, ite_false, Bool.false_eq_true, I_I, J_J, Nat.add_left_cancel_iff, Nat.reduceEqDiff, Nat.add_eq_left, Nat.left_eq_add, false_and, and_false, Nat.reduceSub, Nat.sub_self, Nat.le_refl, Nat.zero_le, ge_iff_le, Nat.reduceAdd, Nat.reduceLeDiff, Nat.zero_add, Nat.reduceLT, s0, s4, r9, vp_oi hR, oi_nc hR]
  refine ⟨by omega, fun h => ?_, fun h => ?_⟩
  · refine rt_X2_hasFault_15 ?_
    simp only [wp_c, wp_n, jj_n, v_ct, Int.reduceToNat, Int.toNat_natCast, stE, wlE, lgt, lpu, lpw, v_c2, va_s, true_and, and_true, Option.toList, List.nil_append, List.cons_append, List.take, List.drop, List.reverse, List.reverseAux, List.length_cons, List.length_nil, reduceCtorEq, false_implies, true_implies, forall_const, not_true_eq_false, not_false_eq_true, ite_true, ite_false, Bool.false_eq_true, I_I, J_J, Nat.add_left_cancel_iff, Nat.reduceEqDiff, Nat.add_eq_left, Nat.left_eq_add, false_and, and_false, Nat.reduceSub, Nat.sub_self, Nat.le_refl, Nat.zero_le, ge_iff_le, Nat.reduceAdd, Nat.reduceLeDiff, Nat.zero_add, Nat.reduceLT]
    refine rt_X2_hasFault_16 ?_
    simp only [wp_c, wp_n, jj_n, v_ct, Int.reduceToNat, Int.toNat_natCast, stE, wlE, lgt, lpu, lpw, v_c2, va_s, true_and, and_true, Option.toList, List.nil_append, List.cons_append, List.take, List.drop, List.reverse, List.reverseAux, List.length_cons, List.length_nil, reduceCtorEq, false_implies, true_implies, forall_const, not_true_eq_false, not_false_eq_true, ite_true, ite_false, Bool.false_eq_true, I_I, J_J, Nat.add_left_cancel_iff, Nat.reduceEqDiff, Nat.add_eq_left, Nat.left_eq_add, false_and, and_false, Nat.reduceSub, Nat.sub_self, Nat.le_refl, Nat.zero_le, ge_iff_le, Nat.reduceAdd, Nat.reduceLeDiff, Nat.zero_add, Nat.reduceLT, mr_X2_hasFault]
    rw [if_pos h] at hq
    exact ⟨Or.inl rfl, hq⟩
  · refine rt_X2_hasFault_16 ?_
    simp only [wp_c, wp_n, jj_n, v_ct, Int.reduceToNat, Int.toNat_natCast, stE, wlE, lgt, lpu, lpw, v_c2, va_s, true_and, and_true, Option.toList, List.nil_append, List.cons_append, List.take, List.drop, List.reverse, List.reverseAux, List.length_cons, List.length_nil, reduceCtorEq, false_implies, true_implies, forall_const, not_true_eq_false, not_false_eq_true, ite_true, ite_false, Bool.false_eq_true, I_I, J_J, Nat.add_left_cancel_iff, Nat.reduceEqDiff, Nat.add_eq_left, Nat.left_eq_add, false_and, and_false, Nat.reduceSub, Nat.sub_self, Nat.le_refl, Nat.zero_le, ge_iff_le, Nat.reduceAdd, Nat.reduceLeDiff, Nat.zero_add, Nat.reduceLT, mr_X2_hasFault]
    rw [if_neg h] at hq
    exact ⟨Or.inr rfl, hq⟩
theorem c_move {b j : Nat} {m : Int} {w : mW} {Q : mW → mO → Prop} {A : Row} (hM : Mb w b) (hA : MemA w b A) (hd : w_I w (b + 9) 2 = Int32.ofInt (A 7)) (hj : j < 16) (hm : 0 ≤ m ∧ m ≤ 9) (h7 : A 7 = 1 ∨ A 7 = -1) (h28 : 0 ≤ A (28 + j) ∧ A (28 + j) ≤ 9) (hs : 0 ≤ A (68 + j) ∧ A (68 + j) ≤ 3)
  (hq : A (68 + j) < 2 → ∀ w', MemA w' b (a_mv A j m) → Fr [b + 2, b + 5, b + 10, b + 11] w w' → Q w' (.inl (some (.int (Int32.ofInt 1)))))
  (hq0 : 2 ≤ A (68 + j) → ∀ w', MemA w' b (up A 17 (A 17 + 1)) → Fr [b + 6, b + 9] w w' → w_I w' (b + 9) 0 = Int32.ofInt 1 → (∀ i, i ≠ 0 → w_I w' (b + 9) i = w_I w (b + 9) i) → w_J w' = w_J w → Q w' (.inl (some (.int (Int32.ofInt 0))))) : CT n_X2_move [.ref b, .int (Int32.ofInt j), .int (Int32.ofInt m)] w Q := by
  have hM0 := hM
  obtain ⟨⟨s0, s1, s2, s3, s4, s5, s6, s7, s8, s9, s10, s11⟩, r6, r7, r8, r9, r10, r11, r12, r13, q2, q10, q11⟩ := hM
  have hA0 := hA
  obtain ⟨a0, a1, a2, a3, a4, a5, a6, a7, a8, a9⟩ := hA
  have hR : inR (j : Int) := ⟨by omega, by omega⟩
  refine ct_X2_move (rt_X2_move_0 ?_)
  simp only [wp_c, wp_n, jj_n, v_ct, Int.reduceToNat, Int.toNat_natCast, stE, wlE, lgt, lpu, lpw, v_c2, va_s, true_and, and_true, Option.toList, List.nil_append, List.cons_append, List.take, List.drop, List.reverse, List.reverseAux, List.length_cons, List.length_nil, reduceCtorEq, false_implies, true_implies, forall_const, not_true_eq_false, not_false_eq_true, ite_true, ite_false, Bool.false_eq_true, I_I, J_J, Nat.add_left_cancel_iff, Nat.reduceEqDiff, Nat.add_eq_left, Nat.left_eq_add, false_and, and_false, Nat.reduceSub, Nat.sub_self, Nat.le_refl, Nat.zero_le, ge_iff_le, Nat.reduceAdd, Nat.reduceLeDiff, Nat.zero_add, Nat.reduceLT, s0, mh_X2_move]
  refine c_hasFault hM0 hj ?_
  have hbit : (w_I w (b + 4) j &&& Int32.ofInt 2 = 0) ↔ A (68 + j) < 2 := by
    rw [a4 j hj]
    have h4 : A (68 + j) = 0 ∨ A (68 + j) = 1 ∨ A (68 + j) = 2 ∨ A (68 + j) = 3 := by omega
    rcases h4 with h | h | h | h <;> rw [h] <;> decide
  have h10 : inR (10 : Int) := ⟨by omega, by omega⟩
  by_cases hst : A (68 + j) < 2
  · simp only [hbit, hst, wp_c, wp_n, jj_n, v_ct, Int.reduceToNat, Int.toNat_natCast, stE, wlE, lgt, lpu, lpw, v_c2, va_s, true_and, and_true, Option.toList, List.nil_append, List.cons_append, List.take, List.drop, List.reverse, List.reverseAux, List.length_cons, List.length_nil, reduceCtorEq, false_implies, true_implies, forall_const, not_true_eq_false, not_false_eq_true, ite_true, ite_false, Bool.false_eq_true, I_I, J_J, Nat.add_left_cancel_iff, Nat.reduceEqDiff, Nat.add_eq_left, Nat.left_eq_add, false_and, and_false, Nat.reduceSub, Nat.sub_self, Nat.le_refl, Nat.zero_le, ge_iff_le, Nat.reduceAdd, Nat.reduceLeDiff, Nat.zero_add, Nat.reduceLT]
    have hv : inR (A (28 + j) + A 7 * m) := by rcases h7 with h | h <;> rw [h] <;> constructor <;> omega
    have hv1 : -9 ≤ A (28 + j) + A 7 * m ∧ A (28 + j) + A 7 * m ≤ 18 := by rcases h7 with h | h <;> rw [h] <;> constructor <;> omega
    have hv10 : inR (A (28 + j) + A 7 * m + 10) := ⟨by omega, by omega⟩
    have hlast : (∀ w1, MemA w1 b (if A (28 + j) + A 7 * m < 0 ∨ 9 < A (28 + j) + A 7 * m then up A (52 + j) 1 else A) → Fr [b + 10] w w1 → RT n_X2_move 66 [.ref b, .int (Int32.ofInt j), .int (Int32.ofInt m), .int (Int32.ofInt (A (28 + j) + A 7 * m))] [] w1 (0, 0, false) Q) := by
      intro w1 h1 h2
      refine rt_X2_move_66 ?_
      have hS := h2.1
      have hRr := h2.2.1
      simp only [wp_c, wp_n, jj_n, v_ct, Int.reduceToNat, Int.toNat_natCast, stE, wlE, lgt, lpu, lpw, v_c2, va_s, true_and, and_true, Option.toList, List.nil_append, List.cons_append, List.take, List.drop, List.reverse, List.reverseAux, List.length_cons, List.length_nil, reduceCtorEq, false_implies, true_implies, forall_const, not_true_eq_false, not_false_eq_true, ite_true, ite_false, Bool.false_eq_true, I_I, J_J, Nat.add_left_cancel_iff, Nat.reduceEqDiff, Nat.add_eq_left, Nat.left_eq_add, false_and, and_false, Nat.reduceSub, Nat.sub_self, Nat.le_refl, Nat.zero_le, ge_iff_le, Nat.reduceAdd, Nat.reduceLeDiff, Nat.zero_add, Nat.reduceLT, hS, hRr, s0, s2, s5, s9, s11, r7, r10, r13, q11, vp_oi hR, oi_nc hR, oi_add, mr_X2_move]
      rw [oi_rem hv10 h10 (by omega) (by omega)]
      have g1 := h1.dig (v := (A (28 + j) + A 7 * m + 10) % 10) hj
      have g2 := fun v => g1.mov (v := v) hj
      have e1 := g1.r_mov hj
      have e2 := fun v => (g2 v).r_stp hj
      simp only [I_I, Nat.add_left_cancel_iff, Nat.reduceEqDiff, false_and, ite_false] at e1 e2
      rw [e1, e2 (up (if A (28 + j) + A 7 * m < 0 ∨ 9 < A (28 + j) + A 7 * m then up A (52 + j) 1 else A) (28 + j) ((A (28 + j) + A 7 * m + 10) % 10) (84 + j) + m), oi_add, oi_add]
      refine ⟨by decide, by omega, by omega, by omega, by omega, by omega, by decide, ?_⟩
      exact hq hst _ ((g2 _).stp hj) ((((h2.mono (by simp)).I (by simp)).I (by simp)).I (by simp))
    have hset : A (28 + j) + A 7 * m < 0 ∨ 9 < A (28 + j) + A 7 * m → RT n_X2_move 56 [.ref b, .int (Int32.ofInt j), .int (Int32.ofInt m), .int (Int32.ofInt (A (28 + j) + A 7 * m))] [] w (0, 0, false) Q := by
      intro hc
      have hh := hlast (s_I w (b + 10) j (Int32.ofInt 1)) (by rw [if_pos hc]; exact hA0.lev hj) ((Fr.refl _ _).I (by simp))
      refine rt_X2_move_56 ?_
      simp only [wp_c, wp_n, jj_n, v_ct, Int.reduceToNat, Int.toNat_natCast, stE, wlE, lgt, lpu, lpw, v_c2, va_s, true_and, and_true, Option.toList, List.nil_append, List.cons_append, List.take, List.drop, List.reverse, List.reverseAux, List.length_cons, List.length_nil, reduceCtorEq, false_implies, true_implies, forall_const, not_true_eq_false, not_false_eq_true, ite_true, ite_false, Bool.false_eq_true, I_I, J_J, Nat.add_left_cancel_iff, Nat.reduceEqDiff, Nat.add_eq_left, Nat.left_eq_add, false_and, and_false, Nat.reduceSub, Nat.sub_self, Nat.le_refl, Nat.zero_le, ge_iff_le, Nat.reduceAdd, Nat.reduceLeDiff, Nat.zero_add, Nat.reduceLT, s0, s9, s10, r13, q10, vp_oi hR, oi_nc hR]
      exact ⟨by omega, hh⟩
    refine rt_X2_move_29 ?_
    simp only [wp_c, wp_n, jj_n, v_ct, Int.reduceToNat, Int.toNat_natCast, stE, wlE, lgt, lpu, lpw, v_c2, va_s, true_and, and_true, Option.toList, List.nil_append, List.cons_append, List.take, List.drop, List.reverse, List.reverseAux, List.length_cons, List.length_nil, reduceCtorEq, false_implies, true_implies, forall_const, not_true_eq_false, not_false_eq_true, ite_true, ite_false, Bool.false_eq_true, I_I, J_J, Nat.add_left_cancel_iff, Nat.reduceEqDiff, Nat.add_eq_left, Nat.left_eq_add, false_and, and_false, Nat.reduceSub, Nat.sub_self, Nat.le_refl, Nat.zero_le, ge_iff_le, Nat.reduceAdd, Nat.reduceLeDiff, Nat.zero_add, Nat.reduceLT, s0, s2, s9, r7, r13, hd, vp_oi hR, oi_nc hR, a2 j hj, oi_mul, oi_add, oi_l0 hv, oi_le hv (show inR 9 from ⟨by omega, by omega⟩)]
    refine ⟨by omega, fun h => hset (Or.inl h), fun h => ⟨fun h' => ?_, fun h' => hset (Or.inr (by omega))⟩⟩
    have hn : ¬ (A (28 + j) + A 7 * m < 0 ∨ 9 < A (28 + j) + A 7 * m) := by omega
    exact hlast w (by rw [if_neg hn]; exact hA0) (Fr.refl _ _)
  · have h5 : inR 5 := ⟨by omega, by omega⟩
    simp only [hbit, hst, wp_c, wp_n, jj_n, v_ct, Int.reduceToNat, Int.toNat_natCast, stE, wlE, lgt, lpu, lpw, v_c2, va_s, true_and, and_true, Option.toList, List.nil_append, List.cons_append, List.take, List.drop, List.reverse, List.reverseAux, List.length_cons, List.length_nil, reduceCtorEq, false_implies, true_implies, forall_const, not_true_eq_false, not_false_eq_true, ite_true, ite_false, Bool.false_eq_true, I_I, J_J, Nat.add_left_cancel_iff, Nat.reduceEqDiff, Nat.add_eq_left, Nat.left_eq_add, false_and, and_false, Nat.reduceSub, Nat.sub_self, Nat.le_refl, Nat.zero_le, ge_iff_le, Nat.reduceAdd, Nat.reduceLeDiff, Nat.zero_add, Nat.reduceLT, s0, s9, s6, r13, r11, vp_oi h5, oi_nc h5, mr_X2_move]
    refine ⟨fun h => absurd h (by decide), fun _ => ⟨by decide, by omega, by omega, by decide, ?_⟩⟩
    rw [a6 5 (by omega), oi_add]
    have g1 : MemA (s_I w (b + 9) 0 (Int32.ofInt 1)) b A := hA0.oth (by omega)
    refine hq0 (by omega) _ (g1.cts (i := 5) (by omega)) (((Fr.refl _ _).I (by simp)).I (by simp)) ?_ (fun i hi => ?_) rfl
    · simp only [wp_c, wp_n, jj_n, v_ct, Int.reduceToNat, Int.toNat_natCast, stE, wlE, lgt, lpu, lpw, v_c2, va_s, true_and, and_true, Option.toList, List.nil_append, List.cons_append, List.take, List.drop, List.reverse, List.reverseAux, List.length_cons, List.length_nil, reduceCtorEq, false_implies, true_implies, forall_const, not_true_eq_false, not_false_eq_true, ite_true, ite_false, Bool.false_eq_true, I_I, J_J, Nat.add_left_cancel_iff, Nat.reduceEqDiff, Nat.add_eq_left, Nat.left_eq_add, false_and, and_false, Nat.reduceSub, Nat.sub_self, Nat.le_refl, Nat.zero_le, ge_iff_le, Nat.reduceAdd, Nat.reduceLeDiff, Nat.zero_add, Nat.reduceLT]
    · simp only [wp_c, wp_n, jj_n, v_ct, Int.reduceToNat, Int.toNat_natCast, stE, wlE, lgt, lpu, lpw, v_c2, va_s, true_and, and_true, Option.toList, List.nil_append, List.cons_append, List.take, List.drop, List.reverse, List.reverseAux, List.length_cons, List.length_nil, reduceCtorEq, false_implies, true_implies, forall_const, not_true_eq_false, not_false_eq_true, ite_true, ite_false, Bool.false_eq_true, I_I, J_J, Nat.add_left_cancel_iff, Nat.reduceEqDiff, Nat.add_eq_left, Nat.left_eq_add, false_and, and_false, Nat.reduceSub, Nat.sub_self, Nat.le_refl, Nat.zero_le, ge_iff_le, Nat.reduceAdd, Nat.reduceLeDiff, Nat.zero_add, Nat.reduceLT, hi]
/-- the cell of the turn under way -/
def T9 (w : mW) (b : Nat) (jm dv d p pl : Int) (c l : Int32) : Prop := w_I w (b + 9) 0 = Int32.ofInt jm ∧ w_I w (b + 9) 1 = Int32.ofInt dv ∧ w_I w (b + 9) 2 = Int32.ofInt d ∧ w_I w (b + 9) 3 = Int32.ofInt p ∧ w_I w (b + 9) 4 = Int32.ofInt pl ∧ w_I w (b + 9) 8 = c ∧ w_I w (b + 9) 9 = l
theorem MemA.o5 {w : mW} {b : Nat} {A : Row} {v : Int} (h : MemA w b A) : MemA (s_I w (b + 9) 5 (Int32.ofInt v)) b (up A 9 v) := MemA.oft (i := 0) h (by omega)
theorem MemA.o6 {w : mW} {b : Nat} {A : Row} {v : Int} (h : MemA w b A) : MemA (s_I w (b + 9) 6 (Int32.ofInt v)) b (up A 10 v) := MemA.oft (i := 1) h (by omega)
theorem MemA.o7 {w : mW} {b : Nat} {A : Row} {v : Int} (h : MemA w b A) : MemA (s_I w (b + 9) 7 (Int32.ofInt v)) b (up A 11 v) := MemA.oft (i := 2) h (by omega)
theorem MemA.t0 {w : mW} {b : Nat} {A : Row} {x : Int32} (h : MemA w b A) : MemA (s_I w (b + 9) 0 x) b A := h.oth (by omega)
theorem MemA.t1 {w : mW} {b : Nat} {A : Row} {x : Int32} (h : MemA w b A) : MemA (s_I w (b + 9) 1 x) b A := h.oth (by omega)
theorem MemA.t2 {w : mW} {b : Nat} {A : Row} {x : Int32} (h : MemA w b A) : MemA (s_I w (b + 9) 2 x) b A := h.oth (by omega)
theorem MemA.t3 {w : mW} {b : Nat} {A : Row} {x : Int32} (h : MemA w b A) : MemA (s_I w (b + 9) 3 x) b A := h.oth (by omega)
theorem MemA.t4 {w : mW} {b : Nat} {A : Row} {x : Int32} (h : MemA w b A) : MemA (s_I w (b + 9) 4 x) b A := h.oth (by omega)
theorem MemA.t8 {w : mW} {b : Nat} {A : Row} {x : Int32} (h : MemA w b A) : MemA (s_I w (b + 9) 8 x) b A := h.oth (by omega)
theorem MemA.t9 {w : mW} {b : Nat} {A : Row} {x : Int32} (h : MemA w b A) : MemA (s_I w (b + 9) 9 x) b A := h.oth (by omega)
theorem MemA.free {w : mW} {b : Nat} {A : Row} {i : Nat} {v : Int} (h : MemA w b A) (hi : (5 ≤ i ∧ i ≤ 8) ∨ i = 18 ∨ i = 19 ∨ 116 ≤ i) : MemA w b (up A i v) := by
  obtain ⟨⟨b0, b1, b2, b3, b4⟩, a1, a2, a3, a4, a5, a6, ⟨c5, c6, c7⟩, a8, a9⟩ := h
  refine ⟨⟨?_, ?_, ?_, ?_, ?_⟩, fun j hj => ?_, fun j hj => ?_, fun j hj => ?_, fun j hj => ?_, fun j hj => ?_, fun j hj => ?_, ⟨?_, ?_, ?_⟩, fun j hj => ?_, fun j hj => ?_⟩
  all_goals rw [up_eq, if_neg (by omega)]
  all_goals first | assumption | exact a1 _ hj | exact a2 _ hj | exact a3 _ hj | exact a4 _ hj | exact a5 _ hj | exact a6 _ hj | exact a8 _ hj | exact a9 _ hj
theorem c_addCarry {b : Nat} {w : mW} {Q : mW → mO → Prop} {A : Row} {jm dv d p pl : Int} {c l : Int32} (hM : Mb w b) (hA : MemA w b A) (hT : T9 w b jm dv d p pl c l)
  (hq : ∀ w', MemA w' b (up A 10 (A 10 + 1)) → T9 w' b jm dv d p pl (c + Int32.ofInt 1) (if l < c + Int32.ofInt 1 then c + Int32.ofInt 1 else l) → Fr [b + 9] w w' → Q w' (.inl none)) : CT n_X4_addCarry [.ref (b + 9)] w Q := by
  obtain ⟨⟨s0, s1, s2, s3, s4, s5, s6, s7, s8, s9, s10, s11⟩, r6, r7, r8, r9, r10, r11, r12, r13, q2, q10, q11⟩ := hM
  have hA0 := hA
  obtain ⟨a0, a1, a2, a3, a4, a5, a6, a7, a8, a9⟩ := hA
  obtain ⟨t0, t1, t2, t3, t4, t8, t9⟩ := hT
  refine ct_X4_addCarry (rt_X4_addCarry_0 ?_)
  simp only [wp_c, wp_n, jj_n, v_ct, Int.reduceToNat, Int.toNat_natCast, stE, wlE, lgt, lpu, lpw, v_c2, va_s, true_and, and_true, Option.toList, List.nil_append, List.cons_append, List.take, List.drop, List.reverse, List.reverseAux, List.length_cons, List.length_nil, reduceCtorEq, false_implies, true_implies, forall_const, not_true_eq_false, not_false_eq_true, ite_true, ite_false, Bool.false_eq_true, I_I, J_J, Nat.add_left_cancel_iff, Nat.reduceEqDiff, Nat.add_eq_left, Nat.left_eq_add, false_and, and_false, Nat.reduceSub, Nat.sub_self, Nat.le_refl, Nat.zero_le, ge_iff_le, Nat.reduceAdd, Nat.reduceLeDiff, Nat.zero_add, Nat.reduceLT, s9, a7, t8, t9, oi_add]
  refine ⟨fun h => ?_, fun h => ?_⟩
  · refine rt_X4_addCarry_39 ?_
    simp only [wp_c, wp_n, jj_n, v_ct, Int.reduceToNat, Int.toNat_natCast, stE, wlE, lgt, lpu, lpw, v_c2, va_s, true_and, and_true, Option.toList, List.nil_append, List.cons_append, List.take, List.drop, List.reverse, List.reverseAux, List.length_cons, List.length_nil, reduceCtorEq, false_implies, true_implies, forall_const, not_true_eq_false, not_false_eq_true, ite_true, ite_false, Bool.false_eq_true, I_I, J_J, Nat.add_left_cancel_iff, Nat.reduceEqDiff, Nat.add_eq_left, Nat.left_eq_add, false_and, and_false, Nat.reduceSub, Nat.sub_self, Nat.le_refl, Nat.zero_le, ge_iff_le, Nat.reduceAdd, Nat.reduceLeDiff, Nat.zero_add, Nat.reduceLT]
    refine hq _ hA0.o6.t8 ?_ ?_
    · simp only [T9, wp_c, wp_n, jj_n, v_ct, Int.reduceToNat, Int.toNat_natCast, stE, wlE, lgt, lpu, lpw, v_c2, va_s, true_and, and_true, Option.toList, List.nil_append, List.cons_append, List.take, List.drop, List.reverse, List.reverseAux, List.length_cons, List.length_nil, reduceCtorEq, false_implies, true_implies, forall_const, not_true_eq_false, not_false_eq_true, ite_true, ite_false, Bool.false_eq_true, I_I, J_J, Nat.add_left_cancel_iff, Nat.reduceEqDiff, Nat.add_eq_left, Nat.left_eq_add, false_and, and_false, Nat.reduceSub, Nat.sub_self, Nat.le_refl, Nat.zero_le, ge_iff_le, Nat.reduceAdd, Nat.reduceLeDiff, Nat.zero_add, Nat.reduceLT, t0, t1, t2, t3, t4, t9]
      simp only [Int32.not_lt.mpr h, wp_c, wp_n, jj_n, v_ct, Int.reduceToNat, Int.toNat_natCast, stE, wlE, lgt, lpu, lpw, v_c2, va_s, true_and, and_true, Option.toList, List.nil_append, List.cons_append, List.take, List.drop, List.reverse, List.reverseAux, List.length_cons, List.length_nil, reduceCtorEq, false_implies, true_implies, forall_const, not_true_eq_false, not_false_eq_true, ite_true, ite_false, Bool.false_eq_true, I_I, J_J, Nat.add_left_cancel_iff, Nat.reduceEqDiff, Nat.add_eq_left, Nat.left_eq_add, false_and, and_false, Nat.reduceSub, Nat.sub_self, Nat.le_refl, Nat.zero_le, ge_iff_le, Nat.reduceAdd, Nat.reduceLeDiff, Nat.zero_add, Nat.reduceLT]
    · exact ((Fr.refl _ _).I (by simp)).I (by simp)
  · refine rt_X4_addCarry_39 ?_
    simp only [wp_c, wp_n, jj_n, v_ct, Int.reduceToNat, Int.toNat_natCast, stE, wlE, lgt, lpu, lpw, v_c2, va_s, true_and, and_true, Option.toList, List.nil_append, List.cons_append, List.take, List.drop, List.reverse, List.reverseAux, List.length_cons, List.length_nil, reduceCtorEq, false_implies, true_implies, forall_const, not_true_eq_false, not_false_eq_true, ite_true, ite_false, Bool.false_eq_true, I_I, J_J, Nat.add_left_cancel_iff, Nat.reduceEqDiff, Nat.add_eq_left, Nat.left_eq_add, false_and, and_false, Nat.reduceSub, Nat.sub_self, Nat.le_refl, Nat.zero_le, ge_iff_le, Nat.reduceAdd, Nat.reduceLeDiff, Nat.zero_add, Nat.reduceLT]
    refine hq _ hA0.o6.t8.t9 ?_ ?_
    · simp only [T9, wp_c, wp_n, jj_n, v_ct, Int.reduceToNat, Int.toNat_natCast, stE, wlE, lgt, lpu, lpw, v_c2, va_s, true_and, and_true, Option.toList, List.nil_append, List.cons_append, List.take, List.drop, List.reverse, List.reverseAux, List.length_cons, List.length_nil, reduceCtorEq, false_implies, true_implies, forall_const, not_true_eq_false, not_false_eq_true, ite_true, ite_false, Bool.false_eq_true, I_I, J_J, Nat.add_left_cancel_iff, Nat.reduceEqDiff, Nat.add_eq_left, Nat.left_eq_add, false_and, and_false, Nat.reduceSub, Nat.sub_self, Nat.le_refl, Nat.zero_le, ge_iff_le, Nat.reduceAdd, Nat.reduceLeDiff, Nat.zero_add, Nat.reduceLT, t0, t1, t2, t3, t4, t9]
      simp only [Int32.not_le.mp h, wp_c, wp_n, jj_n, v_ct, Int.reduceToNat, Int.toNat_natCast, stE, wlE, lgt, lpu, lpw, v_c2, va_s, true_and, and_true, Option.toList, List.nil_append, List.cons_append, List.take, List.drop, List.reverse, List.reverseAux, List.length_cons, List.length_nil, reduceCtorEq, false_implies, true_implies, forall_const, not_true_eq_false, not_false_eq_true, ite_true, ite_false, Bool.false_eq_true, I_I, J_J, Nat.add_left_cancel_iff, Nat.reduceEqDiff, Nat.add_eq_left, Nat.left_eq_add, false_and, and_false, Nat.reduceSub, Nat.sub_self, Nat.le_refl, Nat.zero_le, ge_iff_le, Nat.reduceAdd, Nat.reduceLeDiff, Nat.zero_add, Nat.reduceLT]
    · exact (((Fr.refl _ _).I (by simp)).I (by simp)).I (by simp)
/-! the turn on rows -/
def a_tal (A : Row) (k : Nat) : Row :=
  let B := up A (9 + k) (A (9 + k) + 1)
  up B (14 + k) (B (14 + k) + 1)
def a_lev : Nat → Row → Nat → Int32 → Int32 → Row × Option Nat × Int32
  | 0, A, _, _, l => (A, none, l)
  | n + 1, A, wh, c, l =>
    if A (52 + wh) = 0 then a_lev n A (wh + 1) (Int32.ofInt 0) l
    else if (wh : Int) = A 1 - 1 then a_lev n (up (a_tal A 0) (52 + wh) 0) (wh + 1) (Int32.ofInt 0) l
    else if A (68 + wh) % 2 = 1 ∨ A 4 + A 0 - 1 + A 3 < wh + 1 then a_lev n (up (a_tal A 2) (52 + wh) 0) (wh + 1) (Int32.ofInt 0) l
    else if 2 ≤ A (68 + (wh + 1)) then (up A 17 (A 17 + 1), some wh, l)
    else a_lev n (up (a_tal (a_mv A (wh + 1) 1) 1) (52 + wh) 0) (wh + 1) (c + Int32.ofInt 1) (if l < c + Int32.ofInt 1 then c + Int32.ofInt 1 else l)
/-- what holds all along a turn -/
def TI (A : Row) : Prop := (2 ≤ A 0 ∧ A 0 ≤ 8 ∧ A 0 ≤ A 1 ∧ A 1 ≤ 16 ∧ 2 ≤ A 2 ∧ A 2 ≤ 8 ∧ 0 ≤ A 3 ∧ A 3 ≤ 16 ∧ 0 ≤ A 4 ∧ A 4 + A 0 ≤ A 1) ∧ (A 7 = 1 ∨ A 7 = -1) ∧
  (∀ j, j < 8 → 0 ≤ A (20 + j) ∧ A (20 + j) ≤ 9) ∧ (∀ j, j < 16 → 0 ≤ A (28 + j) ∧ A (28 + j) ≤ 9) ∧ (∀ j, j < 8 → 0 ≤ A (44 + j) ∧ A (44 + j) ≤ 9) ∧ (∀ j, j < 16 → 0 ≤ A (52 + j) ∧ A (52 + j) ≤ 1) ∧ (∀ j, j < 16 → 0 ≤ A (68 + j) ∧ A (68 + j) ≤ 3)
theorem TI.up {A : Row} {i : Nat} {v : Int} (h : TI A) (hi : (5 ≤ i ∧ i ≤ 6) ∨ (8 ≤ i ∧ i < 20) ∨ 84 ≤ i) : TI (up A i v) := by
  obtain ⟨h0, h7, h1, h2, h3, h4, h5⟩ := h
  refine ⟨?_, ?_, fun j hj => ?_, fun j hj => ?_, fun j hj => ?_, fun j hj => ?_, fun j hj => ?_⟩
  · simp only [up_eq]
    rw [if_neg (by omega), if_neg (by omega), if_neg (by omega), if_neg (by omega), if_neg (by omega)]; exact h0
  · rw [up_eq, if_neg (by omega)]; exact h7
  all_goals rw [up_eq, if_neg (by omega)]
  · exact h1 j hj
  · exact h2 j hj
  · exact h3 j hj
  · exact h4 j hj
  · exact h5 j hj
theorem TI.lev {A : Row} {i : Nat} {v : Int} (h : TI A) (hv : 0 ≤ v ∧ v ≤ 1) (hi : i < 16) : TI (Jvm.Pilot.CCrankCalculatorLaw_law_r5314_5e3ffd.up A (52 + i) v) := by
  obtain ⟨h0, h7, h1, h2, h3, h4, h5⟩ := h
  refine ⟨?_, ?_, fun j hj => ?_, fun j hj => ?_, fun j hj => ?_, fun j hj => ?_, fun j hj => ?_⟩
  · simp only [up_eq]
    rw [if_neg (by omega), if_neg (by omega), if_neg (by omega), if_neg (by omega), if_neg (by omega)]; exact h0
  · rw [up_eq, if_neg (by omega)]; exact h7
  all_goals rw [up_eq]
  · rw [if_neg (by omega)]; exact h1 j hj
  · rw [if_neg (by omega)]; exact h2 j hj
  · rw [if_neg (by omega)]; exact h3 j hj
  · split
    · exact hv
    · exact h4 j hj
  · rw [if_neg (by omega)]; exact h5 j hj
theorem TI.dig {A : Row} {i : Nat} {v : Int} (h : TI A) (hv : 0 ≤ v ∧ v ≤ 9) (hi : i < 16) : TI (Jvm.Pilot.CCrankCalculatorLaw_law_r5314_5e3ffd.up A (28 + i) v) := by
  obtain ⟨h0, h7, h1, h2, h3, h4, h5⟩ := h
  refine ⟨?_, ?_, fun j hj => ?_, fun j hj => ?_, fun j hj => ?_, fun j hj => ?_, fun j hj => ?_⟩
  · simp only [up_eq]
    rw [if_neg (by omega), if_neg (by omega), if_neg (by omega), if_neg (by omega), if_neg (by omega)]; exact h0
  · rw [up_eq, if_neg (by omega)]; exact h7
  all_goals rw [up_eq]
  · rw [if_neg (by omega)]; exact h1 j hj
  · split
    · exact hv
    · exact h2 j hj
  · rw [if_neg (by omega)]; exact h3 j hj
  · rw [if_neg (by omega)]; exact h4 j hj
  · rw [if_neg (by omega)]; exact h5 j hj
theorem TI.cnt {A : Row} {i : Nat} {v : Int} (h : TI A) (hv : 0 ≤ v ∧ v ≤ 9) (hi : i < 8) : TI (Jvm.Pilot.CCrankCalculatorLaw_law_r5314_5e3ffd.up A (44 + i) v) := by
  obtain ⟨h0, h7, h1, h2, h3, h4, h5⟩ := h
  refine ⟨?_, ?_, fun j hj => ?_, fun j hj => ?_, fun j hj => ?_, fun j hj => ?_, fun j hj => ?_⟩
  · simp only [up_eq]
    rw [if_neg (by omega), if_neg (by omega), if_neg (by omega), if_neg (by omega), if_neg (by omega)]; exact h0
  · rw [up_eq, if_neg (by omega)]; exact h7
  all_goals rw [up_eq]
  · rw [if_neg (by omega)]; exact h1 j hj
  · rw [if_neg (by omega)]; exact h2 j hj
  · split
    · exact hv
    · exact h3 j hj
  · rw [if_neg (by omega)]; exact h4 j hj
  · rw [if_neg (by omega)]; exact h5 j hj
theorem TI.mv {A : Row} {j : Nat} {m : Int} (h : TI A) (hj : j < 16) (hm : 0 ≤ m ∧ m ≤ 9) : TI (a_mv A j m) := by
  have hd := h.2.2.2.1 j hj
  have hv1 : -9 ≤ A (28 + j) + A 7 * m ∧ A (28 + j) + A 7 * m ≤ 18 := by rcases h.2.1 with q | q <;> rw [q] <;> constructor <;> omega
  have h1 : TI (if A (28 + j) + A 7 * m < 0 ∨ 9 < A (28 + j) + A 7 * m then Jvm.Pilot.CCrankCalculatorLaw_law_r5314_5e3ffd.up A (52 + j) 1 else A) := by
    split
    · exact h.lev ⟨by omega, by omega⟩ hj
    · exact h
  exact ((h1.dig ⟨by omega, by omega⟩ hj).up (by omega)).up (by omega)
theorem TI.tal {A : Row} {k : Nat} (h : TI A) (hk : k < 3) : TI (a_tal A k) := (h.up (by omega)).up (by omega)
/-- a row that agrees in the sizes -/
theorem tal_s (A : Row) (k i : Nat) (hk : k < 3) (hi : i < 9 ∨ 20 ≤ i) : a_tal A k i = A i := by
  simp only [a_tal, up_eq]; rw [if_neg (by omega), if_neg (by omega)]
theorem mv_s (A : Row) (j i : Nat) (m : Int) (hj : j < 16) (hi : i < 28 ∨ (44 ≤ i ∧ i < 52) ∨ (68 ≤ i ∧ i < 84) ∨ 116 ≤ i) : a_mv A j m i = A i := by
  simp only [a_mv, up_eq]
  rw [if_neg (by omega), if_neg (by omega), if_neg (by omega)]
  split
  · rw [up_eq, if_neg (by omega)]
  · rfl
def TQ (w : mW) (b : Nat) (dv : Int) (r : Row × Option Nat × Int32) (Q : mW → mO → Prop) : Prop := ∀ w', MemA w' b r.1 → Fr [b + 2, b + 5, b + 6, b + 9, b + 10, b + 11] w w' → (match r.2.1 with
    | none => (∃ (c' : Int32) (pl : Int), T9 w' b 0 dv (r.1 7) 1 pl c' r.2.2) → Q w' (.inl (some (.int (Int32.ofInt 1))))
    | some k => (∃ c' : Int32, T9 w' b 1 dv (r.1 7) 1 k c' r.2.2) → Q w' (.inl (some (.int (Int32.ofInt 0)))))
theorem TQ.fr {w w1 : mW} {b : Nat} {dv : Int} {r : Row × Option Nat × Int32} {Q : mW → mO → Prop} (h : TQ w b dv r Q) (f : Fr [b + 2, b + 5, b + 6, b + 9, b + 10, b + 11] w w1) : TQ w1 b dv r Q :=
  fun w' h1 h2 => h w' h1 (f.trans h2 (fun _ q => q) (fun _ q => q))
theorem up_self {A : Row} {i : Nat} {v : Int} (h : A i = v) : up A i v = A := by
  funext j; rw [up_eq]; split
  · rename_i e; rw [e, h]
  · rfl
theorem c_lev (b : Nat) (dv : Int) (Q : mW → mO → Prop) : ∀ (n : Nat) (A : Row) (wh : Nat) (c l : Int32) (w : mW) (x : Value), (wh : Int) + n = A 1 → Mb w b → MemA w b A → T9 w b 0 dv (A 7) 1 wh c l → TI A → TQ w b dv (a_lev n A wh c l) Q →
    RT n_X2_releaseLevers 17 [.ref b, .int (Int32.ofInt (A 4 + A 0 - 1 + A 3)), x] [] w (0, 0, false) Q := by
  intro n
  induction n with
  | zero =>
    intro A wh c l w x hn hM hA hT hI hq
    obtain ⟨⟨s0, s1, s2, s3, s4, s5, s6, s7, s8, s9, s10, s11⟩, r6, r7, r8, r9, r10, r11, r12, r13, q2, q10, q11⟩ := hM
    have hA0 := hA
    obtain ⟨⟨b0, b1, b2, b3, b4⟩, a1, a2, a3, a4, a5, a6, a7, a8, a9⟩ := hA
    have hT0 := hT
    obtain ⟨t0, t1, t2, t3, t4, t8, t9⟩ := hT
    have hI0 := hI
    obtain ⟨h0, h7, h1, h2, h3, h4, h5⟩ := hI
    have hw : inR wh := ⟨by omega, by omega⟩
    have hw1 : inR (A 1) := ⟨by omega, by omega⟩
    refine rt_X2_releaseLevers_17 ?_
    simp only [wp_c, wp_n, jj_n, v_ct, Int.reduceToNat, Int.toNat_natCast, stE, wlE, lgt, lpu, lpw, v_c2, va_s, true_and, and_true, Option.toList, List.nil_append, List.cons_append, List.take, List.drop, List.reverse, List.reverseAux, List.length_cons, List.length_nil, reduceCtorEq, false_implies, true_implies, forall_const, not_true_eq_false, not_false_eq_true, ite_true, ite_false, Bool.false_eq_true, I_I, J_J, Nat.add_left_cancel_iff, Nat.reduceEqDiff, Nat.add_eq_left, Nat.left_eq_add, false_and, and_false, Nat.reduceSub, Nat.sub_self, Nat.le_refl, Nat.zero_le, ge_iff_le, Nat.reduceAdd, Nat.reduceLeDiff, Nat.zero_add, Nat.reduceLT, s0, s9, r13, t4, b1, oi_le hw1 hw]
    refine ⟨fun _ => ?_, fun h => absurd (by omega) h⟩
    refine rt_X2_releaseLevers_207 ?_
    simp only [wp_c, wp_n, jj_n, v_ct, Int.reduceToNat, Int.toNat_natCast, stE, wlE, lgt, lpu, lpw, v_c2, va_s, true_and, and_true, Option.toList, List.nil_append, List.cons_append, List.take, List.drop, List.reverse, List.reverseAux, List.length_cons, List.length_nil, reduceCtorEq, false_implies, true_implies, forall_const, not_true_eq_false, not_false_eq_true, ite_true, ite_false, Bool.false_eq_true, I_I, J_J, Nat.add_left_cancel_iff, Nat.reduceEqDiff, Nat.add_eq_left, Nat.left_eq_add, false_and, and_false, Nat.reduceSub, Nat.sub_self, Nat.le_refl, Nat.zero_le, ge_iff_le, Nat.reduceAdd, Nat.reduceLeDiff, Nat.zero_add, Nat.reduceLT, mr_X2_releaseLevers]
    exact ⟨Or.inr rfl, hq w hA0 (Fr.refl _ _) ⟨c, wh, hT0⟩⟩
  | succ n ih =>
    intro A wh c l w x hn hM hA hT hI hq
    have hM0 := hM
    obtain ⟨⟨s0, s1, s2, s3, s4, s5, s6, s7, s8, s9, s10, s11⟩, r6, r7, r8, r9, r10, r11, r12, r13, q2, q10, q11⟩ := hM
    have hA0 := hA
    obtain ⟨⟨b0, b1, b2, b3, b4⟩, a1, a2, a3, a4, a5, a6, a7, a8, a9⟩ := hA
    have hT0 := hT
    obtain ⟨t0, t1, t2, t3, t4, t8, t9⟩ := hT
    have hI0 := hI
    obtain ⟨h0, h7, h1, h2, h3, h4, h5⟩ := hI
    have hw : inR wh := ⟨by omega, by omega⟩
    have hw1 : inR (A 1) := ⟨by omega, by omega⟩
    have hl : wh < 16 := by omega
    have hv52 := h4 wh hl
    have i52 : inR (A (52 + wh)) := ⟨by omega, by omega⟩
    -- a round is over
    have hend : ∀ (A1 : Row) (c1 l1 : Int32) (w1 : mW), A1 0 = A 0 ∧ A1 1 = A 1 ∧ A1 3 = A 3 ∧ A1 4 = A 4 → Fr [b + 2, b + 5, b + 6, b + 9, b + 10, b + 11] w w1 → MemA w1 b A1 → T9 w1 b 0 dv (A1 7) 1 wh c1 l1 → TI A1 → TQ w b dv (a_lev n (up A1 (52 + wh) 0) (wh + 1) c1 l1) Q →
        RT n_X2_releaseLevers 181 [.ref b, .int (Int32.ofInt (A 4 + A 0 - 1 + A 3)), .int (Int32.ofInt wh)] [] w1 (0, 0, false) Q := by
      intro A1 c1 l1 w1 hs f g1 g2 g3 g4
      obtain ⟨u0, u1, u2, u3, u4, u8, u9⟩ := g2
      refine rt_X2_releaseLevers_181 ?_
      simp only [wp_c, wp_n, jj_n, v_ct, Int.reduceToNat, Int.toNat_natCast, stE, wlE, lgt, lpu, lpw, v_c2, va_s, true_and, and_true, Option.toList, List.nil_append, List.cons_append, List.take, List.drop, List.reverse, List.reverseAux, List.length_cons, List.length_nil, reduceCtorEq, false_implies, true_implies, forall_const, not_true_eq_false, not_false_eq_true, ite_true, ite_false, Bool.false_eq_true, I_I, J_J, Nat.add_left_cancel_iff, Nat.reduceEqDiff, Nat.add_eq_left, Nat.left_eq_add, false_and, and_false, Nat.reduceSub, Nat.sub_self, Nat.le_refl, Nat.zero_le, ge_iff_le, Nat.reduceAdd, Nat.reduceLeDiff, Nat.zero_add, Nat.reduceLT, f.1, f.2.1, s0, s9, s10, r13, q10, vp_oi hw, oi_nc hw, u4, oi_add]
      refine ⟨by omega, ?_⟩
      have e := ih (up A1 (52 + wh) 0) (wh + 1) c1 l1 (s_I (s_I w1 (b + 10) wh (vp_nar .boolean (Int32.ofInt 0))) (b + 9) 4 (Int32.ofInt (wh + 1))) (.int (Int32.ofInt wh)) ?_ ?_ ?_ ?_ ?_ ?_
      · have ee : up A1 (52 + wh) 0 4 + up A1 (52 + wh) 0 0 - 1 + up A1 (52 + wh) 0 3 = A 4 + A 0 - 1 + A 3 := by
          simp only [up_eq]; rw [if_neg (by omega), if_neg (by omega), if_neg (by omega)]; omega
        rw [ee] at e
        exact e
      · rw [up_eq, if_neg (by omega)]; omega
      · exact hM0.fr ((f.I (by simp)).I (by simp))
      · exact (g1.lev (v := 0) hl).t4
      · simp only [T9, wp_c, wp_n, jj_n, v_ct, Int.reduceToNat, Int.toNat_natCast, stE, wlE, lgt, lpu, lpw, v_c2, va_s, true_and, and_true, Option.toList, List.nil_append, List.cons_append, List.take, List.drop, List.reverse, List.reverseAux, List.length_cons, List.length_nil, reduceCtorEq, false_implies, true_implies, forall_const, not_true_eq_false, not_false_eq_true, ite_true, ite_false, Bool.false_eq_true, I_I, J_J, Nat.add_left_cancel_iff, Nat.reduceEqDiff, Nat.add_eq_left, Nat.left_eq_add, false_and, and_false, Nat.reduceSub, Nat.sub_self, Nat.le_refl, Nat.zero_le, ge_iff_le, Nat.reduceAdd, Nat.reduceLeDiff, Nat.zero_add, Nat.reduceLT, u0, u1, u2, u3, u8, u9, up_eq]
        rw [if_neg (by omega)]
        exact ⟨rfl, by push_cast; rfl⟩
      · exact g3.lev ⟨by omega, by omega⟩ hl
      · exact g4.fr ((f.I (by simp)).I (by simp))
    refine rt_X2_releaseLevers_17 ?_
    simp only [wp_c, wp_n, jj_n, v_ct, Int.reduceToNat, Int.toNat_natCast, stE, wlE, lgt, lpu, lpw, v_c2, va_s, true_and, and_true, Option.toList, List.nil_append, List.cons_append, List.take, List.drop, List.reverse, List.reverseAux, List.length_cons, List.length_nil, reduceCtorEq, false_implies, true_implies, forall_const, not_true_eq_false, not_false_eq_true, ite_true, ite_false, Bool.false_eq_true, I_I, J_J, Nat.add_left_cancel_iff, Nat.reduceEqDiff, Nat.add_eq_left, Nat.left_eq_add, false_and, and_false, Nat.reduceSub, Nat.sub_self, Nat.le_refl, Nat.zero_le, ge_iff_le, Nat.reduceAdd, Nat.reduceLeDiff, Nat.zero_add, Nat.reduceLT, s0, s9, s10, r13, q10, t4, b1, oi_le hw1 hw, vp_oi hw, oi_nc hw, a8 wh hl, oi_e0 i52]
    refine ⟨fun h => absurd h (by omega), fun _ => ⟨by omega, fun hne => ?_, fun heq => ?_⟩⟩
    · rw [a_lev, if_neg hne] at hq
      have hm1 : inR (A 1 - 1) := ⟨by omega, by omega⟩
      refine rt_X2_releaseLevers_62 ?_
      simp only [wp_c, wp_n, jj_n, v_ct, Int.reduceToNat, Int.toNat_natCast, stE, wlE, lgt, lpu, lpw, v_c2, va_s, true_and, and_true, Option.toList, List.nil_append, List.cons_append, List.take, List.drop, List.reverse, List.reverseAux, List.length_cons, List.length_nil, reduceCtorEq, false_implies, true_implies, forall_const, not_true_eq_false, not_false_eq_true, ite_true, ite_false, Bool.false_eq_true, I_I, J_J, Nat.add_left_cancel_iff, Nat.reduceEqDiff, Nat.add_eq_left, Nat.left_eq_add, false_and, and_false, Nat.reduceSub, Nat.sub_self, Nat.le_refl, Nat.zero_le, ge_iff_le, Nat.reduceAdd, Nat.reduceLeDiff, Nat.zero_add, Nat.reduceLT, s0, s6, s9, r11, r13, b1, oi_sub, oi_eq hw hm1, vp_oi (show inR 2 from ⟨by omega, by omega⟩), oi_nc (show inR 2 from ⟨by omega, by omega⟩), a7.1, a6 2 (by omega), oi_add]
      refine ⟨fun hlast => ?_, fun hlast => ⟨by omega, by omega, ?_⟩⟩
      · rw [if_neg hlast] at hq
        have hbit : (w_I w (b + 4) wh &&& Int32.ofInt 1 = 0) ↔ ¬ A (68 + wh) % 2 = 1 := by
          rw [a4 wh hl]
          have h4 : A (68 + wh) = 0 ∨ A (68 + wh) = 1 ∨ A (68 + wh) = 2 ∨ A (68 + wh) = 3 := by have := h5 wh hl; omega
          rcases h4 with h | h | h | h <;> rw [h] <;> decide
        -- a carry is lost
        have hlost : A (68 + wh) % 2 = 1 ∨ A 4 + A 0 - 1 + A 3 < wh + 1 → RT n_X2_releaseLevers 114 [.ref b, .int (Int32.ofInt (A 4 + A 0 - 1 + A 3)), .int (Int32.ofInt wh)] [] w (0, 0, false) Q := by
          intro hc
          rw [if_pos hc] at hq
          refine rt_X2_releaseLevers_114 ?_
          simp only [wp_c, wp_n, jj_n, v_ct, Int.reduceToNat, Int.toNat_natCast, stE, wlE, lgt, lpu, lpw, v_c2, va_s, true_and, and_true, Option.toList, List.nil_append, List.cons_append, List.take, List.drop, List.reverse, List.reverseAux, List.length_cons, List.length_nil, reduceCtorEq, false_implies, true_implies, forall_const, not_true_eq_false, not_false_eq_true, ite_true, ite_false, Bool.false_eq_true, I_I, J_J, Nat.add_left_cancel_iff, Nat.reduceEqDiff, Nat.add_eq_left, Nat.left_eq_add, false_and, and_false, Nat.reduceSub, Nat.sub_self, Nat.le_refl, Nat.zero_le, ge_iff_le, Nat.reduceAdd, Nat.reduceLeDiff, Nat.zero_add, Nat.reduceLT, s0, s6, s9, r11, r13, vp_oi (show inR 4 from ⟨by omega, by omega⟩), oi_nc (show inR 4 from ⟨by omega, by omega⟩), a7.2.2, a6 4 (by omega), oi_add]
          refine ⟨by omega, by omega, ?_⟩
          have g := fun v => ((hA0.t8 (x := Int32.ofInt 0)).o7 (v := v)).cts (i := 4) (v := A 16 + 1) (by omega)
          refine hend (a_tal A 2) (Int32.ofInt 0) l _ ?_ ?_ (g _) ?_ ?_ hq
          · simp only [tal_s A 2 _ (by omega) (Or.inl (by omega : (0:Nat) < 9)), tal_s A 2 _ (by omega) (Or.inl (by omega : (1:Nat) < 9)), tal_s A 2 _ (by omega) (Or.inl (by omega : (3:Nat) < 9)), tal_s A 2 _ (by omega) (Or.inl (by omega : (4:Nat) < 9))]
            exact ⟨trivial, trivial, trivial, trivial⟩
          · exact (((Fr.refl _ _).I (by simp)).I (by simp)).I (by simp)
          · simp only [T9, wp_c, wp_n, jj_n, v_ct, Int.reduceToNat, Int.toNat_natCast, stE, wlE, lgt, lpu, lpw, v_c2, va_s, true_and, and_true, Option.toList, List.nil_append, List.cons_append, List.take, List.drop, List.reverse, List.reverseAux, List.length_cons, List.length_nil, reduceCtorEq, false_implies, true_implies, forall_const, not_true_eq_false, not_false_eq_true, ite_true, ite_false, Bool.false_eq_true, I_I, J_J, Nat.add_left_cancel_iff, Nat.reduceEqDiff, Nat.add_eq_left, Nat.left_eq_add, false_and, and_false, Nat.reduceSub, Nat.sub_self, Nat.le_refl, Nat.zero_le, ge_iff_le, Nat.reduceAdd, Nat.reduceLeDiff, Nat.zero_add, Nat.reduceLT, t0, t1, t2, t3, t4, t8, t9, tal_s A 2 _ (by omega) (Or.inl (by omega : (7:Nat) < 9))]
          · exact hI0.tal (by omega)
        refine rt_X2_releaseLevers_98 ?_
        simp only [wp_c, wp_n, jj_n, v_ct, Int.reduceToNat, Int.toNat_natCast, stE, wlE, lgt, lpu, lpw, v_c2, va_s, true_and, and_true, Option.toList, List.nil_append, List.cons_append, List.take, List.drop, List.reverse, List.reverseAux, List.length_cons, List.length_nil, reduceCtorEq, false_implies, true_implies, forall_const, not_true_eq_false, not_false_eq_true, ite_true, ite_false, Bool.false_eq_true, I_I, J_J, Nat.add_left_cancel_iff, Nat.reduceEqDiff, Nat.add_eq_left, Nat.left_eq_add, false_and, and_false, Nat.reduceSub, Nat.sub_self, Nat.le_refl, Nat.zero_le, ge_iff_le, Nat.reduceAdd, Nat.reduceLeDiff, Nat.zero_add, Nat.reduceLT, s0, mh_X2_releaseLevers]
        refine c_hasFault hM0 hl ?_
        simp only [wp_c, wp_n, jj_n, v_ct, Int.reduceToNat, Int.toNat_natCast, stE, wlE, lgt, lpu, lpw, v_c2, va_s, true_and, and_true, Option.toList, List.nil_append, List.cons_append, List.take, List.drop, List.reverse, List.reverseAux, List.length_cons, List.length_nil, reduceCtorEq, false_implies, true_implies, forall_const, not_true_eq_false, not_false_eq_true, ite_true, ite_false, Bool.false_eq_true, I_I, J_J, Nat.add_left_cancel_iff, Nat.reduceEqDiff, Nat.add_eq_left, Nat.left_eq_add, false_and, and_false, Nat.reduceSub, Nat.sub_self, Nat.le_refl, Nat.zero_le, ge_iff_le, Nat.reduceAdd, Nat.reduceLeDiff, Nat.zero_add, Nat.reduceLT, hbit]
        by_cases hsl : A (68 + wh) % 2 = 1
        · simp only [hsl, wp_c, wp_n, jj_n, v_ct, Int.reduceToNat, Int.toNat_natCast, stE, wlE, lgt, lpu, lpw, v_c2, va_s, true_and, and_true, Option.toList, List.nil_append, List.cons_append, List.take, List.drop, List.reverse, List.reverseAux, List.length_cons, List.length_nil, reduceCtorEq, false_implies, true_implies, forall_const, not_true_eq_false, not_false_eq_true, ite_true, ite_false, Bool.false_eq_true, I_I, J_J, Nat.add_left_cancel_iff, Nat.reduceEqDiff, Nat.add_eq_left, Nat.left_eq_add, false_and, and_false, Nat.reduceSub, Nat.sub_self, Nat.le_refl, Nat.zero_le, ge_iff_le, Nat.reduceAdd, Nat.reduceLeDiff, Nat.zero_add, Nat.reduceLT]
          exact ⟨fun _ => hlost (Or.inl hsl), fun h => absurd h (by decide)⟩
        · have hwp : inR ((wh : Int) + 1) := ⟨by omega, by omega⟩
          have hh : inR (A 4 + A 0 - 1 + A 3) := ⟨by omega, by omega⟩
          simp only [hsl, wp_c, wp_n, jj_n, v_ct, Int.reduceToNat, Int.toNat_natCast, stE, wlE, lgt, lpu, lpw, v_c2, va_s, true_and, and_true, Option.toList, List.nil_append, List.cons_append, List.take, List.drop, List.reverse, List.reverseAux, List.length_cons, List.length_nil, reduceCtorEq, false_implies, true_implies, forall_const, not_true_eq_false, not_false_eq_true, ite_true, ite_false, Bool.false_eq_true, I_I, J_J, Nat.add_left_cancel_iff, Nat.reduceEqDiff, Nat.add_eq_left, Nat.left_eq_add, false_and, and_false, Nat.reduceSub, Nat.sub_self, Nat.le_refl, Nat.zero_le, ge_iff_le, Nat.reduceAdd, Nat.reduceLeDiff, Nat.zero_add, Nat.reduceLT, oi_add, oi_le hwp hh]
          refine ⟨fun hle => ?_, fun hle => hlost (Or.inr (by omega))⟩
          rw [if_neg (by omega)] at hq
          refine rt_X2_releaseLevers_148 ?_
          simp only [wp_c, wp_n, jj_n, v_ct, Int.reduceToNat, Int.toNat_natCast, stE, wlE, lgt, lpu, lpw, v_c2, va_s, true_and, and_true, Option.toList, List.nil_append, List.cons_append, List.take, List.drop, List.reverse, List.reverseAux, List.length_cons, List.length_nil, reduceCtorEq, false_implies, true_implies, forall_const, not_true_eq_false, not_false_eq_true, ite_true, ite_false, Bool.false_eq_true, I_I, J_J, Nat.add_left_cancel_iff, Nat.reduceEqDiff, Nat.add_eq_left, Nat.left_eq_add, false_and, and_false, Nat.reduceSub, Nat.sub_self, Nat.le_refl, Nat.zero_le, ge_iff_le, Nat.reduceAdd, Nat.reduceLeDiff, Nat.zero_add, Nat.reduceLT, s0, mh_X2_releaseLevers, oi_add]
          have e1 : ((wh : Int) + 1) = ((wh + 1 : Nat) : Int) := by push_cast; rfl
          rw [e1]
          have hl1 : wh + 1 < 16 := by omega
          refine c_move hM0 hA0 t2 hl1 ⟨by omega, by omega⟩ h7 (h2 _ hl1) (h5 _ hl1) (fun hst w1 g1 f1 => ?_) (fun hst w1 g1 f1 k0 k1 _ => ?_)
          · rw [if_neg (by omega)] at hq
            have m7 : a_mv A (wh + 1) 1 7 = A 7 := mv_s A _ _ _ hl1 (by omega)
            have f19 : ∀ i, w_I w1 (b + 9) i = w_I w (b + 9) i := fun i => by rw [(f1.2.2.2 (b + 9) (by simp)).1]
            have hT1 : T9 w1 b 0 dv (A 7) 1 wh c l := ⟨(f19 _).trans t0, (f19 _).trans t1, (f19 _).trans t2, (f19 _).trans t3, (f19 _).trans t4, (f19 _).trans t8, (f19 _).trans t9⟩
            simp only [wp_c, wp_n, jj_n, v_ct, Int.reduceToNat, Int.toNat_natCast, stE, wlE, lgt, lpu, lpw, v_c2, va_s, true_and, and_true, Option.toList, List.nil_append, List.cons_append, List.take, List.drop, List.reverse, List.reverseAux, List.length_cons, List.length_nil, reduceCtorEq, false_implies, true_implies, forall_const, not_true_eq_false, not_false_eq_true, ite_true, ite_false, Bool.false_eq_true, I_I, J_J, Nat.add_left_cancel_iff, Nat.reduceEqDiff, Nat.add_eq_left, Nat.left_eq_add, false_and, and_false, Nat.reduceSub, Nat.sub_self, Nat.le_refl, Nat.zero_le, ge_iff_le, Nat.reduceAdd, Nat.reduceLeDiff, Nat.zero_add, Nat.reduceLT, f1.1, f1.2.1, s0, r13]
            refine ⟨fun h => absurd h (by decide), fun _ => ⟨s9, c_addCarry (hM0.fr f1) g1 hT1 fun w2 g2 hT2 f2 => ?_⟩⟩
            have g3 := fun v => g2.cts (i := 3) (v := v) (by omega)
            simp only [wp_c, wp_n, jj_n, v_ct, Int.reduceToNat, Int.toNat_natCast, stE, wlE, lgt, lpu, lpw, v_c2, va_s, true_and, and_true, Option.toList, List.nil_append, List.cons_append, List.take, List.drop, List.reverse, List.reverseAux, List.length_cons, List.length_nil, reduceCtorEq, false_implies, true_implies, forall_const, not_true_eq_false, not_false_eq_true, ite_true, ite_false, Bool.false_eq_true, I_I, J_J, Nat.add_left_cancel_iff, Nat.reduceEqDiff, Nat.add_eq_left, Nat.left_eq_add, false_and, and_false, Nat.reduceSub, Nat.sub_self, Nat.le_refl, Nat.zero_le, ge_iff_le, Nat.reduceAdd, Nat.reduceLeDiff, Nat.zero_add, Nat.reduceLT, f2.1, f2.2.1, f1.1, f1.2.1, s0, s6, r11, vp_oi (show inR 3 from ⟨by omega, by omega⟩), oi_nc (show inR 3 from ⟨by omega, by omega⟩), g2.r_cts (show 3 < 6 by omega), oi_add]
            refine ⟨by omega, by omega, ?_⟩
            refine hend (a_tal (a_mv A (wh + 1) 1) 1) _ _ _ ?_ ?_ (g3 _) ?_ ?_ hq
            · refine ⟨?_, ?_, ?_, ?_⟩ <;> rw [tal_s _ 1 _ (by omega) (by omega), mv_s _ _ _ _ hl1 (by omega)]
            · exact Fr.I (Fr.trans f1 f2 (by simp) (by simp)) (by simp)
            · obtain ⟨u0, u1, u2, u3, u4, u8, u9⟩ := hT2
              simp only [T9, wp_c, wp_n, jj_n, v_ct, Int.reduceToNat, Int.toNat_natCast, stE, wlE, lgt, lpu, lpw, v_c2, va_s, true_and, and_true, Option.toList, List.nil_append, List.cons_append, List.take, List.drop, List.reverse, List.reverseAux, List.length_cons, List.length_nil, reduceCtorEq, false_implies, true_implies, forall_const, not_true_eq_false, not_false_eq_true, ite_true, ite_false, Bool.false_eq_true, I_I, J_J, Nat.add_left_cancel_iff, Nat.reduceEqDiff, Nat.add_eq_left, Nat.left_eq_add, false_and, and_false, Nat.reduceSub, Nat.sub_self, Nat.le_refl, Nat.zero_le, ge_iff_le, Nat.reduceAdd, Nat.reduceLeDiff, Nat.zero_add, Nat.reduceLT, u0, u1, u2, u3, u4, u8, u9]
              rw [tal_s _ 1 _ (by omega) (by omega), m7]
            · exact (hI0.mv hl1 ⟨by omega, by omega⟩).tal (by omega)
          · rw [if_pos (by omega)] at hq
            simp only [wp_c, wp_n, jj_n, v_ct, Int.reduceToNat, Int.toNat_natCast, stE, wlE, lgt, lpu, lpw, v_c2, va_s, true_and, and_true, Option.toList, List.nil_append, List.cons_append, List.take, List.drop, List.reverse, List.reverseAux, List.length_cons, List.length_nil, reduceCtorEq, false_implies, true_implies, forall_const, not_true_eq_false, not_false_eq_true, ite_true, ite_false, Bool.false_eq_true, I_I, J_J, Nat.add_left_cancel_iff, Nat.reduceEqDiff, Nat.add_eq_left, Nat.left_eq_add, false_and, and_false, Nat.reduceSub, Nat.sub_self, Nat.le_refl, Nat.zero_le, ge_iff_le, Nat.reduceAdd, Nat.reduceLeDiff, Nat.zero_add, Nat.reduceLT]
            refine ⟨fun _ => ?_, fun h => absurd rfl h⟩
            refine rt_X2_releaseLevers_179 ?_
            simp only [wp_c, wp_n, jj_n, v_ct, Int.reduceToNat, Int.toNat_natCast, stE, wlE, lgt, lpu, lpw, v_c2, va_s, true_and, and_true, Option.toList, List.nil_append, List.cons_append, List.take, List.drop, List.reverse, List.reverseAux, List.length_cons, List.length_nil, reduceCtorEq, false_implies, true_implies, forall_const, not_true_eq_false, not_false_eq_true, ite_true, ite_false, Bool.false_eq_true, I_I, J_J, Nat.add_left_cancel_iff, Nat.reduceEqDiff, Nat.add_eq_left, Nat.left_eq_add, false_and, and_false, Nat.reduceSub, Nat.sub_self, Nat.le_refl, Nat.zero_le, ge_iff_le, Nat.reduceAdd, Nat.reduceLeDiff, Nat.zero_add, Nat.reduceLT, mr_X2_releaseLevers]
            refine ⟨Or.inl rfl, hq w1 g1 (f1.mono (by simp)) ⟨c, k0, ?_, ?_, ?_, ?_, ?_, ?_⟩⟩
            · exact (k1 1 (by omega)).trans t1
            · exact (k1 2 (by omega)).trans (t2.trans (by show _ = Int32.ofInt (up A 17 (A 17 + 1) 7); rw [up_eq, if_neg (by omega)]))
            · exact (k1 3 (by omega)).trans t3
            · exact (k1 4 (by omega)).trans t4
            · exact (k1 8 (by omega)).trans t8
            · exact (k1 9 (by omega)).trans t9
      · have hlast : (wh : Int) = A 1 - 1 := by omega
        rw [if_pos hlast] at hq
        have g := fun v => (hA0.o5 (v := v)).cts (i := 2) (v := A 14 + 1) (by omega)
        refine hend (a_tal A 0) c l _ ?_ ?_ (g _) ?_ ?_ ?_
        · simp only [tal_s A 0 _ (by omega) (Or.inl (by omega : (0:Nat) < 9)), tal_s A 0 _ (by omega) (Or.inl (by omega : (1:Nat) < 9)), tal_s A 0 _ (by omega) (Or.inl (by omega : (3:Nat) < 9)), tal_s A 0 _ (by omega) (Or.inl (by omega : (4:Nat) < 9))]
          exact ⟨trivial, trivial, trivial, trivial⟩
        · exact ((Fr.refl _ _).I (by simp)).I (by simp)
        · simp only [T9, wp_c, wp_n, jj_n, v_ct, Int.reduceToNat, Int.toNat_natCast, stE, wlE, lgt, lpu, lpw, v_c2, va_s, true_and, and_true, Option.toList, List.nil_append, List.cons_append, List.take, List.drop, List.reverse, List.reverseAux, List.length_cons, List.length_nil, reduceCtorEq, false_implies, true_implies, forall_const, not_true_eq_false, not_false_eq_true, ite_true, ite_false, Bool.false_eq_true, I_I, J_J, Nat.add_left_cancel_iff, Nat.reduceEqDiff, Nat.add_eq_left, Nat.left_eq_add, false_and, and_false, Nat.reduceSub, Nat.sub_self, Nat.le_refl, Nat.zero_le, ge_iff_le, Nat.reduceAdd, Nat.reduceLeDiff, Nat.zero_add, Nat.reduceLT, t0, t1, t2, t3, t4, t8, t9, tal_s A 0 _ (by omega) (Or.inl (by omega : (7:Nat) < 9))]
        · exact hI0.tal (by omega)
        · have hn0 : n = 0 := by omega
          subst hn0
          exact hq
    · have hz : A (52 + wh) = 0 := by omega
      rw [a_lev, if_pos hz] at hq
      refine hend A (Int32.ofInt 0) l _ ⟨rfl, rfl, rfl, rfl⟩ ((Fr.refl _ _).I (by simp)) hA0.t8 ?_ hI0 ?_
      · simp only [T9, wp_c, wp_n, jj_n, v_ct, Int.reduceToNat, Int.toNat_natCast, stE, wlE, lgt, lpu, lpw, v_c2, va_s, true_and, and_true, Option.toList, List.nil_append, List.cons_append, List.take, List.drop, List.reverse, List.reverseAux, List.length_cons, List.length_nil, reduceCtorEq, false_implies, true_implies, forall_const, not_true_eq_false, not_false_eq_true, ite_true, ite_false, Bool.false_eq_true, I_I, J_J, Nat.add_left_cancel_iff, Nat.reduceEqDiff, Nat.add_eq_left, Nat.left_eq_add, false_and, and_false, Nat.reduceSub, Nat.sub_self, Nat.le_refl, Nat.zero_le, ge_iff_le, Nat.reduceAdd, Nat.reduceLeDiff, Nat.zero_add, Nat.reduceLT, t0, t1, t2, t3, t4, t9]
      · rw [up_self hz]; exact hq
def a_pins : Nat → Row → Nat → Row × Option Nat
  | 0, A, _ => (A, none)
  | n + 1, A, p => if A (20 + p) = 0 then a_pins n A (p + 1)
    else if 2 ≤ A (68 + ((A 4).toNat + p)) then (up A 17 (A 17 + 1), some p)
    else a_pins n (a_mv A ((A 4).toNat + p) (A (20 + p))) (p + 1)
def PQ (w : mW) (b : Nat) (dv p4 : Int) (c l : Int32) (r : Row × Option Nat) (Q : mW → mO → Prop) : Prop := ∀ w', MemA w' b r.1 → Fr [b + 2, b + 5, b + 6, b + 9, b + 10, b + 11] w w' → (match r.2 with
    | none => T9 w' b 0 dv (r.1 7) 1 p4 c l → Q w' (.inl (some (.int (Int32.ofInt 1))))
    | some k => T9 w' b 1 dv (r.1 7) 0 k c l → Q w' (.inl (some (.int (Int32.ofInt 0)))))
theorem PQ.fr {w w1 : mW} {b : Nat} {dv p4 : Int} {c l : Int32} {r : Row × Option Nat} {Q : mW → mO → Prop} (h : PQ w b dv p4 c l r Q) (f : Fr [b + 2, b + 5, b + 6, b + 9, b + 10, b + 11] w w1) : PQ w1 b dv p4 c l r Q :=
  fun w' h1 h2 => h w' h1 (f.trans h2 (fun _ q => q) (fun _ q => q))
theorem c_pins (b : Nat) (dv p4 : Int) (c l : Int32) (Q : mW → mO → Prop) : ∀ (n : Nat) (A : Row) (p : Nat) (w : mW) (x : Value), (p : Int) + n = A 0 → A 4 = p4 → Mb w b → MemA w b A → T9 w b 0 dv (A 7) 0 p c l → TI A → PQ w b dv p4 c l (a_pins n A p) Q →
    RT n_X2_movePins 0 [.ref b, x] [] w (0, 0, false) Q := by
  intro n
  induction n with
  | zero =>
    intro A p w x hn hp4 hM hA hT hI hq
    obtain ⟨⟨s0, s1, s2, s3, s4, s5, s6, s7, s8, s9, s10, s11⟩, r6, r7, r8, r9, r10, r11, r12, r13, q2, q10, q11⟩ := hM
    have hA0 := hA
    obtain ⟨⟨b0, b1, b2, b3, b4⟩, a1, a2, a3, a4, a5, a6, a7, a8, a9⟩ := hA
    obtain ⟨t0, t1, t2, t3, t4, t8, t9⟩ := hT
    have hI0 := hI
    obtain ⟨h0, h7, h1, h2, h3, h4, h5⟩ := hI
    have hw : inR p := ⟨by omega, by omega⟩
    have hw1 : inR (A 0) := ⟨by omega, by omega⟩
    refine rt_X2_movePins_0 ?_
    simp only [wp_c, wp_n, jj_n, v_ct, Int.reduceToNat, Int.toNat_natCast, stE, wlE, lgt, lpu, lpw, v_c2, va_s, true_and, and_true, Option.toList, List.nil_append, List.cons_append, List.take, List.drop, List.reverse, List.reverseAux, List.length_cons, List.length_nil, reduceCtorEq, false_implies, true_implies, forall_const, not_true_eq_false, not_false_eq_true, ite_true, ite_false, Bool.false_eq_true, I_I, J_J, Nat.add_left_cancel_iff, Nat.reduceEqDiff, Nat.add_eq_left, Nat.left_eq_add, false_and, and_false, Nat.reduceSub, Nat.sub_self, Nat.le_refl, Nat.zero_le, ge_iff_le, Nat.reduceAdd, Nat.reduceLeDiff, Nat.zero_add, Nat.reduceLT, s0, s9, r13, t4, b0, oi_le hw1 hw]
    refine ⟨fun _ => ?_, fun h => absurd (by omega) h⟩
    refine rt_X2_movePins_69 ?_
    simp only [wp_c, wp_n, jj_n, v_ct, Int.reduceToNat, Int.toNat_natCast, stE, wlE, lgt, lpu, lpw, v_c2, va_s, true_and, and_true, Option.toList, List.nil_append, List.cons_append, List.take, List.drop, List.reverse, List.reverseAux, List.length_cons, List.length_nil, reduceCtorEq, false_implies, true_implies, forall_const, not_true_eq_false, not_false_eq_true, ite_true, ite_false, Bool.false_eq_true, I_I, J_J, Nat.add_left_cancel_iff, Nat.reduceEqDiff, Nat.add_eq_left, Nat.left_eq_add, false_and, and_false, Nat.reduceSub, Nat.sub_self, Nat.le_refl, Nat.zero_le, ge_iff_le, Nat.reduceAdd, Nat.reduceLeDiff, Nat.zero_add, Nat.reduceLT, s0, s9, r13, b4, mr_X2_movePins]
    refine ⟨Or.inr rfl, hq _ hA0.t3.t4 (((Fr.refl _ _).I (by simp)).I (by simp)) ?_⟩
    refine ⟨?_, ?_, ?_, ?_, ?_, ?_, ?_⟩ <;> simp only [wp_c, wp_n, jj_n, v_ct, Int.reduceToNat, Int.toNat_natCast, stE, wlE, lgt, lpu, lpw, v_c2, va_s, true_and, and_true, Option.toList, List.nil_append, List.cons_append, List.take, List.drop, List.reverse, List.reverseAux, List.length_cons, List.length_nil, reduceCtorEq, false_implies, true_implies, forall_const, not_true_eq_false, not_false_eq_true, ite_true, ite_false, Bool.false_eq_true, I_I, J_J, Nat.add_left_cancel_iff, Nat.reduceEqDiff, Nat.add_eq_left, Nat.left_eq_add, false_and, and_false, Nat.reduceSub, Nat.sub_self, Nat.le_refl, Nat.zero_le, ge_iff_le, Nat.reduceAdd, Nat.reduceLeDiff, Nat.zero_add, Nat.reduceLT, t0, t1, t2, t8, t9, hp4, a_pins]
  | succ n ih =>
    intro A p w x hn h4 hM hA hT hI hq
    have hM0 := hM
    obtain ⟨⟨s0, s1, s2, s3, s4, s5, s6, s7, s8, s9, s10, s11⟩, r6, r7, r8, r9, r10, r11, r12, r13, q2, q10, q11⟩ := hM
    have hA0 := hA
    obtain ⟨⟨b0, b1, b2, b3, b4⟩, a1, a2, a3, a4, a5, a6, a7, a8, a9⟩ := hA
    have hT0 := hT
    obtain ⟨t0, t1, t2, t3, t4, t8, t9⟩ := hT
    have hI0 := hI
    obtain ⟨h0, h7, h1, h2, h3, h4', h5⟩ := hI
    have hw : inR p := ⟨by omega, by omega⟩
    have hw1 : inR (A 0) := ⟨by omega, by omega⟩
    have hl : p < 8 := by omega
    have hpv := h1 p hl
    have hwv : inR (A (20 + p)) := ⟨by omega, by omega⟩
    refine rt_X2_movePins_0 ?_
    simp only [wp_c, wp_n, jj_n, v_ct, Int.reduceToNat, Int.toNat_natCast, stE, wlE, lgt, lpu, lpw, v_c2, va_s, true_and, and_true, Option.toList, List.nil_append, List.cons_append, List.take, List.drop, List.reverse, List.reverseAux, List.length_cons, List.length_nil, reduceCtorEq, false_implies, true_implies, forall_const, not_true_eq_false, not_false_eq_true, ite_true, ite_false, Bool.false_eq_true, I_I, J_J, Nat.add_left_cancel_iff, Nat.reduceEqDiff, Nat.add_eq_left, Nat.left_eq_add, false_and, and_false, Nat.reduceSub, Nat.sub_self, Nat.le_refl, Nat.zero_le, ge_iff_le, Nat.reduceAdd, Nat.reduceLeDiff, Nat.zero_add, Nat.reduceLT, s0, s1, s9, r6, r13, t4, b0, b4, oi_le hw1 hw, vp_oi hw, oi_nc hw, a1 p hl, oi_le0 hwv, oi_add, mh_X2_movePins]
    -- the next pin
    have hnx : ∀ (A1 : Row) (w1 : mW), A1 0 = A 0 ∧ A1 4 = A 4 → Fr [b + 2, b + 5, b + 6, b + 9, b + 10, b + 11] w w1 → MemA w1 b A1 → T9 w1 b 0 dv (A1 7) 0 p c l → TI A1 → PQ w b dv p4 c l (a_pins n A1 (p + 1)) Q →
        RT n_X2_movePins 53 [.ref b, .int (Int32.ofInt (A (20 + p)))] [] w1 (0, 0, false) Q := by
      intro A1 w1 hs f g1 g2 g3 g4
      obtain ⟨u0, u1, u2, u3, u4, u8, u9⟩ := g2
      refine rt_X2_movePins_53 ?_
      simp only [wp_c, wp_n, jj_n, v_ct, Int.reduceToNat, Int.toNat_natCast, stE, wlE, lgt, lpu, lpw, v_c2, va_s, true_and, and_true, Option.toList, List.nil_append, List.cons_append, List.take, List.drop, List.reverse, List.reverseAux, List.length_cons, List.length_nil, reduceCtorEq, false_implies, true_implies, forall_const, not_true_eq_false, not_false_eq_true, ite_true, ite_false, Bool.false_eq_true, I_I, J_J, Nat.add_left_cancel_iff, Nat.reduceEqDiff, Nat.add_eq_left, Nat.left_eq_add, false_and, and_false, Nat.reduceSub, Nat.sub_self, Nat.le_refl, Nat.zero_le, ge_iff_le, Nat.reduceAdd, Nat.reduceLeDiff, Nat.zero_add, Nat.reduceLT, f.1, f.2.1, s0, s9, r13, u4, oi_add]
      refine ih A1 (p + 1) _ _ (by omega) (by omega) (hM0.fr (f.I (by simp))) g1.t4 ?_ g3 (g4.fr (f.I (by simp)))
      refine ⟨?_, ?_, ?_, ?_, ?_, ?_, ?_⟩ <;> simp only [wp_c, wp_n, jj_n, v_ct, Int.reduceToNat, Int.toNat_natCast, stE, wlE, lgt, lpu, lpw, v_c2, va_s, true_and, and_true, Option.toList, List.nil_append, List.cons_append, List.take, List.drop, List.reverse, List.reverseAux, List.length_cons, List.length_nil, reduceCtorEq, false_implies, true_implies, forall_const, not_true_eq_false, not_false_eq_true, ite_true, ite_false, Bool.false_eq_true, I_I, J_J, Nat.add_left_cancel_iff, Nat.reduceEqDiff, Nat.add_eq_left, Nat.left_eq_add, false_and, and_false, Nat.reduceSub, Nat.sub_self, Nat.le_refl, Nat.zero_le, ge_iff_le, Nat.reduceAdd, Nat.reduceLeDiff, Nat.zero_add, Nat.reduceLT, u0, u1, u2, u3, u8, u9]
      push_cast; rfl
    refine ⟨fun h => absurd h (by omega), fun _ => ⟨by omega, fun hz => ?_, fun hz => ?_⟩⟩
    · rw [a_pins, if_pos (by omega)] at hq
      exact hnx A w ⟨rfl, rfl⟩ (Fr.refl _ _) hA0 hT0 hI0 hq
    · rw [a_pins, if_neg (by omega)] at hq
      have ej : A 4 + (p : Int) = (((A 4).toNat + p : Nat) : Int) := by omega
      have hj : (A 4).toNat + p < 16 := by omega
      rw [ej]
      refine c_move hM0 hA0 t2 hj ⟨by omega, by omega⟩ h7 (h2 _ hj) (h5 _ hj) (fun hst w1 g1 f1 => ?_) (fun hst w1 g1 f1 k0 k1 _ => ?_)
      · rw [if_neg (by omega)] at hq
        have f19 : ∀ i, w_I w1 (b + 9) i = w_I w (b + 9) i := fun i => by rw [(f1.2.2.2 (b + 9) (by simp)).1]
        simp only [wp_c, wp_n, jj_n, v_ct, Int.reduceToNat, Int.toNat_natCast, stE, wlE, lgt, lpu, lpw, v_c2, va_s, true_and, and_true, Option.toList, List.nil_append, List.cons_append, List.take, List.drop, List.reverse, List.reverseAux, List.length_cons, List.length_nil, reduceCtorEq, false_implies, true_implies, forall_const, not_true_eq_false, not_false_eq_true, ite_true, ite_false, Bool.false_eq_true, I_I, J_J, Nat.add_left_cancel_iff, Nat.reduceEqDiff, Nat.add_eq_left, Nat.left_eq_add, false_and, and_false, Nat.reduceSub, Nat.sub_self, Nat.le_refl, Nat.zero_le, ge_iff_le, Nat.reduceAdd, Nat.reduceLeDiff, Nat.zero_add, Nat.reduceLT]
        refine ⟨fun _ => hnx _ w1 ⟨mv_s _ _ _ _ hj (by omega), mv_s _ _ _ _ hj (by omega)⟩ (f1.mono (by simp)) g1 ?_ (hI0.mv hj ⟨by omega, by omega⟩) hq, fun h => absurd (by decide) h⟩
        rw [mv_s _ _ _ _ hj (by omega)]
        exact ⟨(f19 _).trans t0, (f19 _).trans t1, (f19 _).trans t2, (f19 _).trans t3, (f19 _).trans t4, (f19 _).trans t8, (f19 _).trans t9⟩
      · rw [if_pos (by omega)] at hq
        simp only [wp_c, wp_n, jj_n, v_ct, Int.reduceToNat, Int.toNat_natCast, stE, wlE, lgt, lpu, lpw, v_c2, va_s, true_and, and_true, Option.toList, List.nil_append, List.cons_append, List.take, List.drop, List.reverse, List.reverseAux, List.length_cons, List.length_nil, reduceCtorEq, false_implies, true_implies, forall_const, not_true_eq_false, not_false_eq_true, ite_true, ite_false, Bool.false_eq_true, I_I, J_J, Nat.add_left_cancel_iff, Nat.reduceEqDiff, Nat.add_eq_left, Nat.left_eq_add, false_and, and_false, Nat.reduceSub, Nat.sub_self, Nat.le_refl, Nat.zero_le, ge_iff_le, Nat.reduceAdd, Nat.reduceLeDiff, Nat.zero_add, Nat.reduceLT, mr_X2_movePins]
        refine ⟨fun h => absurd rfl h, fun _ => ⟨Or.inl rfl, hq w1 g1 (f1.mono (by simp)) ⟨k0, (k1 1 (by omega)).trans t1, (k1 2 (by omega)).trans (t2.trans ?_), (k1 3 (by omega)).trans t3, (k1 4 (by omega)).trans t4, (k1 8 (by omega)).trans t8, (k1 9 (by omega)).trans t9⟩⟩⟩
        show _ = Int32.ofInt (up A 17 (A 17 + 1) 7)
        rw [up_eq, if_neg (by omega)]
theorem lo_add (a b : Int) : Int64.ofInt a + Int64.ofInt b = Int64.ofInt (a + b) := (Int64.ofInt_add a b).symm
theorem lo_sub (a b : Int) : Int64.ofInt a - Int64.ofInt b = Int64.ofInt (a - b) := (Int64.ofInt_sub a b).symm
theorem lo_mul (a b : Int) : Int64.ofInt a * Int64.ofInt b = Int64.ofInt (a * b) := (Int64.ofInt_mul a b).symm
theorem lo_nat (n : Nat) : Int64.ofNat n = Int64.ofInt n := (Int64.ofInt_eq_ofNat).symm
theorem lo_0 : (0 : Int64) = Int64.ofInt 0 := rfl
theorem lo_i {a : Int} (h : inR a) : (Int32.ofInt a).toInt64 = Int64.ofInt a := by
  rw [← Int64.toInt_inj, Int32.toInt_toInt64, oi_to h, Int64.toInt_ofInt_of_le (by have := h.1; omega) (by have := h.2; omega)]
/-- digits as a number, from the top -/
def hn (f : Nat → Int) : Nat → Int → Int
  | 0, v => v
  | k + 1, v => hn f k (v * 10 + f k)
theorem c_numOf_7 {r n N : Nat} {f : Nat → Int} {w : mW} {Q : mW → mO → Prop} (hs : w_sh w r = (1, N)) (hn0 : n ≤ N) (hN : N < 1000) (hf : ∀ i, i < n → w_I w r i = Int32.ofInt (f i) ∧ inR (f i)) : ∀ (k : Nat) (v : Int), k ≤ n → Q w (.inl (some (.long (Int64.ofInt (hn f k v))))) →
    RT n_X2_numberOf 7 [.ref r, .int (Int32.ofInt n), .long (Int64.ofInt v), .null, .int (Int32.ofInt ((k : Int) - 1))] [] w (0, 0, false) Q := by
  intro k
  induction k with
  | zero =>
    intro v hk hq
    have hR : inR ((0 : Nat) - 1 : Int) := ⟨by omega, by omega⟩
    refine rt_X2_numberOf_7 ?_
    simp only [wp_c, wp_n, jj_n, v_ct, Int.reduceToNat, Int.toNat_natCast, stE, wlE, lgt, lpu, lpw, v_c2, va_s, true_and, and_true, Option.toList, List.nil_append, List.cons_append, List.take, List.drop, List.reverse, List.reverseAux, List.length_cons, List.length_nil, reduceCtorEq, false_implies, true_implies, forall_const, not_true_eq_false, not_false_eq_true, ite_true, ite_false, Bool.false_eq_true, I_I, J_J, Nat.add_left_cancel_iff, Nat.reduceEqDiff, Nat.add_eq_left, Nat.left_eq_add, false_and, and_false, Nat.reduceSub, Nat.sub_self, Nat.le_refl, Nat.zero_le, ge_iff_le, Nat.reduceAdd, Nat.reduceLeDiff, Nat.zero_add, Nat.reduceLT, oi_l0 hR]
    refine ⟨fun _ => ?_, fun h => absurd (by omega) h⟩
    refine rt_X2_numberOf_30 ?_
    simp only [wp_c, wp_n, jj_n, v_ct, Int.reduceToNat, Int.toNat_natCast, stE, wlE, lgt, lpu, lpw, v_c2, va_s, true_and, and_true, Option.toList, List.nil_append, List.cons_append, List.take, List.drop, List.reverse, List.reverseAux, List.length_cons, List.length_nil, reduceCtorEq, false_implies, true_implies, forall_const, not_true_eq_false, not_false_eq_true, ite_true, ite_false, Bool.false_eq_true, I_I, J_J, Nat.add_left_cancel_iff, Nat.reduceEqDiff, Nat.add_eq_left, Nat.left_eq_add, false_and, and_false, Nat.reduceSub, Nat.sub_self, Nat.le_refl, Nat.zero_le, ge_iff_le, Nat.reduceAdd, Nat.reduceLeDiff, Nat.zero_add, Nat.reduceLT]
    exact hq
  | succ k ih =>
    intro v hk hq
    have hR : inR (((k + 1 : Nat) : Int) - 1) := ⟨by omega, by omega⟩
    have hk1 : (((k + 1 : Nat) : Int) - 1) = (k : Int) := by omega
    have hR1 : inR (k : Int) := ⟨by omega, by omega⟩
    obtain ⟨e1, e2⟩ := hf k (by omega)
    refine rt_X2_numberOf_7 ?_
    rw [hk1]
    simp only [wp_c, wp_n, jj_n, v_ct, Int.reduceToNat, Int.toNat_natCast, stE, wlE, lgt, lpu, lpw, v_c2, va_s, true_and, and_true, Option.toList, List.nil_append, List.cons_append, List.take, List.drop, List.reverse, List.reverseAux, List.length_cons, List.length_nil, reduceCtorEq, false_implies, true_implies, forall_const, not_true_eq_false, not_false_eq_true, ite_true, ite_false, Bool.false_eq_true, I_I, J_J, Nat.add_left_cancel_iff, Nat.reduceEqDiff, Nat.add_eq_left, Nat.left_eq_add, false_and, and_false, Nat.reduceSub, Nat.sub_self, Nat.le_refl, Nat.zero_le, ge_iff_le, Nat.reduceAdd, Nat.reduceLeDiff, Nat.zero_add, Nat.reduceLT, oi_l0 hR1, hs, vp_oi hR1, oi_nc hR1, e1, lo_i e2, lo_nat, lo_mul, lo_add, oi_add]
    refine ⟨fun h => absurd h (by omega), fun _ => ⟨by omega, ?_⟩⟩
    exact ih _ (by omega) hq
theorem c_numOf {r n N : Nat} {f : Nat → Int} {w : mW} {Q : mW → mO → Prop} (hs : w_sh w r = (1, N)) (hn0 : n ≤ N) (hN : N < 1000) (hf : ∀ i, i < n → w_I w r i = Int32.ofInt (f i) ∧ inR (f i)) (hq : Q w (.inl (some (.long (Int64.ofInt (hn f n 0)))))) : CT n_X2_numberOf [.ref r, .int (Int32.ofInt n)] w Q := by
  refine ct_X2_numberOf (rt_X2_numberOf_0 ?_)
  simp only [wp_c, wp_n, jj_n, v_ct, Int.reduceToNat, Int.toNat_natCast, stE, wlE, lgt, lpu, lpw, v_c2, va_s, true_and, and_true, Option.toList, List.nil_append, List.cons_append, List.take, List.drop, List.reverse, List.reverseAux, List.length_cons, List.length_nil, reduceCtorEq, false_implies, true_implies, forall_const, not_true_eq_false, not_false_eq_true, ite_true, ite_false, Bool.false_eq_true, I_I, J_J, Nat.add_left_cancel_iff, Nat.reduceEqDiff, Nat.add_eq_left, Nat.left_eq_add, false_and, and_false, Nat.reduceSub, Nat.sub_self, Nat.le_refl, Nat.zero_le, ge_iff_le, Nat.reduceAdd, Nat.reduceLeDiff, Nat.zero_add, Nat.reduceLT, oi_sub, lo_0]
  exact c_numOf_7 hs hn0 hN hf n 0 (by omega) hq
def a_cnt : Nat → Row → Nat → Int → Row
  | 0, A, _, _ => A
  | n + 1, A, wh, way =>
    let B := up A (44 + wh) ((A (44 + wh) + way + 10) % 10)
    if A (44 + wh) + way < 0 ∨ 9 < A (44 + wh) + way then a_cnt n B (wh + 1) way else B
theorem c_cnt_7 {b : Nat} {way : Int} {Q : mW → mO → Prop} (hway : way = 1 ∨ way = -1) : ∀ (n : Nat) (A : Row) (wh : Nat) (w : mW) (x : Value), A 2 ≤ (wh : Int) + n → (n = 0 ∨ (wh : Int) + n ≤ A 2) → wh ≤ 16 → Mb w b → MemA w b A → TI A → (∀ w', MemA w' b (a_cnt n A wh way) → Fr [b + 3] w w' → Q w' (.inl none)) →
    RT n_X2_moveCounter 7 [.ref b, .int (Int32.ofInt way), .int (Int32.ofInt 1), .int (Int32.ofInt wh), x] [] w (0, 0, false) Q := by
  intro n
  induction n with
  | zero =>
    intro A wh w x hn _ hwh hM hA hI hq
    obtain ⟨⟨s0, s1, s2, s3, s4, s5, s6, s7, s8, s9, s10, s11⟩, r6, r7, r8, r9, r10, r11, r12, r13, q2, q10, q11⟩ := hM
    have hA0 := hA
    obtain ⟨⟨b0, b1, b2, b3, b4⟩, a1, a2, a3, a4, a5, a6, a7, a8, a9⟩ := hA
    have hI0 := hI
    obtain ⟨h0, h7, h1, h2, h3, h4, h5⟩ := hI
    have hw : inR wh := ⟨by omega, by omega⟩
    have hw1 : inR (A 2) := ⟨by omega, by omega⟩
    refine rt_X2_moveCounter_7 ?_
    simp only [wp_c, wp_n, jj_n, v_ct, Int.reduceToNat, Int.toNat_natCast, stE, wlE, lgt, lpu, lpw, v_c2, va_s, true_and, and_true, Option.toList, List.nil_append, List.cons_append, List.take, List.drop, List.reverse, List.reverseAux, List.length_cons, List.length_nil, reduceCtorEq, false_implies, true_implies, forall_const, not_true_eq_false, not_false_eq_true, ite_true, ite_false, Bool.false_eq_true, I_I, J_J, Nat.add_left_cancel_iff, Nat.reduceEqDiff, Nat.add_eq_left, Nat.left_eq_add, false_and, and_false, Nat.reduceSub, Nat.sub_self, Nat.le_refl, Nat.zero_le, ge_iff_le, Nat.reduceAdd, Nat.reduceLeDiff, Nat.zero_add, Nat.reduceLT, s0, b2, oi_le hw1 hw]
    refine ⟨fun _ => ?_, fun h => absurd (by omega) h⟩
    refine rt_X2_moveCounter_67 ?_
    simp only [wp_c, wp_n, jj_n, v_ct, Int.reduceToNat, Int.toNat_natCast, stE, wlE, lgt, lpu, lpw, v_c2, va_s, true_and, and_true, Option.toList, List.nil_append, List.cons_append, List.take, List.drop, List.reverse, List.reverseAux, List.length_cons, List.length_nil, reduceCtorEq, false_implies, true_implies, forall_const, not_true_eq_false, not_false_eq_true, ite_true, ite_false, Bool.false_eq_true, I_I, J_J, Nat.add_left_cancel_iff, Nat.reduceEqDiff, Nat.add_eq_left, Nat.left_eq_add, false_and, and_false, Nat.reduceSub, Nat.sub_self, Nat.le_refl, Nat.zero_le, ge_iff_le, Nat.reduceAdd, Nat.reduceLeDiff, Nat.zero_add, Nat.reduceLT]
    exact hq w hA0 (Fr.refl _ _)
  | succ n ih =>
    intro A wh w x hn hn2 hwh hM hA hI hq
    have hM0 := hM
    obtain ⟨⟨s0, s1, s2, s3, s4, s5, s6, s7, s8, s9, s10, s11⟩, r6, r7, r8, r9, r10, r11, r12, r13, q2, q10, q11⟩ := hM
    have hA0 := hA
    obtain ⟨⟨b0, b1, b2, b3, b4⟩, a1, a2, a3, a4, a5, a6, a7, a8, a9⟩ := hA
    have hI0 := hI
    obtain ⟨h0, h7, h1, h2, h3, h4, h5⟩ := hI
    have hw : inR wh := ⟨by omega, by omega⟩
    have hw1 : inR (A 2) := ⟨by omega, by omega⟩
    have hl : wh < 8 := by omega
    have hc := h3 wh hl
    have hv : inR (A (44 + wh) + way) := ⟨by omega, by omega⟩
    have hv10 : inR (A (44 + wh) + way + 10) := ⟨by omega, by omega⟩
    have h10 : inR (10 : Int) := ⟨by omega, by omega⟩
    -- behind the choice
    have h46 : ∀ f : Int, (f = 1 ∧ (A (44 + wh) + way < 0 ∨ 9 < A (44 + wh) + way)) ∨ (f = 0 ∧ ¬ (A (44 + wh) + way < 0 ∨ 9 < A (44 + wh) + way)) → RT n_X2_moveCounter 46 [.ref b, .int (Int32.ofInt way), .int (Int32.ofInt 1), .int (Int32.ofInt wh), .int (Int32.ofInt (A (44 + wh) + way))] [.int (Int32.ofInt f)] w (0, 0, false) Q := by
      intro f hf
      refine rt_X2_moveCounter_46 ?_
      simp only [wp_c, wp_n, jj_n, v_ct, Int.reduceToNat, Int.toNat_natCast, stE, wlE, lgt, lpu, lpw, v_c2, va_s, true_and, and_true, Option.toList, List.nil_append, List.cons_append, List.take, List.drop, List.reverse, List.reverseAux, List.length_cons, List.length_nil, reduceCtorEq, false_implies, true_implies, forall_const, not_true_eq_false, not_false_eq_true, ite_true, ite_false, Bool.false_eq_true, I_I, J_J, Nat.add_left_cancel_iff, Nat.reduceEqDiff, Nat.add_eq_left, Nat.left_eq_add, false_and, and_false, Nat.reduceSub, Nat.sub_self, Nat.le_refl, Nat.zero_le, ge_iff_le, Nat.reduceAdd, Nat.reduceLeDiff, Nat.zero_add, Nat.reduceLT, s0, s3, r8, vp_oi hw, oi_nc hw, oi_add]
      rw [oi_rem hv10 h10 (by omega) (by omega)]
      refine ⟨by decide, by omega, ?_⟩
      have g := hA0.cnt (v := (A (44 + wh) + way + 10) % 10) hl
      rcases hf with ⟨rfl, hf⟩ | ⟨rfl, hf⟩
      · simp only [a_cnt, if_pos hf] at hq
        have e := ih _ (wh + 1) (s_I w (b + 3) wh (Int32.ofInt ((A (44 + wh) + way + 10) % 10))) (.int (Int32.ofInt (A (44 + wh) + way))) ?_ ?_ (by omega) (hM0.fr (l := [b + 3]) ((Fr.refl _ _).I (by simp))) g (hI0.cnt ⟨by omega, by omega⟩ hl) (fun w' k1 k2 => hq w' k1 (((Fr.refl _ _).I (by simp)).trans k2 (fun _ q => q) (fun _ q => q)))
        · exact e
        · rw [up_eq, if_neg (by omega)]; omega
        · rw [up_eq, if_neg (by omega)]; omega
      · simp only [a_cnt, if_neg hf] at hq
        refine rt_X2_moveCounter_7 ?_
        have hw2 : inR ((wh : Int) + 1) := ⟨by omega, by omega⟩
        simp only [wp_c, wp_n, jj_n, v_ct, Int.reduceToNat, Int.toNat_natCast, stE, wlE, lgt, lpu, lpw, v_c2, va_s, true_and, and_true, Option.toList, List.nil_append, List.cons_append, List.take, List.drop, List.reverse, List.reverseAux, List.length_cons, List.length_nil, reduceCtorEq, false_implies, true_implies, forall_const, not_true_eq_false, not_false_eq_true, ite_true, ite_false, Bool.false_eq_true, I_I, J_J, Nat.add_left_cancel_iff, Nat.reduceEqDiff, Nat.add_eq_left, Nat.left_eq_add, false_and, and_false, Nat.reduceSub, Nat.sub_self, Nat.le_refl, Nat.zero_le, ge_iff_le, Nat.reduceAdd, Nat.reduceLeDiff, Nat.zero_add, Nat.reduceLT, s0, b2, oi_le hw1 hw2]
        have hend : RT n_X2_moveCounter 67 [.ref b, .int (Int32.ofInt way), .int (Int32.ofInt 0), .int (Int32.ofInt ((wh : Int) + 1)), .int (Int32.ofInt (A (44 + wh) + way))] [] (s_I w (b + 3) wh (Int32.ofInt ((A (44 + wh) + way + 10) % 10))) (0, 0, false) Q := by
          refine rt_X2_moveCounter_67 ?_
          simp only [wp_c, wp_n, jj_n, v_ct, Int.reduceToNat, Int.toNat_natCast, stE, wlE, lgt, lpu, lpw, v_c2, va_s, true_and, and_true, Option.toList, List.nil_append, List.cons_append, List.take, List.drop, List.reverse, List.reverseAux, List.length_cons, List.length_nil, reduceCtorEq, false_implies, true_implies, forall_const, not_true_eq_false, not_false_eq_true, ite_true, ite_false, Bool.false_eq_true, I_I, J_J, Nat.add_left_cancel_iff, Nat.reduceEqDiff, Nat.add_eq_left, Nat.left_eq_add, false_and, and_false, Nat.reduceSub, Nat.sub_self, Nat.le_refl, Nat.zero_le, ge_iff_le, Nat.reduceAdd, Nat.reduceLeDiff, Nat.zero_add, Nat.reduceLT]
          exact hq _ g ((Fr.refl _ _).I (by simp))
        exact ⟨fun _ => hend, fun _ => ⟨fun _ => hend, fun h => absurd rfl h⟩⟩
    refine rt_X2_moveCounter_7 ?_
    simp only [wp_c, wp_n, jj_n, v_ct, Int.reduceToNat, Int.toNat_natCast, stE, wlE, lgt, lpu, lpw, v_c2, va_s, true_and, and_true, Option.toList, List.nil_append, List.cons_append, List.take, List.drop, List.reverse, List.reverseAux, List.length_cons, List.length_nil, reduceCtorEq, false_implies, true_implies, forall_const, not_true_eq_false, not_false_eq_true, ite_true, ite_false, Bool.false_eq_true, I_I, J_J, Nat.add_left_cancel_iff, Nat.reduceEqDiff, Nat.add_eq_left, Nat.left_eq_add, false_and, and_false, Nat.reduceSub, Nat.sub_self, Nat.le_refl, Nat.zero_le, ge_iff_le, Nat.reduceAdd, Nat.reduceLeDiff, Nat.zero_add, Nat.reduceLT, s0, s3, r8, b2, a3 wh hl, oi_le hw1 hw, vp_oi hw, oi_nc hw, oi_add, oi_l0 hv, oi_le hv (show inR 9 from ⟨by omega, by omega⟩)]
    refine ⟨fun h => absurd h (by omega), fun _ => ⟨fun h => absurd h (by decide), fun _ => ⟨by omega, fun hlt => ?_, fun hlt => ⟨fun hle => ?_, fun hle => ?_⟩⟩⟩⟩
    · refine rt_X2_moveCounter_41 ?_
      simp only [wp_c, wp_n, jj_n, v_ct, Int.reduceToNat, Int.toNat_natCast, stE, wlE, lgt, lpu, lpw, v_c2, va_s, true_and, and_true, Option.toList, List.nil_append, List.cons_append, List.take, List.drop, List.reverse, List.reverseAux, List.length_cons, List.length_nil, reduceCtorEq, false_implies, true_implies, forall_const, not_true_eq_false, not_false_eq_true, ite_true, ite_false, Bool.false_eq_true, I_I, J_J, Nat.add_left_cancel_iff, Nat.reduceEqDiff, Nat.add_eq_left, Nat.left_eq_add, false_and, and_false, Nat.reduceSub, Nat.sub_self, Nat.le_refl, Nat.zero_le, ge_iff_le, Nat.reduceAdd, Nat.reduceLeDiff, Nat.zero_add, Nat.reduceLT]
      exact h46 1 (Or.inl ⟨rfl, Or.inl hlt⟩)
    · refine rt_X2_moveCounter_45 ?_
      simp only [wp_c, wp_n, jj_n, v_ct, Int.reduceToNat, Int.toNat_natCast, stE, wlE, lgt, lpu, lpw, v_c2, va_s, true_and, and_true, Option.toList, List.nil_append, List.cons_append, List.take, List.drop, List.reverse, List.reverseAux, List.length_cons, List.length_nil, reduceCtorEq, false_implies, true_implies, forall_const, not_true_eq_false, not_false_eq_true, ite_true, ite_false, Bool.false_eq_true, I_I, J_J, Nat.add_left_cancel_iff, Nat.reduceEqDiff, Nat.add_eq_left, Nat.left_eq_add, false_and, and_false, Nat.reduceSub, Nat.sub_self, Nat.le_refl, Nat.zero_le, ge_iff_le, Nat.reduceAdd, Nat.reduceLeDiff, Nat.zero_add, Nat.reduceLT]
      exact h46 0 (Or.inr ⟨rfl, by omega⟩)
    · refine rt_X2_moveCounter_41 ?_
      simp only [wp_c, wp_n, jj_n, v_ct, Int.reduceToNat, Int.toNat_natCast, stE, wlE, lgt, lpu, lpw, v_c2, va_s, true_and, and_true, Option.toList, List.nil_append, List.cons_append, List.take, List.drop, List.reverse, List.reverseAux, List.length_cons, List.length_nil, reduceCtorEq, false_implies, true_implies, forall_const, not_true_eq_false, not_false_eq_true, ite_true, ite_false, Bool.false_eq_true, I_I, J_J, Nat.add_left_cancel_iff, Nat.reduceEqDiff, Nat.add_eq_left, Nat.left_eq_add, false_and, and_false, Nat.reduceSub, Nat.sub_self, Nat.le_refl, Nat.zero_le, ge_iff_le, Nat.reduceAdd, Nat.reduceLeDiff, Nat.zero_add, Nat.reduceLT]
      exact h46 1 (Or.inl ⟨rfl, Or.inr (by omega)⟩)
theorem c_cnt {b : Nat} {way : Int} {w : mW} {A : Row} {Q : mW → mO → Prop} (hway : way = 1 ∨ way = -1) (hM : Mb w b) (hA : MemA w b A) (hI : TI A) (hq : ∀ w', MemA w' b (a_cnt (A 2 - A 4).toNat A (A 4).toNat way) → Fr [b + 3] w w' → Q w' (.inl none)) : CT n_X2_moveCounter [.ref b, .int (Int32.ofInt way)] w Q := by
  have hM0 := hM
  obtain ⟨⟨s0, s1, s2, s3, s4, s5, s6, s7, s8, s9, s10, s11⟩, r6, r7, r8, r9, r10, r11, r12, r13, q2, q10, q11⟩ := hM
  have hI0 := hI
  obtain ⟨h0, h7, h1, h2, h3, h4, h5⟩ := hI
  refine ct_X2_moveCounter (rt_X2_moveCounter_0 ?_)
  simp only [wp_c, wp_n, jj_n, v_ct, Int.reduceToNat, Int.toNat_natCast, stE, wlE, lgt, lpu, lpw, v_c2, va_s, true_and, and_true, Option.toList, List.nil_append, List.cons_append, List.take, List.drop, List.reverse, List.reverseAux, List.length_cons, List.length_nil, reduceCtorEq, false_implies, true_implies, forall_const, not_true_eq_false, not_false_eq_true, ite_true, ite_false, Bool.false_eq_true, I_I, J_J, Nat.add_left_cancel_iff, Nat.reduceEqDiff, Nat.add_eq_left, Nat.left_eq_add, false_and, and_false, Nat.reduceSub, Nat.sub_self, Nat.le_refl, Nat.zero_le, ge_iff_le, Nat.reduceAdd, Nat.reduceLeDiff, Nat.zero_add, Nat.reduceLT, s0, hA.1.2.2.2.2]
  have e : A 4 = (((A 4).toNat : Nat) : Int) := by omega
  have := c_cnt_7 (Q := Q) hway (A 2 - A 4).toNat A (A 4).toNat w .null (by omega) (by omega) (by omega) hM0 hA hI0 hq
  rw [← e] at this
  exact this
def LogA (w : mW) (b : Nat) (A : Row) : Prop := ∃ o : Nat, o < 30 ∧ 0 ≤ A 18 ∧ A 18 ≤ 30 ∧ w_I w (b + 7) 0 = Int32.ofInt (A 18) ∧ w_I w (b + 7) 1 = Int32.ofInt o ∧ ∀ i k : Nat, (i : Int) < A 18 → k < 4 → w_I w (b + 8) ((o + i) % 30 * 4 + k) = Int32.ofInt (A (132 + 4 * i + k))
def a_log (A : Row) (x y z r : Int) : Row :=
  let B := if A 18 = 30 then up (fun j => if 132 ≤ j ∧ j < 248 then A (j + 4) else A j) 18 29 else A
  let t := 132 + 4 * (B 18).toNat
  up (up (up (up (up B t x) (t + 1) y) (t + 2) z) (t + 3) r) 18 (B 18 + 1)
theorem c_log {b : Nat} {x y z r : Int} {w : mW} {A : Row} {Q : mW → mO → Prop} (hM : Mb w b) (hL : LogA w b A) (hq : ∀ w', LogA w' b (a_log A x y z r) → Fr [b + 7, b + 8] w w' → Q w' (.inl none)) : CT n_X8_add [.ref (b + 7), .int (Int32.ofInt x), .int (Int32.ofInt y), .int (Int32.ofInt z), .int (Int32.ofInt r)] w Q := by
  obtain ⟨⟨s0, s1, s2, s3, s4, s5, s6, s7, s8, s9, s10, s11⟩, r6, r7, r8, r9, r10, r11, r12, r13, q2, q10, q11⟩ := hM
  obtain ⟨o, ho, hs0, hs30, e0, e1, he⟩ := hL
  obtain ⟨s, hs⟩ : ∃ s : Nat, A 18 = s := ⟨(A 18).toNat, by omega⟩
  rw [hs] at e0 hs0 hs30 he
  have h30 : inR (30 : Int) := ⟨by omega, by omega⟩
  have hos : inR ((o : Int) + s) := ⟨by omega, by omega⟩
  have hF : ((o : Int) + s) % 30 * 4 = (((o + s) % 30 * 4 : Nat) : Int) := by omega
  have hf0 : inR (((o + s) % 30 * 4 : Nat) : Int) := ⟨by omega, by omega⟩
  have hf1 : inR ((((o + s) % 30 * 4 : Nat) : Int) + 1) := ⟨by omega, by omega⟩
  have hf2 : inR ((((o + s) % 30 * 4 : Nat) : Int) + 2) := ⟨by omega, by omega⟩
  have hf3 : inR ((((o + s) % 30 * 4 : Nat) : Int) + 3) := ⟨by omega, by omega⟩
  have hsR : inR (s : Int) := ⟨by omega, by omega⟩
  generalize hFF : (o + s) % 30 * 4 = F at hF hf0 hf1 hf2 hf3
  have t1 : ((F : Int) + 1).toNat = F + 1 := by omega
  have t2 : ((F : Int) + 2).toNat = F + 2 := by omega
  have t3 : ((F : Int) + 3).toNat = F + 3 := by omega
  refine ct_X8_add (rt_X8_add_0 ?_)
  simp only [wp_c, wp_n, jj_n, v_ct, Int.reduceToNat, Int.toNat_natCast, stE, wlE, lgt, lpu, lpw, v_c2, va_s, true_and, and_true, Option.toList, List.nil_append, List.cons_append, List.take, List.drop, List.reverse, List.reverseAux, List.length_cons, List.length_nil, reduceCtorEq, false_implies, true_implies, forall_const, not_true_eq_false, not_false_eq_true, ite_true, ite_false, Bool.false_eq_true, I_I, J_J, Nat.add_left_cancel_iff, Nat.reduceEqDiff, Nat.add_eq_left, Nat.left_eq_add, false_and, and_false, Nat.reduceSub, Nat.sub_self, Nat.le_refl, Nat.zero_le, ge_iff_le, Nat.reduceAdd, Nat.reduceLeDiff, Nat.zero_add, Nat.reduceLT, s7, s8, q2, e0, e1, oi_add]
  rw [oi_rem hos h30 (by omega) (by omega)]
  simp only [wp_c, wp_n, jj_n, v_ct, Int.reduceToNat, Int.toNat_natCast, stE, wlE, lgt, lpu, lpw, v_c2, va_s, true_and, and_true, Option.toList, List.nil_append, List.cons_append, List.take, List.drop, List.reverse, List.reverseAux, List.length_cons, List.length_nil, reduceCtorEq, false_implies, true_implies, forall_const, not_true_eq_false, not_false_eq_true, ite_true, ite_false, Bool.false_eq_true, I_I, J_J, Nat.add_left_cancel_iff, Nat.reduceEqDiff, Nat.add_eq_left, Nat.left_eq_add, false_and, and_false, Nat.reduceSub, Nat.sub_self, Nat.le_refl, Nat.zero_le, ge_iff_le, Nat.reduceAdd, Nat.reduceLeDiff, Nat.zero_add, Nat.reduceLT, oi_mul, hF, oi_add, vp_oi hf0, vp_oi hf1, vp_oi hf2, vp_oi hf3, oi_nc hf0, oi_nc hf1, oi_nc hf2, oi_nc hf3, e0, oi_le h30 hsR, t1, t2, t3]
  have hFF' : F < 120 := by omega
  -- what lies in the entries
  have hent : ∀ (C : Row) (w1 : mW) (i k : Nat), k < 4 → (∀ j, w_I w1 (b + 8) j = w_I (s_I (s_I (s_I (s_I w (b + 8) F (Int32.ofInt x)) (b + 8) (F + 1) (Int32.ofInt y)) (b + 8) (F + 2) (Int32.ofInt z)) (b + 8) (F + 3) (Int32.ofInt r)) (b + 8) j) → i = F → w_I w1 (b + 8) (i + k) = Int32.ofInt (if k = 3 then r else if k = 2 then z else if k = 1 then y else x) := by
    intro C w1 i k hk h1 h2
    rw [h1, h2]
    simp only [I_I, Nat.add_left_cancel_iff]
    rcases (show k = 0 ∨ k = 1 ∨ k = 2 ∨ k = 3 by omega) with rfl | rfl | rfl | rfl <;> simp
  have hold : ∀ (w1 : mW) (j : Nat), (∀ j, w_I w1 (b + 8) j = w_I (s_I (s_I (s_I (s_I w (b + 8) F (Int32.ofInt x)) (b + 8) (F + 1) (Int32.ofInt y)) (b + 8) (F + 2) (Int32.ofInt z)) (b + 8) (F + 3) (Int32.ofInt r)) (b + 8) j) → (j < F ∨ F + 3 < j) → w_I w1 (b + 8) j = w_I w (b + 8) j := by
    intro w1 j h1 h2
    rw [h1, I_I, if_neg (by omega), I_I, if_neg (by omega), I_I, if_neg (by omega), I_I, if_neg (by omega)]
  have hrow : ∀ (B : Row) (t k : Nat), k < 4 → 20 < t → up (up (up (up (up B t x) (t + 1) y) (t + 2) z) (t + 3) r) 18 (B 18 + 1) (t + k) = (if k = 3 then r else if k = 2 then z else if k = 1 then y else x) := by
    intro B t k hk ht
    simp only [up_eq]
    rw [if_neg (by omega)]
    rcases (show k = 0 ∨ k = 1 ∨ k = 2 ∨ k = 3 by omega) with rfl | rfl | rfl | rfl <;> simp
  have hrow2 : ∀ (B : Row) (t j : Nat), (j < t ∨ t + 3 < j) → j ≠ 18 → up (up (up (up (up B t x) (t + 1) y) (t + 2) z) (t + 3) r) 18 (B 18 + 1) j = B j := by
    intro B t j hj h18
    simp only [up_eq]
    rw [if_neg (by omega), if_neg (by omega), if_neg (by omega), if_neg (by omega), if_neg (by omega)]
  refine ⟨by decide, by omega, by omega, by omega, by omega, fun hfull => ?_, fun hfree => ?_⟩
  · have hs3 : s = 30 := by omega
    have ho1 : inR ((o : Int) + 1) := ⟨by omega, by omega⟩
    refine rt_X8_add_77 ?_
    simp only [wp_c, wp_n, jj_n, v_ct, Int.reduceToNat, Int.toNat_natCast, stE, wlE, lgt, lpu, lpw, v_c2, va_s, true_and, and_true, Option.toList, List.nil_append, List.cons_append, List.take, List.drop, List.reverse, List.reverseAux, List.length_cons, List.length_nil, reduceCtorEq, false_implies, true_implies, forall_const, not_true_eq_false, not_false_eq_true, ite_true, ite_false, Bool.false_eq_true, I_I, J_J, Nat.add_left_cancel_iff, Nat.reduceEqDiff, Nat.add_eq_left, Nat.left_eq_add, false_and, and_false, Nat.reduceSub, Nat.sub_self, Nat.le_refl, Nat.zero_le, ge_iff_le, Nat.reduceAdd, Nat.reduceLeDiff, Nat.zero_add, Nat.reduceLT, s7, e1, oi_add]
    rw [oi_rem ho1 h30 (by omega) (by omega)]
    refine ⟨by decide, ?_⟩
    refine rt_X8_add_90 ?_
    simp only [wp_c, wp_n, jj_n, v_ct, Int.reduceToNat, Int.toNat_natCast, stE, wlE, lgt, lpu, lpw, v_c2, va_s, true_and, and_true, Option.toList, List.nil_append, List.cons_append, List.take, List.drop, List.reverse, List.reverseAux, List.length_cons, List.length_nil, reduceCtorEq, false_implies, true_implies, forall_const, not_true_eq_false, not_false_eq_true, ite_true, ite_false, Bool.false_eq_true, I_I, J_J, Nat.add_left_cancel_iff, Nat.reduceEqDiff, Nat.add_eq_left, Nat.left_eq_add, false_and, and_false, Nat.reduceSub, Nat.sub_self, Nat.le_refl, Nat.zero_le, ge_iff_le, Nat.reduceAdd, Nat.reduceLeDiff, Nat.zero_add, Nat.reduceLT]
    refine hq _ ⟨(o + 1) % 30, by omega, ?_⟩ (((((Fr.refl _ _).I (by simp)).I (by simp)).I (by simp)).I (by simp) |>.I (by simp))
    have hA18 : A 18 = 30 := by omega
    simp only [a_log, if_pos hA18]
    generalize hB : up (fun j => if 132 ≤ j ∧ j < 248 then A (j + 4) else A j) 18 29 = B
    have hB18 : B 18 = 29 := by rw [← hB, up_eq, if_pos rfl]
    have hBj : ∀ j, 132 ≤ j → j < 248 → B j = A (j + 4) := fun j h1 h2 => by rw [← hB, up_eq, if_neg (by omega), if_pos ⟨h1, h2⟩]
    have ht : 132 + 4 * (B 18).toNat = 248 := by rw [hB18]; rfl
    rw [ht]
    have h18 : up (up (up (up (up B 248 x) (248 + 1) y) (248 + 2) z) (248 + 3) r) 18 (B 18 + 1) 18 = 30 := by rw [up_eq, if_pos rfl, hB18]; rfl
    refine ⟨by omega, by omega, ?_, ?_, fun i k hi hk => ?_⟩
    · rw [h18]; simp only [wp_c, wp_n, jj_n, v_ct, Int.reduceToNat, Int.toNat_natCast, stE, wlE, lgt, lpu, lpw, v_c2, va_s, true_and, and_true, Option.toList, List.nil_append, List.cons_append, List.take, List.drop, List.reverse, List.reverseAux, List.length_cons, List.length_nil, reduceCtorEq, false_implies, true_implies, forall_const, not_true_eq_false, not_false_eq_true, ite_true, ite_false, Bool.false_eq_true, I_I, J_J, Nat.add_left_cancel_iff, Nat.reduceEqDiff, Nat.add_eq_left, Nat.left_eq_add, false_and, and_false, Nat.reduceSub, Nat.sub_self, Nat.le_refl, Nat.zero_le, ge_iff_le, Nat.reduceAdd, Nat.reduceLeDiff, Nat.zero_add, Nat.reduceLT, e0, hs3]; rfl
    · simp only [wp_c, wp_n, jj_n, v_ct, Int.reduceToNat, Int.toNat_natCast, stE, wlE, lgt, lpu, lpw, v_c2, va_s, true_and, and_true, Option.toList, List.nil_append, List.cons_append, List.take, List.drop, List.reverse, List.reverseAux, List.length_cons, List.length_nil, reduceCtorEq, false_implies, true_implies, forall_const, not_true_eq_false, not_false_eq_true, ite_true, ite_false, Bool.false_eq_true, I_I, J_J, Nat.add_left_cancel_iff, Nat.reduceEqDiff, Nat.add_eq_left, Nat.left_eq_add, false_and, and_false, Nat.reduceSub, Nat.sub_self, Nat.le_refl, Nat.zero_le, ge_iff_le, Nat.reduceAdd, Nat.reduceLeDiff, Nat.zero_add, Nat.reduceLT]; congr 1
    · rw [h18] at hi
      by_cases h29 : i = 29
      · have e : ((o + 1) % 30 + i) % 30 * 4 = F := by omega
        rw [hent A _ _ k hk (fun j => by simp only [wp_c, wp_n, jj_n, v_ct, Int.reduceToNat, Int.toNat_natCast, stE, wlE, lgt, lpu, lpw, v_c2, va_s, true_and, and_true, Option.toList, List.nil_append, List.cons_append, List.take, List.drop, List.reverse, List.reverseAux, List.length_cons, List.length_nil, reduceCtorEq, false_implies, true_implies, forall_const, not_true_eq_false, not_false_eq_true, ite_true, ite_false, Bool.false_eq_true, I_I, J_J, Nat.add_left_cancel_iff, Nat.reduceEqDiff, Nat.add_eq_left, Nat.left_eq_add, false_and, and_false, Nat.reduceSub, Nat.sub_self, Nat.le_refl, Nat.zero_le, ge_iff_le, Nat.reduceAdd, Nat.reduceLeDiff, Nat.zero_add, Nat.reduceLT]) e, show 132 + 4 * i + k = 248 + k by omega, hrow B 248 k hk (by omega)]
      · have e : ((o + 1) % 30 + i) % 30 * 4 = (o + (i + 1)) % 30 * 4 := by omega
        rw [hold _ _ (fun j => by simp only [wp_c, wp_n, jj_n, v_ct, Int.reduceToNat, Int.toNat_natCast, stE, wlE, lgt, lpu, lpw, v_c2, va_s, true_and, and_true, Option.toList, List.nil_append, List.cons_append, List.take, List.drop, List.reverse, List.reverseAux, List.length_cons, List.length_nil, reduceCtorEq, false_implies, true_implies, forall_const, not_true_eq_false, not_false_eq_true, ite_true, ite_false, Bool.false_eq_true, I_I, J_J, Nat.add_left_cancel_iff, Nat.reduceEqDiff, Nat.add_eq_left, Nat.left_eq_add, false_and, and_false, Nat.reduceSub, Nat.sub_self, Nat.le_refl, Nat.zero_le, ge_iff_le, Nat.reduceAdd, Nat.reduceLeDiff, Nat.zero_add, Nat.reduceLT]) (by omega), hrow2 B 248 _ (by omega) (by omega), hBj _ (by omega) (by omega), e, he (i + 1) k (by omega) hk, show 132 + 4 * (i + 1) + k = 132 + 4 * i + k + 4 by omega]
  · have hs3 : s < 30 := by omega
    refine rt_X8_add_90 ?_
    simp only [wp_c, wp_n, jj_n, v_ct, Int.reduceToNat, Int.toNat_natCast, stE, wlE, lgt, lpu, lpw, v_c2, va_s, true_and, and_true, Option.toList, List.nil_append, List.cons_append, List.take, List.drop, List.reverse, List.reverseAux, List.length_cons, List.length_nil, reduceCtorEq, false_implies, true_implies, forall_const, not_true_eq_false, not_false_eq_true, ite_true, ite_false, Bool.false_eq_true, I_I, J_J, Nat.add_left_cancel_iff, Nat.reduceEqDiff, Nat.add_eq_left, Nat.left_eq_add, false_and, and_false, Nat.reduceSub, Nat.sub_self, Nat.le_refl, Nat.zero_le, ge_iff_le, Nat.reduceAdd, Nat.reduceLeDiff, Nat.zero_add, Nat.reduceLT]
    refine hq _ ⟨o, ho, ?_⟩ (((((Fr.refl _ _).I (by simp)).I (by simp)).I (by simp)).I (by simp) |>.I (by simp))
    have hA18 : ¬ A 18 = 30 := by omega
    simp only [a_log, if_neg hA18]
    have ht : 132 + 4 * (A 18).toNat = 132 + 4 * s := by omega
    rw [ht]
    have h18 : up (up (up (up (up A (132 + 4 * s) x) (132 + 4 * s + 1) y) (132 + 4 * s + 2) z) (132 + 4 * s + 3) r) 18 (A 18 + 1) 18 = (s : Int) + 1 := by rw [up_eq, if_pos rfl, hs]
    refine ⟨by omega, by omega, ?_, ?_, fun i k hi hk => ?_⟩
    · rw [h18]; simp only [wp_c, wp_n, jj_n, v_ct, Int.reduceToNat, Int.toNat_natCast, stE, wlE, lgt, lpu, lpw, v_c2, va_s, true_and, and_true, Option.toList, List.nil_append, List.cons_append, List.take, List.drop, List.reverse, List.reverseAux, List.length_cons, List.length_nil, reduceCtorEq, false_implies, true_implies, forall_const, not_true_eq_false, not_false_eq_true, ite_true, ite_false, Bool.false_eq_true, I_I, J_J, Nat.add_left_cancel_iff, Nat.reduceEqDiff, Nat.add_eq_left, Nat.left_eq_add, false_and, and_false, Nat.reduceSub, Nat.sub_self, Nat.le_refl, Nat.zero_le, ge_iff_le, Nat.reduceAdd, Nat.reduceLeDiff, Nat.zero_add, Nat.reduceLT]
    · simp only [wp_c, wp_n, jj_n, v_ct, Int.reduceToNat, Int.toNat_natCast, stE, wlE, lgt, lpu, lpw, v_c2, va_s, true_and, and_true, Option.toList, List.nil_append, List.cons_append, List.take, List.drop, List.reverse, List.reverseAux, List.length_cons, List.length_nil, reduceCtorEq, false_implies, true_implies, forall_const, not_true_eq_false, not_false_eq_true, ite_true, ite_false, Bool.false_eq_true, I_I, J_J, Nat.add_left_cancel_iff, Nat.reduceEqDiff, Nat.add_eq_left, Nat.left_eq_add, false_and, and_false, Nat.reduceSub, Nat.sub_self, Nat.le_refl, Nat.zero_le, ge_iff_le, Nat.reduceAdd, Nat.reduceLeDiff, Nat.zero_add, Nat.reduceLT, e1]
    · rw [h18] at hi
      by_cases his : i = s
      · have e : (o + i) % 30 * 4 = F := by omega
        rw [hent A _ _ k hk (fun j => by simp only [wp_c, wp_n, jj_n, v_ct, Int.reduceToNat, Int.toNat_natCast, stE, wlE, lgt, lpu, lpw, v_c2, va_s, true_and, and_true, Option.toList, List.nil_append, List.cons_append, List.take, List.drop, List.reverse, List.reverseAux, List.length_cons, List.length_nil, reduceCtorEq, false_implies, true_implies, forall_const, not_true_eq_false, not_false_eq_true, ite_true, ite_false, Bool.false_eq_true, I_I, J_J, Nat.add_left_cancel_iff, Nat.reduceEqDiff, Nat.add_eq_left, Nat.left_eq_add, false_and, and_false, Nat.reduceSub, Nat.sub_self, Nat.le_refl, Nat.zero_le, ge_iff_le, Nat.reduceAdd, Nat.reduceLeDiff, Nat.zero_add, Nat.reduceLT]) e, show 132 + 4 * i + k = 132 + 4 * s + k by omega, hrow A _ k hk (by omega)]
      · rw [hold _ _ (fun j => by simp only [wp_c, wp_n, jj_n, v_ct, Int.reduceToNat, Int.toNat_natCast, stE, wlE, lgt, lpu, lpw, v_c2, va_s, true_and, and_true, Option.toList, List.nil_append, List.cons_append, List.take, List.drop, List.reverse, List.reverseAux, List.length_cons, List.length_nil, reduceCtorEq, false_implies, true_implies, forall_const, not_true_eq_false, not_false_eq_true, ite_true, ite_false, Bool.false_eq_true, I_I, J_J, Nat.add_left_cancel_iff, Nat.reduceEqDiff, Nat.add_eq_left, Nat.left_eq_add, false_and, and_false, Nat.reduceSub, Nat.sub_self, Nat.le_refl, Nat.zero_le, ge_iff_le, Nat.reduceAdd, Nat.reduceLeDiff, Nat.zero_add, Nat.reduceLT]) (by omega), hrow2 A _ _ (by omega) (by omega), he i k (by omega) hk]
/-! the library's floorMod -/
def inL (a : Int) : Prop := -9223372036854775808 ≤ a ∧ a ≤ 9223372036854775807
theorem lo_to {a : Int} (h : inL a) : (Int64.ofInt a).toInt = a := Int64.toInt_ofInt_of_le h.1 (by have := h.2; omega)
theorem lo_lt {a b : Int} (ha : inL a) (hb : inL b) : Int64.ofInt a < Int64.ofInt b ↔ a < b := by
  rw [Int64.lt_iff_toInt_lt, lo_to ha, lo_to hb]
theorem lo_eq {a b : Int} (ha : inL a) (hb : inL b) : Int64.ofInt a = Int64.ofInt b ↔ a = b := by
  rw [← Int64.toInt_inj, lo_to ha, lo_to hb]
theorem lo_div {a b : Int} (ha : inL a) (hb : inL b) (h1 : 0 < b) : Int64.ofInt a / Int64.ofInt b = Int64.ofInt (a.tdiv b) := by
  rw [← Int64.toInt_inj, Int64.toInt_div, lo_to ha, lo_to hb, Int64.toInt_ofInt]
theorem msb_l (x : Int64) : x.toBitVec.msb = decide (x < 0) := by
  rw [BitVec.msb_eq_toInt, decide_eq_decide, Int64.lt_iff_toInt_lt]; rfl
theorem xs_l (x y : Int64) : (x ^^^ y) < 0 ↔ ((x < 0) ↔ ¬ (y < 0)) := by
  have h := msb_l (x ^^^ y)
  rw [Int64.toBitVec_xor, BitVec.msb_xor, msb_l, msb_l] at h
  have h' : ((x ^^^ y) < 0) ↔ (Bool.xor (decide (x < 0)) (decide (y < 0)) = true) := by rw [h, decide_eq_true_eq]
  rw [h']
  by_cases h1 : x < 0 <;> by_cases h2 : y < 0 <;> simp only [h1, h2, decide_true, decide_false] <;> decide
theorem msb_i (x : Int32) : x.toBitVec.msb = decide (x < 0) := by
  rw [BitVec.msb_eq_toInt, decide_eq_decide, Int32.lt_iff_toInt_lt]; rfl
theorem xs_i (x y : Int32) : (x ^^^ y) < 0 ↔ ((x < 0) ↔ ¬ (y < 0)) := by
  have h := msb_i (x ^^^ y)
  rw [Int32.toBitVec_xor, BitVec.msb_xor, msb_i, msb_i] at h
  have h' : ((x ^^^ y) < 0) ↔ (Bool.xor (decide (x < 0)) (decide (y < 0)) = true) := by rw [h, decide_eq_true_eq]
  rw [h']
  by_cases h1 : x < 0 <;> by_cases h2 : y < 0 <;> simp only [h1, h2, decide_true, decide_false] <;> decide

theorem lg_0 (x : Int64) : (lg_cmp x 0 ≥ 0) ↔ ¬ x < 0 := by
  unfold lg_cmp
  by_cases h : x > 0
  · rw [if_pos h]
    exact ⟨fun _ => Int64.not_lt.mpr (Int64.le_of_lt h), fun _ => by decide⟩
  · rw [if_neg h]
    by_cases h2 : x = 0
    · rw [if_pos h2, h2]; exact ⟨fun _ => by decide, fun _ => by decide⟩
    · rw [if_neg h2]
      refine ⟨fun q => absurd q (by decide), fun q => absurd (Int64.le_antisymm (Int64.not_lt.mp h) (Int64.not_lt.mp q)) h2⟩
theorem lg_e (x y : Int64) : (lg_cmp x y = 0) ↔ x = y := by
  unfold lg_cmp
  by_cases h : x > y
  · rw [if_pos h]
    refine ⟨fun q => absurd q (by decide), fun q => ?_⟩
    subst q; exact absurd h Int64.lt_irrefl
  · rw [if_neg h]
    by_cases h2 : x = y
    · rw [if_pos h2]; exact ⟨fun _ => h2, fun _ => rfl⟩
    · rw [if_neg h2]; exact ⟨fun q => absurd q (by decide), fun q => absurd q h2⟩
theorem c_fmodL {a m : Int} {w : mW} {Q : mW → mO → Prop} (ha : inL a) (hm : inL m) (h0 : 0 < m) (hq : Q w (.inl (some (.long (Int64.ofInt (a % m)))))) : CT n_J9_floorMod_f86c9 [.long (Int64.ofInt a), .long (Int64.ofInt m)] w Q := by
  have hm0 : ¬ Int64.ofInt m = 0 := by rw [lo_0, lo_eq hm ⟨by omega, by omega⟩]; omega
  have hml : ¬ Int64.ofInt m < 0 := by rw [lo_0, lo_lt hm ⟨by omega, by omega⟩]; omega
  have hal : Int64.ofInt a < 0 ↔ a < 0 := by rw [lo_0, lo_lt ha ⟨by omega, by omega⟩]
  have hr : Int64.ofInt a - Int64.ofInt a / Int64.ofInt m * Int64.ofInt m = Int64.ofInt (a.tmod m) := by
    rw [lo_div ha hm h0, lo_mul, lo_sub, Int.tmod_def, Int.mul_comm m]
  have htm : a.tmod m = if a < 0 ∧ a % m ≠ 0 then a % m - m else a % m := by
    rw [Int.tmod_eq_emod]
    by_cases h1 : 0 ≤ a
    · rw [if_pos (Or.inl h1), if_neg (by omega)]; omega
    · by_cases h2 : a % m = 0
      · rw [if_pos (Or.inr (Int.dvd_of_emod_eq_zero h2)), if_neg (by omega)]; omega
      · have h3 : ¬ (0 ≤ a ∨ m ∣ a) := fun q => q.elim h1 (fun q => h2 (Int.emod_eq_zero_of_dvd q))
        rw [if_neg h3, if_pos ⟨by omega, h2⟩]; omega
  have hrL : inL (a.tmod m) := by
    have h1 := Int.emod_nonneg a (show m ≠ 0 by omega)
    have h2 := Int.emod_lt_of_pos a h0
    have h3 := hm.2
    rw [htm]; split <;> exact ⟨by omega, by omega⟩
  have hre : Int64.ofInt (a.tmod m) = 0 ↔ a.tmod m = 0 := by rw [lo_0, lo_eq hrL ⟨by omega, by omega⟩]
  refine ct_J9_floorMod_f86c9 (rt_J9_floorMod_f86c9_0 ?_)
  simp only [wp_c, wp_n, jj_n, v_ct, Int.reduceToNat, Int.toNat_natCast, stE, wlE, lgt, lpu, lpw, v_c2, va_s, true_and, and_true, Option.toList, List.nil_append, List.cons_append, List.take, List.drop, List.reverse, List.reverseAux, List.length_cons, List.length_nil, reduceCtorEq, false_implies, true_implies, forall_const, not_true_eq_false, not_false_eq_true, ite_true, ite_false, Bool.false_eq_true, I_I, J_J, Nat.add_left_cancel_iff, Nat.reduceEqDiff, Nat.add_eq_left, Nat.left_eq_add, false_and, and_false, Nat.reduceSub, Nat.sub_self, Nat.le_refl, Nat.zero_le, ge_iff_le, Nat.reduceAdd, Nat.reduceLeDiff, Nat.zero_add, Nat.reduceLT, hr, ← ge_iff_le, lg_0, lg_e, hre, xs_l, hal, hml, lo_add]
  have h25 : a.tmod m = a % m → RT n_J9_floorMod_f86c9 25 [.long (Int64.ofInt a), .null, .long (Int64.ofInt m), .null, .long (Int64.ofInt (a.tmod m)), .null] [] w (0, 0, false) Q := by
    intro e
    refine rt_J9_floorMod_f86c9_25 ?_
    simp only [wp_c, wp_n, jj_n, v_ct, Int.reduceToNat, Int.toNat_natCast, stE, wlE, lgt, lpu, lpw, v_c2, va_s, true_and, and_true, Option.toList, List.nil_append, List.cons_append, List.take, List.drop, List.reverse, List.reverseAux, List.length_cons, List.length_nil, reduceCtorEq, false_implies, true_implies, forall_const, not_true_eq_false, not_false_eq_true, ite_true, ite_false, Bool.false_eq_true, I_I, J_J, Nat.add_left_cancel_iff, Nat.reduceEqDiff, Nat.add_eq_left, Nat.left_eq_add, false_and, and_false, Nat.reduceSub, Nat.sub_self, Nat.le_refl, Nat.zero_le, ge_iff_le, Nat.reduceAdd, Nat.reduceLeDiff, Nat.zero_add, Nat.reduceLT]
    rw [e]; exact hq
  refine ⟨hm0, fun h => h25 ?_, fun h => ⟨fun h' => h25 ?_, fun h' => ?_⟩⟩
  · have h1 : ¬ a < 0 := fun q => h ⟨fun _ => trivial, fun _ => q⟩
    rw [htm, if_neg (fun q => h1 q.1)]
  · have h1 : a < 0 := by simpa using h
    rw [htm] at h' ⊢
    by_cases hz : a % m = 0
    · rw [if_neg (fun q => q.2 hz)]
    · rw [if_pos ⟨h1, hz⟩] at h'
      have := Int.emod_lt_of_pos a h0
      omega
  · have h1 : a < 0 := by simpa using h
    rw [htm] at h' ⊢
    by_cases hz : a % m = 0
    · rw [if_neg (fun q => q.2 hz)] at h'; exact absurd hz h'
    · rw [if_pos ⟨h1, hz⟩, show a % m - m + m = a % m by omega]; exact hq
