/-! a Machine's state, whole -/
def FrM (b : Nat) (w w' : mW) : Prop := w_sh w' = w_sh w ∧ w_R w' = w_R w ∧ w_n w' = w_n w ∧ ∀ a, a < b ∨ b + 12 ≤ a → w_I w' a = w_I w a ∧ w_J w' a = w_J w a
theorem Fr.toM {l : List Nat} {b : Nat} {w w' : mW} (h : Fr l w w') (hl : ∀ a ∈ l, b ≤ a ∧ a < b + 12) : FrM b w w' :=
  ⟨h.1, h.2.1, h.2.2.1, fun a ha => h.2.2.2 a (fun q => by have := hl a q; omega)⟩
theorem FrM.refl (b : Nat) (w : mW) : FrM b w w := ⟨rfl, rfl, rfl, fun _ _ => ⟨rfl, rfl⟩⟩
theorem FrM.trans {b : Nat} {w w' w'' : mW} (h : FrM b w w') (h' : FrM b w' w'') : FrM b w w'' :=
  ⟨h'.1.trans h.1, h'.2.1.trans h.2.1, h'.2.2.1.trans h.2.2.1, fun a ha => ⟨(h'.2.2.2 a ha).1.trans (h.2.2.2 a ha).1, (h'.2.2.2 a ha).2.trans (h.2.2.2 a ha).2⟩⟩
theorem Mb.frM {b c : Nat} {w w' : mW} (h : Mb w c) (f : FrM b w w') : Mb w' c := by
  unfold Mb; rw [f.1, f.2.1]; exact h
def TR (w : mW) (b : Nat) (A : Row) : Prop := ∃ (dv d p pl : Int) (c l : Int32), T9 w b (if 0 < A 5 then 1 else 0) dv d p pl c l ∧ (dv = 0 ∨ dv = 1) ∧ 0 ≤ l ∧ (0 < A 5 → dv = (if 0 < A 8 then 1 else 0) ∧ d = A 7 ∧ p = A 5 - 1 ∧ pl = A 6)
def MS (w : mW) (b : Nat) (A : Row) : Prop := Mb w b ∧ MemA w b A ∧ LogA w b A ∧ w_J w b 5 = Int64.ofInt (du A) ∧ TR w b A
/-- what every row keeps -/
def TJ (A : Row) : Prop := TI (up A 7 1) ∧ ∀ j, j < 16 → 0 ≤ A (116 + j) ∧ A (116 + j) ≤ 9
theorem TI.of {A : Row} (h : TI A) : TI (Jvm.Pilot.CCrankCalculatorLaw_law_r5362_0cd57e.up A 7 1) := by
  obtain ⟨h0, h7, h1, h2, h3, h4, h5⟩ := h
  refine ⟨?_, ?_, fun j hj => ?_, fun j hj => ?_, fun j hj => ?_, fun j hj => ?_, fun j hj => ?_⟩
  · simp only [up_eq]
    rw [if_neg (by omega), if_neg (by omega), if_neg (by omega), if_neg (by omega), if_neg (by omega)]; exact h0
  · rw [up_eq, if_pos rfl]; exact Or.inl rfl
  all_goals rw [up_eq, if_neg (by omega)]
  · exact h1 j hj
  · exact h2 j hj
  · exact h3 j hj
  · exact h4 j hj
  · exact h5 j hj
theorem beg_k (A : Row) (way : Int) (j : Nat) (hj : j ≠ 7 ∧ (j < 9 ∨ 12 ≤ j) ∧ (j < 52 ∨ 68 ≤ j) ∧ (j < 84 ∨ 100 ≤ j)) : a_beg A way j = A j := by
  simp only [a_beg, up_eq, zr]
  rw [if_neg (by omega), if_neg (by omega), if_neg (by omega), if_neg (by omega), if_neg (by omega)]
theorem beg_7 (A : Row) (way : Int) : a_beg A way 7 = way := by simp [a_beg, up_eq]
theorem beg_TI {A : Row} {way : Int} (h : TI (up A 7 1)) (hw : way = 1 ∨ way = -1) : TI (a_beg A way) := by
  obtain ⟨h0, h7, h1, h2, h3, h4, h5⟩ := h
  simp only [up_eq] at h0
  rw [if_neg (by omega), if_neg (by omega), if_neg (by omega), if_neg (by omega), if_neg (by omega)] at h0
  refine ⟨?_, ?_, fun j hj => ?_, fun j hj => ?_, fun j hj => ?_, fun j hj => ?_, fun j hj => ?_⟩
  · rw [beg_k _ _ _ (by omega), beg_k _ _ _ (by omega), beg_k _ _ _ (by omega), beg_k _ _ _ (by omega), beg_k _ _ _ (by omega)]; exact h0
  · rw [beg_7]; exact hw
  · have := h1 j hj; rw [up_eq, if_neg (by omega)] at this; rw [beg_k _ _ _ (by omega)]; exact this
  · have := h2 j hj; rw [up_eq, if_neg (by omega)] at this; rw [beg_k _ _ _ (by omega)]; exact this
  · have := h3 j hj; rw [up_eq, if_neg (by omega)] at this; rw [beg_k _ _ _ (by omega)]; exact this
  · have e : a_beg A way (52 + j) = 0 := by
      simp only [a_beg, up_eq, zr]; rw [if_neg (by omega), if_pos (by omega)]
    rw [e]; omega
  · have := h5 j hj; rw [up_eq, if_neg (by omega)] at this; rw [beg_k _ _ _ (by omega)]; exact this
def kg (j : Nat) : Prop := j < 9 ∨ (20 ≤ j ∧ j < 28) ∨ (68 ≤ j ∧ j < 84) ∨ (116 ≤ j ∧ j < 132)
theorem kg_kp {j : Nat} (h : kg j) : kp j := by unfold kg at h; unfold kp; omega
theorem lev_l : ∀ (n : Nat) (A : Row) (wh : Nat) (c l : Int32), 0 ≤ l → 0 ≤ (a_lev n A wh c l).2.2 := by
  intro n
  induction n with
  | zero => intro A wh c l h; exact h
  | succ n ih =>
    intro A wh c l h
    rw [a_lev]
    split
    · exact ih _ _ _ _ h
    · split
      · exact ih _ _ _ _ h
      · split
        · exact ih _ _ _ _ h
        · split
          · exact h
          · refine ih _ _ _ _ ?_
            split
            · rename_i hlt; exact Int32.le_trans h (Int32.le_of_lt hlt)
            · exact h
theorem endC_k {A : Row} (hI : TI A) (h18 : 0 ≤ A 18) {j : Nat} (hj : kg j) : a_endC A j = A j := by
  have h0 := hI.1
  unfold kg at hj
  have hB : ∀ i, (i < 44 ∨ 52 ≤ i) → a_cnt (A 2 - A 4).toNat A (A 4).toNat (if 0 < A 8 then -A 7 else A 7) i = A i := fun i hi => cnt_s _ _ _ _ _ (by omega)
  simp only [a_endC]
  generalize a_cnt (A 2 - A 4).toNat A (A 4).toNat (if 0 < A 8 then -A 7 else A 7) = B at hB
  split
  · rw [log_s _ _ _ _ _ (by rw [up_eq, if_neg (by omega), up_eq, if_neg (by omega), hB _ (by omega)]; exact h18) _ (by omega), up_eq, if_neg (by omega), up_eq, if_neg (by omega), hB _ (by omega)]
  · rw [log_s _ _ _ _ _ (by rw [up_eq, if_neg (by omega), hB _ (by omega)]; exact h18) _ (by omega), up_eq, if_neg (by omega), hB _ (by omega)]
theorem endC_TI {A : Row} (hI : TI A) (h18 : 0 ≤ A 18) : TI (a_endC A) := by
  have h0 := hI.1
  have hway : (if 0 < A 8 then -A 7 else A 7) = 1 ∨ (if 0 < A 8 then -A 7 else A 7) = -1 := by have := hI.2.1; split <;> omega
  have hT := cnts_TI hway (A 2 - A 4).toNat A (A 4).toNat hI (by omega)
  have hB : ∀ i, (i < 44 ∨ 52 ≤ i) → a_cnt (A 2 - A 4).toNat A (A 4).toNat (if 0 < A 8 then -A 7 else A 7) i = A i := fun i hi => cnt_s _ _ _ _ _ (by omega)
  have key : ∀ C : Row, TI C → 0 ≤ C 18 → ∀ x y z r, TI (a_log C x y z r) := by
    intro C hC h1 x y z r
    have hs := log_s C x y z r h1
    obtain ⟨h0, h7, h1, h2, h3, h4, h5⟩ := hC
    refine ⟨?_, ?_, fun j hj => ?_, fun j hj => ?_, fun j hj => ?_, fun j hj => ?_, fun j hj => ?_⟩
    · rw [hs _ (by omega), hs _ (by omega), hs _ (by omega), hs _ (by omega), hs _ (by omega)]; exact h0
    · rw [hs _ (by omega)]; exact h7
    all_goals rw [hs _ (by omega)]
    · exact h1 j hj
    · exact h2 j hj
    · exact h3 j hj
    · exact h4 j hj
    · exact h5 j hj
  simp only [a_endC]
  generalize a_cnt (A 2 - A 4).toNat A (A 4).toNat (if 0 < A 8 then -A 7 else A 7) = B at hB hT
  split
  · exact key _ ((hT.up (by omega)).up (by omega)) (by rw [up_eq, if_neg (by omega), up_eq, if_neg (by omega), hB _ (by omega)]; exact h18) _ _ _ _
  · exact key _ (hT.up (by omega)) (by rw [up_eq, if_neg (by omega), hB _ (by omega)]; exact h18) _ _ _ _
theorem MemA.row {w : mW} {b : Nat} {A B : Row} (h : MemA w b A) (hr : ∀ j, j < 116 → j ≠ 5 → B j = A j) : MemA w b B := by
  obtain ⟨⟨b0, b1, b2, b3, b4⟩, a1, a2, a3, a4, a5, a6, ⟨c5, c6, c7⟩, a8, a9⟩ := h
  refine ⟨⟨?_, ?_, ?_, ?_, ?_⟩, fun j hj => ?_, fun j hj => ?_, fun j hj => ?_, fun j hj => ?_, fun j hj => ?_, fun j hj => ?_, ⟨?_, ?_, ?_⟩, fun j hj => ?_, fun j hj => ?_⟩
  all_goals rw [hr _ (by omega) (by omega)]
  all_goals first | assumption | exact a1 _ hj | exact a2 _ hj | exact a3 _ hj | exact a4 _ hj | exact a5 _ hj | exact a6 _ hj | exact a8 _ hj | exact a9 _ hj
def a_fin (r : Row × Option (Nat × Nat) × Int32) : Row := match r.2.1 with
  | none => up (a_owe (r.1 1 - r.1 4).toNat r.1 (r.1 4).toNat 0) 5 0
  | some (p, k) => up (up r.1 5 ((p : Int) + 1)) 6 k
theorem lv_k {A B : Row} {wh : Nat} {c l : Int32} (hB : TI B) (e1 : B 1 = A 1) (hw : (wh : Int) ≤ A 1) (h18 : 0 ≤ B 18) (r : Row × Option (Nat × Nat) × Int32)
    (hr : r = match a_lev ((A 1).toNat - wh) B wh c l with | (B', none, l') => (a_endC B', none, l') | (B', some k, l') => (B', some (1, k), l')) :
    (∀ j, kg j → r.1 j = B j) ∧ TI r.1 ∧ (0 ≤ l → 0 ≤ r.2.2) := by
  have h0 := hB.1
  have h1 := lev_k ((A 1).toNat - wh) B wh c l
  have h2 := lev_TI ((A 1).toNat - wh) B wh c l (by omega) hB
  have h3 := lev_l ((A 1).toNat - wh) B wh c l
  have h1' : ∀ j, kp j → (a_lev ((A 1).toNat - wh) B wh c l).1 j = B j := fun j hj => h1 j (by omega) (by omega) hj
  clear h1
  generalize a_lev ((A 1).toNat - wh) B wh c l = z at hr h1' h2 h3
  obtain ⟨B', ok, l'⟩ := z
  cases ok with
  | none =>
    subst hr
    have h18' : 0 ≤ B' 18 := by have := h1' 18 (by unfold kp; omega); simp only at this; omega
    exact ⟨fun j hj => (endC_k h2 h18' hj).trans (h1' j (kg_kp hj)), endC_TI h2 h18', h3⟩
  | some k =>
    subst hr
    exact ⟨fun j hj => h1' j (kg_kp hj), h2, h3⟩
theorem go_k {A : Row} {part pl : Nat} {c l : Int32} (hI : TI A) (hp : (part = 0 ∧ (pl : Int) ≤ A 0) ∨ (part = 1 ∧ (pl : Int) ≤ A 1)) (h18 : 0 ≤ A 18) : (∀ j, kg j → (a_go A part pl c l).1 j = A j) ∧ TI (a_go A part pl c l).1 ∧ (0 ≤ l → 0 ≤ (a_go A part pl c l).2.2) := by
  have h0 := hI.1
  by_cases hp0 : part = 0
  · simp only [a_go, if_pos hp0]
    have hpk := fun j hj => pins_k ((A 0).toNat - pl) A pl j (by omega) hI hj
    generalize a_pins ((A 0).toNat - pl) A pl = z at hpk
    obtain ⟨B, ok⟩ := z
    cases ok with
    | none =>
      have e1 := (hpk 1 (by unfold kp; omega)).1
      have e18 := (hpk 18 (by unfold kp; omega)).1
      simp only at e1 e18
      obtain ⟨g1, g2, g3⟩ := lv_k (A := A) (wh := (A 4).toNat) (c := c) (l := l) (hpk 0 (by unfold kp; omega)).2 e1 (by omega) (by simp only; omega) _ rfl
      exact ⟨fun j hj => (g1 j hj).trans (hpk j (kg_kp hj)).1, g2, g3⟩
    | some k => exact ⟨fun j hj => (hpk j (kg_kp hj)).1, (hpk 0 (by unfold kp; omega)).2, fun h => h⟩
  · simp only [a_go, if_neg hp0]
    exact lv_k (A := A) hI rfl (by omega) h18 _ rfl
theorem du_c {A B : Row} (h : ∀ j, kg j → B j = A j) (h1 : 0 ≤ A 1 ∧ A 1 ≤ 16) : du B = du A := by
  unfold du
  rw [h 1 (by unfold kg; omega)]
  exact hn_c _ _ (fun i hi => h _ (by unfold kg; omega))
theorem num_g {A B : Row} (h : ∀ j, kg j → B j = A j) (h8 : A 0 ≤ 8) : p_num B = p_num A := by
  unfold p_num
  rw [h 0 (by unfold kg; omega)]
  exact hn_c _ _ (fun i hi => h _ (by unfold kg; omega))
theorem du_b {A : Row} (h1 : 0 ≤ A 1 ∧ A 1 ≤ 16) (hd : ∀ j, j < 16 → 0 ≤ A (116 + j) ∧ A (116 + j) ≤ 9) : 0 ≤ du A ∧ du A < 10 ^ (A 1).toNat := by
  unfold du
  rw [hn_tn]
  have := tn_b (fun i => A (116 + i)) (A 1).toNat (fun i hi => hd i (by omega))
  omega
theorem c_goM {b : Nat} {w : mW} {A : Row} {part pl : Nat} {c l : Int32} {Q : mW → mO → Prop} (hM : Mb w b) (hA : MemA w b A) (hI : TI A) (hL : LogA w b A) (hT : T9 w b 0 (A 8) (A 7) part pl c l) (h8 : A 8 = 0 ∨ A 8 = 1) (hl : 0 ≤ l) (hp : (part = 0 ∧ (pl : Int) ≤ A 0) ∨ (part = 1 ∧ (pl : Int) ≤ A 1)) (hD : w_J w b 5 = Int64.ofInt (du A)) (hd : ∀ j, j < 16 → 0 ≤ A (116 + j) ∧ A (116 + j) ≤ 9)
  (h5 : A 5 = 0)
  (hq : ∀ w', MS w' b (a_fin (a_go A part pl c l)) → FrM b w w' → w_I w' (b + 9) 9 = (a_go A part pl c l).2.2 → Q w' (.inl (some (.int (Int32.ofInt (match (a_go A part pl c l).2.1 with | none => 1 | some _ => 0)))))) : CT n_X2_goOn [.ref b] w Q := by
  have h0 := hI.1
  have hdv : A 8 = (if 0 < A 8 then 1 else 0) := by rcases h8 with h | h <;> rw [h] <;> decide
  have h18 : 0 ≤ A 18 := by obtain ⟨o, q1, q2, -⟩ := hL; exact q2
  obtain ⟨g1, g2, g3⟩ := go_k (c := c) (l := l) hI hp h18
  refine c_go hM hA hI hL (D := du A) (by rw [← hdv]; exact hT) hp hD (du_b (by omega) hd) ?_
  intro w' m1 m2 m3
  generalize hr : a_go A part pl c l = r at g1 g2 g3 m1 m2 hq ⊢
  obtain ⟨B, ok, l'⟩ := r
  have e0 := g1 0 (by unfold kg; omega)
  have e1 := g1 1 (by unfold kg; omega)
  have e4 := g1 4 (by unfold kg; omega)
  have e5 := g1 5 (by unfold kg; omega)
  have e7 := g1 7 (by unfold kg; omega)
  have e8 := g1 8 (by unfold kg; omega)
  have ed : ∀ j, j < 16 → 0 ≤ B (116 + j) ∧ B (116 + j) ≤ 9 := fun j hj => by have := g1 (116 + j) (by unfold kg; omega); simp only at this; rw [this]; exact hd j hj
  simp only at e0 e1 e4 e5 e7 e8 g2
  have fM : FrM b w w' := m3.toM (by simp)
  cases ok with
  | none =>
    rintro ⟨c', p', pl', hT'⟩ hJ
    obtain ⟨o1, o2, o3⟩ := owe_du g2 ed
    simp only [a_fin] at hq ⊢
    refine hq w' ⟨hM.fr m3, ?_, ?_, ?_, ?_⟩ fM hT'.2.2.2.2.2.2
    · exact m1.row (fun j hj h5 => by rw [up_eq, if_neg h5, o2 j (by omega)])
    · exact m2.row (by rw [up_eq, if_neg (by omega), o2 _ (by omega)]) (fun j hj => by rw [up_eq, if_neg (by omega), o2 _ (by omega)])
    · rw [hJ]
      have e : du (up (a_owe (B 1 - B 4).toNat B (B 4).toNat 0) 5 0) = du (a_owe (B 1 - B 4).toNat B (B 4).toNat 0) := by
        unfold du
        rw [up_eq, if_neg (by omega)]
        exact hn_c _ _ (fun i hi => by rw [up_eq, if_neg (by omega)])
      rw [e, o3, e7, e4, e1, du_c g1 (by omega), num_g g1 (by omega)]
    · refine ⟨(if 0 < A 8 then 1 else 0), A 7, p', pl', c', l', ?_, ?_, g3 hl, fun h => ?_⟩
      · rw [up_eq, if_pos rfl]; exact hT'
      · rw [← hdv]; exact h8
      · rw [up_eq, if_pos rfl] at h; omega
  | some x =>
    obtain ⟨p, k⟩ := x
    rintro ⟨c', hT'⟩ hJ
    simp only [a_fin] at hq ⊢
    refine hq w' ⟨hM.fr m3, ?_, ?_, ?_, ?_⟩ fM hT'.2.2.2.2.2.2
    · exact (m1.free (by omega)).free (by omega)
    · exact m2.row (by rw [up_eq, if_neg (by omega), up_eq, if_neg (by omega)]) (fun j hj => by rw [up_eq, if_neg (by omega), up_eq, if_neg (by omega)])
    · rw [hJ, hD]
      congr 1
      refine (du_c (A := A) (B := B) (fun j hj => g1 j hj) (by omega)).symm.trans ?_
      unfold du
      rw [up_eq, if_neg (by omega), up_eq, if_neg (by omega)]
      exact hn_c _ _ (fun i hi => by rw [up_eq, if_neg (by omega), up_eq, if_neg (by omega)])
    · have p5 : up (up B 5 ((p : Int) + 1)) 6 k 5 = (p : Int) + 1 := by rw [up_eq, if_neg (by omega), up_eq, if_pos rfl]
      refine ⟨(if 0 < A 8 then 1 else 0), A 7, (p : Int), (k : Int), c', l', ?_, ?_, g3 hl, fun _ => ⟨?_, ?_, ?_, ?_⟩⟩
      · rw [p5, if_pos (by omega)]; exact hT'
      · rw [← hdv]; exact h8
      · have p8 : up (up B 5 ((p : Int) + 1)) 6 k 8 = A 8 := by rw [up_eq, if_neg (by omega), up_eq, if_neg (by omega), e8]
        rw [p8]
      · rw [up_eq, if_neg (by omega), up_eq, if_neg (by omega), e7]
      · rw [p5]; omega
      · rw [up_eq, if_pos rfl]
/-! turns, one behind the other -/
def a_one (A : Row) (way : Int) : Row × Option (Nat × Nat) × Int32 := a_go (a_beg A way) 0 0 (Int32.ofInt 0) (Int32.ofInt 0)
def a_many : Nat → Row → Int → Row × Nat
  | 0, A, _ => (A, 0)
  | n + 1, A, way => match (a_one A way).2.1 with
    | none => ((a_many n (a_fin (a_one A way)) way).1, (a_many n (a_fin (a_one A way)) way).2 + 1)
    | some _ => (a_fin (a_one A way), 0)
theorem owe_TI {A : Row} {n wh : Nat} {o : Int} (hI : TI A) (h : ∀ j, j < 116 → a_owe n A wh o j = A j) : TI (a_owe n A wh o) := by
  obtain ⟨h0, h7, h1, h2, h3, h4, h5⟩ := hI
  refine ⟨?_, ?_, fun j hj => ?_, fun j hj => ?_, fun j hj => ?_, fun j hj => ?_, fun j hj => ?_⟩
  · rw [h _ (by omega), h _ (by omega), h _ (by omega), h _ (by omega), h _ (by omega)]; exact h0
  · rw [h _ (by omega)]; exact h7
  all_goals rw [h _ (by omega)]
  · exact h1 j hj
  · exact h2 j hj
  · exact h3 j hj
  · exact h4 j hj
  · exact h5 j hj
/-- what a turn leaves, done or not -/
theorem fin_k {A : Row} {part pl : Nat} {c l : Int32} (hI : TI A) (hp : (part = 0 ∧ (pl : Int) ≤ A 0) ∨ (part = 1 ∧ (pl : Int) ≤ A 1)) (h18 : 0 ≤ A 18) (hd : ∀ j, j < 16 → 0 ≤ A (116 + j) ∧ A (116 + j) ≤ 9) :
    (∀ j, kg j → j < 116 → j ≠ 5 → j ≠ 6 → a_fin (a_go A part pl c l) j = A j) ∧ TI (a_fin (a_go A part pl c l)) ∧ (∀ j, j < 16 → 0 ≤ a_fin (a_go A part pl c l) (116 + j) ∧ a_fin (a_go A part pl c l) (116 + j) ≤ 9) ∧
    (match (a_go A part pl c l).2.1 with | none => a_fin (a_go A part pl c l) 5 = 0 | some (p, _) => a_fin (a_go A part pl c l) 5 = (p : Int) + 1) := by
  obtain ⟨g1, g2, -⟩ := go_k (c := c) (l := l) hI hp h18
  generalize a_go A part pl c l = r at g1 g2 ⊢
  obtain ⟨B, ok, l'⟩ := r
  have ed : ∀ j, j < 16 → 0 ≤ B (116 + j) ∧ B (116 + j) ≤ 9 := fun j hj => by have := g1 (116 + j) (by unfold kg; omega); simp only at this; rw [this]; exact hd j hj
  simp only at g1 g2
  cases ok with
  | none =>
    obtain ⟨o1, o2, o3⟩ := owe_du g2 ed
    simp only [a_fin]
    refine ⟨fun j hj h116 h5 h6 => ?_, ?_, fun j hj => ?_, ?_⟩
    · rw [up_eq, if_neg h5, o2 j (by omega), g1 j hj]
    · exact (owe_TI g2 (fun j hj => o2 j (by omega))).up (by omega)
    · rw [up_eq, if_neg (by omega)]; exact o1 j hj
    · rw [up_eq, if_pos rfl]
  | some x =>
    obtain ⟨p, k⟩ := x
    simp only [a_fin]
    refine ⟨fun j hj h116 h5 h6 => ?_, ?_, fun j hj => ?_, ?_⟩
    · rw [up_eq, if_neg h6, up_eq, if_neg h5, g1 j hj]
    · exact (g2.up (by omega)).up (by omega)
    · rw [up_eq, if_neg (by omega), up_eq, if_neg (by omega)]; exact ed j hj
    · rw [up_eq, if_neg (by omega), up_eq, if_pos rfl]
theorem TI_up8 {A : Row} {v : Int} (h : TI A) : TI (up A 8 v) := h.up (by omega)
theorem one_TJ {A : Row} {way : Int} (hJ : TJ A) (hw : way = 1 ∨ way = -1) (h18 : 0 ≤ A 18) : TJ (a_fin (a_one A way)) ∧ a_fin (a_one A way) 8 = A 8 ∧ a_fin (a_one A way) 4 = A 4 := by
  have hI := beg_TI (way := way) hJ.1 hw
  have h0 := hI.1
  obtain ⟨f1, f2, f3, f4⟩ := fin_k (c := Int32.ofInt 0) (l := Int32.ofInt 0) (part := 0) (pl := 0) hI (Or.inl ⟨rfl, by omega⟩) (by rw [beg_k _ _ _ (by omega)]; exact h18) (fun j hj => by rw [beg_k _ _ _ (by omega)]; exact hJ.2 j hj)
  refine ⟨⟨f2.of, f3⟩, ?_, ?_⟩
  · exact (f1 8 (by unfold kg; omega) (by omega) (by omega) (by omega)).trans (beg_k _ _ _ (by omega))
  · exact (f1 4 (by unfold kg; omega) (by omega) (by omega) (by omega)).trans (beg_k _ _ _ (by omega))
theorem du_beg (A : Row) (way : Int) : du (a_beg A way) = du A := by
  unfold du
  rw [beg_k _ _ _ (by omega)]
  exact hn_c _ _ (fun i hi => beg_k _ _ _ (by omega))
theorem log_beg {w : mW} {b : Nat} {A : Row} {way : Int} (h : LogA w b A) : LogA w b (a_beg A way) := h.row (beg_k _ _ _ (by omega)) (fun j hj => beg_k _ _ _ (by omega))
/-- a turn from its begin on, in any caller -/
theorem c_one {b : Nat} {A : Row} {way : Int} {w w1 : mW} {Q : mW → mO → Prop} (hS : MS w b A) (hJ : TJ A) (h5 : A 5 = 0) (h8 : A 8 = 0 ∨ A 8 = 1) (hw : way = 1 ∨ way = -1)
  (g1 : MemA w1 b (a_beg A way)) (g2 : T9 w1 b 0 (A 8) way 0 0 (Int32.ofInt 0) (Int32.ofInt 0)) (g3 : Fr [b + 9, b + 10, b + 11] w w1)
  (hq : ∀ w', MS w' b (a_fin (a_one A way)) → FrM b w w' → w_I w' (b + 9) 9 = (a_one A way).2.2 → Q w' (.inl (some (.int (Int32.ofInt (match (a_one A way).2.1 with | none => 1 | some _ => 0)))))) : CT n_X2_goOn [.ref b] w1 Q := by
  obtain ⟨hM, hA, hL, hD, hT⟩ := hS
  have hI := beg_TI (way := way) hJ.1 hw
  have h0 := hI.1
  have e8 : a_beg A way 8 = A 8 := beg_k _ _ _ (by omega)
  refine c_goM (A := a_beg A way) (part := 0) (pl := 0) (c := Int32.ofInt 0) (l := Int32.ofInt 0) (hM.fr g3) g1 hI ((log_beg hL).fr g3 (by simp) (by simp)) (by rw [e8, beg_7]; exact g2) (by rw [e8]; exact h8) (by decide) (Or.inl ⟨rfl, by omega⟩) ?_ (fun j hj => by rw [beg_k _ _ _ (by omega)]; exact hJ.2 j hj) (by rw [beg_k _ _ _ (by omega)]; exact h5) ?_
  · rw [(g3.2.2.2 b (by simp)).2, du_beg]; exact hD
  · intro w' m1 m2 m3
    exact hq w' m1 ((g3.toM (by simp)).trans m2) m3
theorem MS.log18 {w : mW} {b : Nat} {A : Row} (h : MS w b A) : 0 ≤ A 18 := by obtain ⟨-, -, ⟨o, q1, q2, -⟩, -⟩ := h; exact q2
theorem TJ_sz {A : Row} (h : TJ A) : 2 ≤ A 0 ∧ A 0 ≤ 8 ∧ A 0 ≤ A 1 ∧ A 1 ≤ 16 ∧ 2 ≤ A 2 ∧ A 2 ≤ 8 ∧ 0 ≤ A 3 ∧ A 3 ≤ 16 ∧ 0 ≤ A 4 ∧ A 4 + A 0 ≤ A 1 := by
  have h0 := h.1.1
  simp only [up_eq] at h0
  rw [if_neg (by omega), if_neg (by omega), if_neg (by omega), if_neg (by omega), if_neg (by omega)] at h0
  exact h0
theorem c_many_24 {b : Nat} {way : Int} {x : Int32} {m : Nat} {Q : mW → mO → Prop} (hw : way = 1 ∨ way = -1) (hm : m ≤ 1000) : ∀ (n i : Nat) (A : Row) (w : mW), i + n = m → MS w b A → TJ A → A 5 = 0 → A 8 = 0 →
    (∀ w', MS w' b (a_many n A way).1 → FrM b w w' → TJ (a_many n A way).1 → (a_many n A way).1 8 = 0 → (a_many n A way).1 4 = A 4 → Q w' (.inl (some (.int (Int32.ofInt ((i : Int) + (a_many n A way).2)))))) →
    RT n_X2_crankTimes 24 [.ref b, .int x, .int (Int32.ofInt way), .int (Int32.ofInt m), .int (Int32.ofInt i)] [] w (0, 0, false) Q := by
  intro n
  induction n with
  | zero =>
    intro i A w hi hS hJ h5 h8 hq
    have hiR : inR (i : Int) := ⟨by omega, by omega⟩
    have hmR : inR (m : Int) := ⟨by omega, by omega⟩
    refine rt_X2_crankTimes_24 ?_
    simp only [wp_c, wp_n, jj_n, Int.reduceToNat, Int.toNat_natCast, stE, wlE, lgt, lpu, lpw, v_c2, va_s, true_and, and_true, Option.toList, List.nil_append, List.cons_append, List.take, List.drop, List.reverse, List.reverseAux, List.length_cons, List.length_nil, reduceCtorEq, false_implies, true_implies, forall_const, not_true_eq_false, not_false_eq_true, ite_true, ite_false, Bool.false_eq_true, I_I, J_J, Nat.add_left_cancel_iff, Nat.reduceEqDiff, Nat.add_eq_left, Nat.left_eq_add, false_and, and_false, Nat.reduceSub, Nat.sub_self, Nat.le_refl, Nat.zero_le, ge_iff_le, Nat.reduceAdd, Nat.reduceLeDiff, Nat.zero_add, Nat.reduceLT, oi_le hmR hiR]
    refine ⟨fun _ => ?_, fun h => absurd (by omega) h⟩
    refine rt_X2_crankTimes_55 ?_
    simp only [wp_c, wp_n, jj_n, Int.reduceToNat, Int.toNat_natCast, stE, wlE, lgt, lpu, lpw, v_c2, va_s, true_and, and_true, Option.toList, List.nil_append, List.cons_append, List.take, List.drop, List.reverse, List.reverseAux, List.length_cons, List.length_nil, reduceCtorEq, false_implies, true_implies, forall_const, not_true_eq_false, not_false_eq_true, ite_true, ite_false, Bool.false_eq_true, I_I, J_J, Nat.add_left_cancel_iff, Nat.reduceEqDiff, Nat.add_eq_left, Nat.left_eq_add, false_and, and_false, Nat.reduceSub, Nat.sub_self, Nat.le_refl, Nat.zero_le, ge_iff_le, Nat.reduceAdd, Nat.reduceLeDiff, Nat.zero_add, Nat.reduceLT, mr_X2_crankTimes]
    have e : (m : Int) = (i : Int) + ((a_many 0 A way).2 : Nat) := by simp only [a_many]; omega
    rw [e]
    exact hq w hS (FrM.refl b w) hJ h8 rfl
  | succ n ih =>
    intro i A w hi hS hJ h5 h8 hq
    have hiR : inR (i : Int) := ⟨by omega, by omega⟩
    have hmR : inR (m : Int) := ⟨by omega, by omega⟩
    have hM := hS.1
    have s0 := hM.1.1
    have s9 := hM.1.2.2.2.2.2.2.2.2.2.1
    have r13 := hM.2.2.2.2.2.2.2.2.1
    refine rt_X2_crankTimes_24 ?_
    simp only [wp_c, wp_n, jj_n, Int.reduceToNat, Int.toNat_natCast, stE, wlE, lgt, lpu, lpw, v_c2, va_s, true_and, and_true, Option.toList, List.nil_append, List.cons_append, List.take, List.drop, List.reverse, List.reverseAux, List.length_cons, List.length_nil, reduceCtorEq, false_implies, true_implies, forall_const, not_true_eq_false, not_false_eq_true, ite_true, ite_false, Bool.false_eq_true, I_I, J_J, Nat.add_left_cancel_iff, Nat.reduceEqDiff, Nat.add_eq_left, Nat.left_eq_add, false_and, and_false, Nat.reduceSub, Nat.sub_self, Nat.le_refl, Nat.zero_le, ge_iff_le, Nat.reduceAdd, Nat.reduceLeDiff, Nat.zero_add, Nat.reduceLT, oi_le hmR hiR, s0, s9, r13, mh_X2_crankTimes]
    refine ⟨fun h => absurd h (by omega), fun _ => ?_⟩
    refine c_begin (dv := 0) hM hS.2.1 (Or.inl rfl) fun w1 g1 g2 g3 => ?_
    simp only [wp_c, wp_n, jj_n, Int.reduceToNat, Int.toNat_natCast, stE, wlE, lgt, lpu, lpw, v_c2, va_s, true_and, and_true, Option.toList, List.nil_append, List.cons_append, List.take, List.drop, List.reverse, List.reverseAux, List.length_cons, List.length_nil, reduceCtorEq, false_implies, true_implies, forall_const, not_true_eq_false, not_false_eq_true, ite_true, ite_false, Bool.false_eq_true, I_I, J_J, Nat.add_left_cancel_iff, Nat.reduceEqDiff, Nat.add_eq_left, Nat.left_eq_add, false_and, and_false, Nat.reduceSub, Nat.sub_self, Nat.le_refl, Nat.zero_le, ge_iff_le, Nat.reduceAdd, Nat.reduceLeDiff, Nat.zero_add, Nat.reduceLT, g3.1, s0, mh_X2_crankTimes]
    refine c_one hS hJ h5 (Or.inl h8) hw g1 (by rw [h8]; exact g2) g3 fun w2 k1 k2 _ => ?_
    obtain ⟨j1, j2, j3⟩ := one_TJ hJ hw hS.log18
    have hsz := TJ_sz hJ
    have hI := beg_TI (way := way) hJ.1 hw
    have f4 := (fin_k (A := a_beg A way) (c := Int32.ofInt 0) (l := Int32.ofInt 0) (part := 0) (pl := 0) hI (Or.inl ⟨rfl, by rw [beg_k _ _ _ (by omega)]; omega⟩) (by rw [beg_k _ _ _ (by omega)]; exact hS.log18) (fun j hj => by rw [beg_k _ _ _ (by omega)]; exact hJ.2 j hj)).2.2.2
    rw [a_many] at hq
    cases ho : (a_one A way).2.1 with
    | none =>
      rw [ho] at hq
      have f4' : a_fin (a_one A way) 5 = 0 := by
        unfold a_one at ho ⊢
        rw [ho] at f4; exact f4
      simp only [wp_c, wp_n, jj_n, Int.reduceToNat, Int.toNat_natCast, stE, wlE, lgt, lpu, lpw, v_c2, va_s, true_and, and_true, Option.toList, List.nil_append, List.cons_append, List.take, List.drop, List.reverse, List.reverseAux, List.length_cons, List.length_nil, reduceCtorEq, false_implies, true_implies, forall_const, not_true_eq_false, not_false_eq_true, ite_true, ite_false, Bool.false_eq_true, I_I, J_J, Nat.add_left_cancel_iff, Nat.reduceEqDiff, Nat.add_eq_left, Nat.left_eq_add, false_and, and_false, Nat.reduceSub, Nat.sub_self, Nat.le_refl, Nat.zero_le, ge_iff_le, Nat.reduceAdd, Nat.reduceLeDiff, Nat.zero_add, Nat.reduceLT] at hq ⊢
      refine ⟨fun _ => ?_, fun h => absurd (by decide) h⟩
      refine rt_X2_crankTimes_49 ?_
      simp only [wp_c, wp_n, jj_n, Int.reduceToNat, Int.toNat_natCast, stE, wlE, lgt, lpu, lpw, v_c2, va_s, true_and, and_true, Option.toList, List.nil_append, List.cons_append, List.take, List.drop, List.reverse, List.reverseAux, List.length_cons, List.length_nil, reduceCtorEq, false_implies, true_implies, forall_const, not_true_eq_false, not_false_eq_true, ite_true, ite_false, Bool.false_eq_true, I_I, J_J, Nat.add_left_cancel_iff, Nat.reduceEqDiff, Nat.add_eq_left, Nat.left_eq_add, false_and, and_false, Nat.reduceSub, Nat.sub_self, Nat.le_refl, Nat.zero_le, ge_iff_le, Nat.reduceAdd, Nat.reduceLeDiff, Nat.zero_add, Nat.reduceLT, oi_add]
      have := ih (i + 1) (a_fin (a_one A way)) w2 (by omega) k1 j1 f4' (by rw [j2]; exact h8) (fun w' q1 q2 q3 q4 q5 => ?_)
      · exact this
      · have e : (((i + 1 : Nat) : Int) + ((a_many n (a_fin (a_one A way)) way).2 : Nat)) = ((i : Int) + (((a_many n (a_fin (a_one A way)) way).2 + 1 : Nat) : Int)) := by omega
        rw [e]
        exact hq w' q1 (k2.trans q2) q3 q4 (q5.trans j3)
    | some y =>
      rw [ho] at hq
      simp only [wp_c, wp_n, jj_n, Int.reduceToNat, Int.toNat_natCast, stE, wlE, lgt, lpu, lpw, v_c2, va_s, true_and, and_true, Option.toList, List.nil_append, List.cons_append, List.take, List.drop, List.reverse, List.reverseAux, List.length_cons, List.length_nil, reduceCtorEq, false_implies, true_implies, forall_const, not_true_eq_false, not_false_eq_true, ite_true, ite_false, Bool.false_eq_true, I_I, J_J, Nat.add_left_cancel_iff, Nat.reduceEqDiff, Nat.add_eq_left, Nat.left_eq_add, false_and, and_false, Nat.reduceSub, Nat.sub_self, Nat.le_refl, Nat.zero_le, ge_iff_le, Nat.reduceAdd, Nat.reduceLeDiff, Nat.zero_add, Nat.reduceLT, mr_X2_crankTimes] at hq ⊢
      refine ⟨fun h => absurd rfl h, fun _ => ?_⟩
      have := hq w2 k1 k2 j1 (by rw [j2]; exact h8) j3
      simpa using this
theorem MS.up8 {w : mW} {b : Nat} {A : Row} {v : Int} (h : MS w b A) (h5 : A 5 = 0) : MS w b (up A 8 v) := by
  obtain ⟨hM, hA, hL, hD, dv, d, p, pl, c, l, t, t1, t2, -⟩ := h
  refine ⟨hM, hA.free (by omega), hL.row (by rw [up_eq, if_neg (by omega)]) (fun j hj => by rw [up_eq, if_neg (by omega)]), ?_, dv, d, p, pl, c, l, ?_, t1, t2, fun h => ?_⟩
  · rw [hD]; congr 1
    unfold du
    rw [up_eq, if_neg (by omega)]
    exact (hn_c _ _ (fun i hi => by rw [up_eq, if_neg (by omega)])).symm
  · have e5 : up A 8 v 5 = A 5 := by rw [up_eq, if_neg (by omega)]
    rw [e5]; exact t
  · rw [up_eq, if_neg (by omega)] at h; omega
theorem TJ.up8 {A : Row} {v : Int} (h : TJ A) : TJ (Jvm.Pilot.CCrankCalculatorLaw_law_r5362_0cd57e.up A 8 v) := by
  refine ⟨?_, fun j hj => by rw [up_eq, if_neg (by omega)]; exact h.2 j hj⟩
  have := h.1.up (i := 8) (v := v) (by omega)
  have e : Jvm.Pilot.CCrankCalculatorLaw_law_r5362_0cd57e.up (Jvm.Pilot.CCrankCalculatorLaw_law_r5362_0cd57e.up A 7 1) 8 v = Jvm.Pilot.CCrankCalculatorLaw_law_r5362_0cd57e.up (Jvm.Pilot.CCrankCalculatorLaw_law_r5362_0cd57e.up A 8 v) 7 1 := by
    funext j; simp only [up_eq]
    by_cases h1 : j = 8
    · subst h1; rfl
    · rw [if_neg h1]; split
      · rfl
      · rfl
  rw [e] at this
  exact this
theorem c_crankTimes {b : Nat} {t : Int} {A : Row} {w : mW} {Q : mW → mO → Prop} (ht : -999 ≤ t ∧ t ≤ 999) (hS : MS w b A) (hJ : TJ A) (h5 : A 5 = 0) (hq : ∀ w', MS w' b (a_many t.natAbs (up A 8 0) (if t < 0 then -1 else 1)).1 → FrM b w w' → TJ (a_many t.natAbs (up A 8 0) (if t < 0 then -1 else 1)).1 → (a_many t.natAbs (up A 8 0) (if t < 0 then -1 else 1)).1 8 = 0 → (a_many t.natAbs (up A 8 0) (if t < 0 then -1 else 1)).1 4 = A 4 →
    Q w' (.inl (some (.int (Int32.ofInt ((a_many t.natAbs (up A 8 0) (if t < 0 then -1 else 1)).2 : Nat)))))) : CT n_X2_crankTimes [.ref b, .int (Int32.ofInt t)] w Q := by
  have htR : inR t := ⟨by omega, by omega⟩
  have hfin : RT n_X2_crankTimes 20 [.ref b, .int (Int32.ofInt t), .int (Int32.ofInt (if t < 0 then -1 else 1)), .null, .null] [.int (Int32.ofInt t.natAbs)] w (0, 0, false) Q := by
    refine rt_X2_crankTimes_20 ?_
    simp only [wp_c, wp_n, jj_n, Int.reduceToNat, Int.toNat_natCast, stE, wlE, lgt, lpu, lpw, v_c2, va_s, true_and, and_true, Option.toList, List.nil_append, List.cons_append, List.take, List.drop, List.reverse, List.reverseAux, List.length_cons, List.length_nil, reduceCtorEq, false_implies, true_implies, forall_const, not_true_eq_false, not_false_eq_true, ite_true, ite_false, Bool.false_eq_true, I_I, J_J, Nat.add_left_cancel_iff, Nat.reduceEqDiff, Nat.add_eq_left, Nat.left_eq_add, false_and, and_false, Nat.reduceSub, Nat.sub_self, Nat.le_refl, Nat.zero_le, ge_iff_le, Nat.reduceAdd, Nat.reduceLeDiff, Nat.zero_add, Nat.reduceLT]
    have e4 : up A 8 0 4 = A 4 := by rw [up_eq, if_neg (by omega)]
    have := c_many_24 (b := b) (way := if t < 0 then -1 else 1) (x := Int32.ofInt t) (m := t.natAbs) (Q := Q) (by split; exact Or.inr rfl; exact Or.inl rfl) (by omega) t.natAbs 0 (up A 8 0) w (by omega) (hS.up8 h5) hJ.up8 (by rw [up_eq, if_neg (by omega)]; exact h5) (by rw [up_eq, if_pos rfl]) (fun w' q1 q2 q3 q4 q5 => by
      have := hq w' q1 q2 q3 q4 (q5.trans e4)
      simpa using this)
    exact this
  have h9 : RT n_X2_crankTimes 9 [.ref b, .int (Int32.ofInt t), .null, .null, .null] [.int (Int32.ofInt (if t < 0 then -1 else 1))] w (0, 0, false) Q := by
    refine rt_X2_crankTimes_9 ?_
    simp only [wp_c, wp_n, jj_n, Int.reduceToNat, Int.toNat_natCast, stE, wlE, lgt, lpu, lpw, v_c2, va_s, true_and, and_true, Option.toList, List.nil_append, List.cons_append, List.take, List.drop, List.reverse, List.reverseAux, List.length_cons, List.length_nil, reduceCtorEq, false_implies, true_implies, forall_const, not_true_eq_false, not_false_eq_true, ite_true, ite_false, Bool.false_eq_true, I_I, J_J, Nat.add_left_cancel_iff, Nat.reduceEqDiff, Nat.add_eq_left, Nat.left_eq_add, false_and, and_false, Nat.reduceSub, Nat.sub_self, Nat.le_refl, Nat.zero_le, ge_iff_le, Nat.reduceAdd, Nat.reduceLeDiff, Nat.zero_add, Nat.reduceLT, oi_ge0 htR, oi_neg]
    refine ⟨fun h => ?_, fun h => ?_⟩
    · refine rt_X2_crankTimes_19 ?_
      simp only [wp_c, wp_n, jj_n, Int.reduceToNat, Int.toNat_natCast, stE, wlE, lgt, lpu, lpw, v_c2, va_s, true_and, and_true, Option.toList, List.nil_append, List.cons_append, List.take, List.drop, List.reverse, List.reverseAux, List.length_cons, List.length_nil, reduceCtorEq, false_implies, true_implies, forall_const, not_true_eq_false, not_false_eq_true, ite_true, ite_false, Bool.false_eq_true, I_I, J_J, Nat.add_left_cancel_iff, Nat.reduceEqDiff, Nat.add_eq_left, Nat.left_eq_add, false_and, and_false, Nat.reduceSub, Nat.sub_self, Nat.le_refl, Nat.zero_le, ge_iff_le, Nat.reduceAdd, Nat.reduceLeDiff, Nat.zero_add, Nat.reduceLT]
      have e : t = (t.natAbs : Int) := by omega
      rw [e] at hfin ⊢
      simpa using hfin
    · have e : -t = (t.natAbs : Int) := by omega
      rw [e]; exact hfin
  refine ct_X2_crankTimes (rt_X2_crankTimes_0 ?_)
  simp only [wp_c, wp_n, jj_n, Int.reduceToNat, Int.toNat_natCast, stE, wlE, lgt, lpu, lpw, v_c2, va_s, true_and, and_true, Option.toList, List.nil_append, List.cons_append, List.take, List.drop, List.reverse, List.reverseAux, List.length_cons, List.length_nil, reduceCtorEq, false_implies, true_implies, forall_const, not_true_eq_false, not_false_eq_true, ite_true, ite_false, Bool.false_eq_true, I_I, J_J, Nat.add_left_cancel_iff, Nat.reduceEqDiff, Nat.add_eq_left, Nat.left_eq_add, false_and, and_false, Nat.reduceSub, Nat.sub_self, Nat.le_refl, Nat.zero_le, ge_iff_le, Nat.reduceAdd, Nat.reduceLeDiff, Nat.zero_add, Nat.reduceLT, oi_ge0 htR]
  refine ⟨fun h => ?_, fun h => ?_⟩
  · refine rt_X2_crankTimes_8 ?_
    simp only [wp_c, wp_n, jj_n, Int.reduceToNat, Int.toNat_natCast, stE, wlE, lgt, lpu, lpw, v_c2, va_s, true_and, and_true, Option.toList, List.nil_append, List.cons_append, List.take, List.drop, List.reverse, List.reverseAux, List.length_cons, List.length_nil, reduceCtorEq, false_implies, true_implies, forall_const, not_true_eq_false, not_false_eq_true, ite_true, ite_false, Bool.false_eq_true, I_I, J_J, Nat.add_left_cancel_iff, Nat.reduceEqDiff, Nat.add_eq_left, Nat.left_eq_add, false_and, and_false, Nat.reduceSub, Nat.sub_self, Nat.le_refl, Nat.zero_le, ge_iff_le, Nat.reduceAdd, Nat.reduceLeDiff, Nat.zero_add, Nat.reduceLT]
    rw [if_neg (by omega)] at h9
    exact h9
  · rw [if_pos (by omega)] at h9
    exact h9
/-! rings: none, or one at the last wheel -/
theorem mv_9 (A : Row) (i : Nat) (m : Int) : a_mv A i m 9 = A 9 := by
  simp only [a_mv, up_eq]
  rw [if_neg (by omega), if_neg (by omega), if_neg (by omega)]
  split
  · rw [up_eq, if_neg (by omega)]
  · rfl
theorem tal_9 (A : Row) (k : Nat) : a_tal A k 9 = if k = 0 then A 9 + 1 else A 9 := by
  simp only [a_tal, up_eq]
  rw [if_neg (by omega)]
  by_cases h : k = 0
  · subst h; simp
  · rw [if_neg (by omega), if_neg h]
theorem lev_9 : ∀ (n : Nat) (A : Row) (wh : Nat) (c l : Int32), (wh : Int) + n = A 1 → A 1 ≤ 16 → (a_lev n A wh c l).1 9 = A 9 ∨ ((a_lev n A wh c l).1 9 = A 9 + 1 ∧ (a_lev n A wh c l).2.1 = none) := by
  intro n
  induction n with
  | zero => intro A wh c l _ _; exact Or.inl rfl
  | succ n ih =>
    intro A wh c l hn h16
    rw [a_lev]
    split
    · exact ih _ _ _ _ (by omega) h16
    · split
      · have hn0 : n = 0 := by omega
        subst hn0
        exact Or.inr ⟨by show up (a_tal A 0) (52 + wh) 0 9 = A 9 + 1; rw [up_eq, if_neg (by omega), tal_9, if_pos rfl], rfl⟩
      · split
        · have := ih (up (a_tal A 2) (52 + wh) 0) (wh + 1) (Int32.ofInt 0) l (by rw [up_eq, if_neg (by omega), tal_k _ _ _ (by omega) (by unfold kp; omega)]; omega) (by rw [up_eq, if_neg (by omega), tal_k _ _ _ (by omega) (by unfold kp; omega)]; exact h16)
          rw [up_eq, if_neg (by omega), tal_9, if_neg (by omega)] at this
          exact this
        · split
          · exact Or.inl (by show up A 17 (A 17 + 1) 9 = A 9; rw [up_eq, if_neg (by omega)])
          · generalize (if l < c + Int32.ofInt 1 then c + Int32.ofInt 1 else l) = l2
            have := ih (up (a_tal (a_mv A (wh + 1) 1) 1) (52 + wh) 0) (wh + 1) (c + Int32.ofInt 1) l2 (by rw [up_eq, if_neg (by omega), tal_k _ _ _ (by omega) (by unfold kp; omega), mv_k _ _ _ _ (by omega) (by unfold kp; omega)]; omega) (by rw [up_eq, if_neg (by omega), tal_k _ _ _ (by omega) (by unfold kp; omega), mv_k _ _ _ _ (by omega) (by unfold kp; omega)]; exact h16)
            rw [up_eq, if_neg (by omega), tal_9, if_neg (by omega), mv_9] at this
            exact this
theorem pins_9 : ∀ (n : Nat) (A : Row) (p : Nat), (a_pins n A p).1 9 = A 9 := by
  intro n
  induction n with
  | zero => intro A p; rfl
  | succ n ih =>
    intro A p
    rw [a_pins]
    split
    · exact ih _ _
    · split
      · show up A 17 (A 17 + 1) 9 = A 9; rw [up_eq, if_neg (by omega)]
      · rw [ih, mv_9]
theorem endC_9 {A : Row} (h18 : 0 ≤ A 18) : a_endC A 9 = A 9 := by
  have hB : ∀ i, (i < 44 ∨ 52 ≤ i) → (A 4).toNat + (A 2 - A 4).toNat ≤ 8 ∨ (A 2 - A 4).toNat = 0 → a_cnt (A 2 - A 4).toNat A (A 4).toNat (if 0 < A 8 then -A 7 else A 7) i = A i := fun i hi h => cnt_s _ _ _ _ _ (by omega)
  have hB9 : a_cnt (A 2 - A 4).toNat A (A 4).toNat (if 0 < A 8 then -A 7 else A 7) 9 = A 9 := cnt_s _ _ _ _ _ (by omega)
  have hB18 : a_cnt (A 2 - A 4).toNat A (A 4).toNat (if 0 < A 8 then -A 7 else A 7) 18 = A 18 := cnt_s _ _ _ _ _ (by omega)
  clear hB
  simp only [a_endC]
  generalize a_cnt (A 2 - A 4).toNat A (A 4).toNat (if 0 < A 8 then -A 7 else A 7) = B at hB9 hB18
  split
  · rw [log_s _ _ _ _ _ (by rw [up_eq, if_neg (by omega), up_eq, if_neg (by omega), hB18]; exact h18) _ (by omega), up_eq, if_neg (by omega), up_eq, if_neg (by omega), hB9]
  · rw [log_s _ _ _ _ _ (by rw [up_eq, if_neg (by omega), hB18]; exact h18) _ (by omega), up_eq, if_neg (by omega), hB9]
theorem owe_s : ∀ (n : Nat) (A : Row) (wh : Nat) (o : Int) (j : Nat), j < 116 → a_owe n A wh o j = A j := by
  intro n
  induction n with
  | zero => intro A wh o j _; rfl
  | succ n ih => intro A wh o j hj; rw [a_owe, ih _ _ _ _ hj, up_eq, if_neg (by omega)]
theorem go_9 {A : Row} {part pl : Nat} {c l : Int32} (hI : TI A) (hp : (part = 0 ∧ (pl : Int) ≤ A 0) ∨ (part = 1 ∧ (pl : Int) ≤ A 1)) (h18 : 0 ≤ A 18) :
    a_fin (a_go A part pl c l) 9 = A 9 ∨ (a_fin (a_go A part pl c l) 9 = A 9 + 1 ∧ (a_go A part pl c l).2.1 = none) := by
  have h0 := hI.1
  have key : ∀ (B : Row) (wh : Nat) (r : Row × Option (Nat × Nat) × Int32), B 1 = A 1 → B 9 = A 9 → B 18 = A 18 → TI B → (wh : Int) ≤ A 1 → (r = match a_lev ((A 1).toNat - wh) B wh c l with | (B', none, l') => (a_endC B', none, l') | (B', some k, l') => (B', some (1, k), l')) →
      a_fin r 9 = A 9 ∨ (a_fin r 9 = A 9 + 1 ∧ r.2.1 = none) := by
    intro B wh r e1 e9 e18 hB hw hr
    have h1 := lev_9 ((A 1).toNat - wh) B wh c l (by omega) (by omega)
    have h2 := lev_k ((A 1).toNat - wh) B wh c l 18 (by omega) (by omega) (by unfold kp; omega)
    generalize a_lev ((A 1).toNat - wh) B wh c l = z at hr h1 h2
    obtain ⟨B', ok, l'⟩ := z
    cases ok with
    | none =>
      subst hr
      simp only [a_fin] at h1 h2 ⊢
      rw [up_eq, if_neg (by omega), owe_s _ _ _ _ _ (by omega), endC_9 (by omega), ← e9]
      rcases h1 with h | ⟨h, -⟩
      · exact Or.inl h
      · exact Or.inr ⟨h, trivial⟩
    | some k =>
      subst hr
      simp only [a_fin] at h1 h2 ⊢
      rw [up_eq, if_neg (by omega), up_eq, if_neg (by omega), ← e9]
      rcases h1 with h | ⟨-, h⟩
      · exact Or.inl h
      · cases h
  by_cases hp0 : part = 0
  · simp only [a_go, if_pos hp0]
    have hpk := fun j hj => pins_k ((A 0).toNat - pl) A pl j (by omega) hI hj
    have hp9 := pins_9 ((A 0).toNat - pl) A pl
    generalize a_pins ((A 0).toNat - pl) A pl = z at hpk hp9
    obtain ⟨B, ok⟩ := z
    cases ok with
    | none => exact key B _ _ (hpk 1 (by unfold kp; omega)).1 hp9 (hpk 18 (by unfold kp; omega)).1 (hpk 0 (by unfold kp; omega)).2 (by omega) rfl
    | some k =>
      refine Or.inl ?_
      simp only [a_fin] at hp9 ⊢
      rw [up_eq, if_neg (by omega), up_eq, if_neg (by omega)]; exact hp9
  · simp only [a_go, if_neg hp0]
    exact key A _ _ rfl rfl rfl hI (by omega) rfl
theorem one_9 {A : Row} {way : Int} (hJ : TJ A) (hw : way = 1 ∨ way = -1) (h18 : 0 ≤ A 18) : a_fin (a_one A way) 9 = 0 ∨ (a_fin (a_one A way) 9 = 1 ∧ (a_one A way).2.1 = none) := by
  have hI := beg_TI (way := way) hJ.1 hw
  have h0 := hI.1
  have e9 : a_beg A way 9 = 0 := by simp [a_beg, up_eq, zr]
  have := go_9 (c := Int32.ofInt 0) (l := Int32.ofInt 0) (part := 0) (pl := 0) hI (Or.inl ⟨rfl, by omega⟩) (by rw [beg_k _ _ _ (by omega)]; exact h18)
  rw [e9] at this
  exact this
/-! dividing -/
def a_dh : Nat → Row → Nat → Row × Nat
  | 0, A, k => (A, k)
  | n + 1, A, k => match (a_one A (-1)).2.1 with
    | some _ => (a_fin (a_one A (-1)), k)
    | none => if 0 < a_fin (a_one A (-1)) 9 then (match (a_one (a_fin (a_one A (-1))) 1).2.1 with
        | none => (a_fin (a_one (a_fin (a_one A (-1))) 1), k + 2)
        | some _ => (a_fin (a_one (a_fin (a_one A (-1))) 1), k + 1))
      else a_dh n (a_fin (a_one A (-1))) (k + 1)
/-- a turn leaves the part 0, or a jam -/
theorem one_5 {A : Row} {way : Int} (hJ : TJ A) (hw : way = 1 ∨ way = -1) (h18 : 0 ≤ A 18) : match (a_one A way).2.1 with | none => a_fin (a_one A way) 5 = 0 | some _ => 0 < a_fin (a_one A way) 5 := by
  have hI := beg_TI (way := way) hJ.1 hw
  have h0 := hI.1
  have f4 := (fin_k (A := a_beg A way) (c := Int32.ofInt 0) (l := Int32.ofInt 0) (part := 0) (pl := 0) hI (Or.inl ⟨rfl, by omega⟩) (by rw [beg_k _ _ _ (by omega)]; exact h18) (fun j hj => by rw [beg_k _ _ _ (by omega)]; exact hJ.2 j hj)).2.2.2
  unfold a_one
  generalize a_go (a_beg A way) 0 0 (Int32.ofInt 0) (Int32.ofInt 0) = r at f4 ⊢
  obtain ⟨B, ok, l⟩ := r
  cases ok with
  | none => exact f4
  | some x => obtain ⟨p, k⟩ := x; simp only at f4 ⊢; rw [f4]; omega
/-- what holds of a row behind some turns -/
def DQ (w : mW) (b : Nat) (A0 B : Row) (w' : mW) : Prop := MS w' b B ∧ FrM b w w' ∧ TJ B ∧ B 8 = A0 8 ∧ B 4 = A0 4 ∧ B 1 = A0 1 ∧ B 0 = A0 0 ∧ 0 ≤ B 5
theorem one_50 {A : Row} {way : Int} (hJ : TJ A) (hw : way = 1 ∨ way = -1) (h18 : 0 ≤ A 18) : 0 ≤ a_fin (a_one A way) 5 := by
  have := one_5 hJ hw h18
  cases ho : (a_one A way).2.1 with
  | none => rw [ho] at this; simp only at this; omega
  | some y => rw [ho] at this; simp only at this; omega
theorem one_sz {A : Row} {way : Int} (hJ : TJ A) (hw : way = 1 ∨ way = -1) (h18 : 0 ≤ A 18) (j : Nat) (hj : j < 5) : a_fin (a_one A way) j = A j := by
  have hI := beg_TI (way := way) hJ.1 hw
  have h0 := hI.1
  have f := (fin_k (A := a_beg A way) (c := Int32.ofInt 0) (l := Int32.ofInt 0) (part := 0) (pl := 0) hI (Or.inl ⟨rfl, by omega⟩) (by rw [beg_k _ _ _ (by omega)]; exact h18) (fun j hj => by rw [beg_k _ _ _ (by omega)]; exact hJ.2 j hj)).1 j (by unfold kg; omega) (by omega) (by omega) (by omega)
  exact f.trans (beg_k _ _ _ (by omega))
theorem c_dh_82 {b : Nat} {k : Nat} {x : Value} {w : mW} {Q : mW → mO → Prop} (hq : Q w (.inl (some (.int (Int32.ofInt k))))) : RT n_X2_divideHere 82 [.ref b, .int (Int32.ofInt k), x] [] w (0, 0, false) Q := by
  refine rt_X2_divideHere_82 ?_
  simp only [wp_c, wp_n, jj_n, Int.reduceToNat, Int.toNat_natCast, stE, wlE, lgt, lpu, lpw, v_c2, va_s, true_and, and_true, Option.toList, List.nil_append, List.cons_append, List.take, List.drop, List.reverse, List.reverseAux, List.length_cons, List.length_nil, reduceCtorEq, false_implies, true_implies, forall_const, not_true_eq_false, not_false_eq_true, ite_true, ite_false, Bool.false_eq_true, I_I, J_J, Nat.add_left_cancel_iff, Nat.reduceEqDiff, Nat.add_eq_left, Nat.left_eq_add, false_and, and_false, Nat.reduceSub, Nat.sub_self, Nat.le_refl, Nat.zero_le, ge_iff_le, Nat.reduceAdd, Nat.reduceLeDiff, Nat.zero_add, Nat.reduceLT, mr_X2_divideHere]
  exact hq
/-- the turn forth -/
theorem c_dh_54 {b k : Nat} {A : Row} {w : mW} {Q : mW → mO → Prop} (hS : MS w b A) (hJ : TJ A) (h5 : A 5 = 0) (h8 : A 8 = 1)
  (hq : ∀ w', DQ w b A (a_fin (a_one A 1)) w' → Q w' (.inl (some (.int (Int32.ofInt (match (a_one A 1).2.1 with | none => ((k + 1 : Nat) : Int) | some _ => (k : Int))))))) : RT n_X2_divideHere 54 [.ref b, .int (Int32.ofInt k), .int (Int32.ofInt 1)] [] w (0, 0, false) Q := by
  have hM := hS.1
  have s0 := hM.1.1
  have s9 := hM.1.2.2.2.2.2.2.2.2.2.1
  have r13 := hM.2.2.2.2.2.2.2.2.1
  refine rt_X2_divideHere_54 ?_
  simp only [wp_c, wp_n, jj_n, Int.reduceToNat, Int.toNat_natCast, stE, wlE, lgt, lpu, lpw, v_c2, va_s, true_and, and_true, Option.toList, List.nil_append, List.cons_append, List.take, List.drop, List.reverse, List.reverseAux, List.length_cons, List.length_nil, reduceCtorEq, false_implies, true_implies, forall_const, not_true_eq_false, not_false_eq_true, ite_true, ite_false, Bool.false_eq_true, I_I, J_J, Nat.add_left_cancel_iff, Nat.reduceEqDiff, Nat.add_eq_left, Nat.left_eq_add, false_and, and_false, Nat.reduceSub, Nat.sub_self, Nat.le_refl, Nat.zero_le, ge_iff_le, Nat.reduceAdd, Nat.reduceLeDiff, Nat.zero_add, Nat.reduceLT, s0, s9, r13, mh_X2_divideHere]
  refine ⟨fun h => absurd h (by decide), fun _ => ?_⟩
  refine c_begin (dv := 1) hM hS.2.1 (Or.inr rfl) fun w1 g1 g2 g3 => ?_
  simp only [wp_c, wp_n, jj_n, Int.reduceToNat, Int.toNat_natCast, stE, wlE, lgt, lpu, lpw, v_c2, va_s, true_and, and_true, Option.toList, List.nil_append, List.cons_append, List.take, List.drop, List.reverse, List.reverseAux, List.length_cons, List.length_nil, reduceCtorEq, false_implies, true_implies, forall_const, not_true_eq_false, not_false_eq_true, ite_true, ite_false, Bool.false_eq_true, I_I, J_J, Nat.add_left_cancel_iff, Nat.reduceEqDiff, Nat.add_eq_left, Nat.left_eq_add, false_and, and_false, Nat.reduceSub, Nat.sub_self, Nat.le_refl, Nat.zero_le, ge_iff_le, Nat.reduceAdd, Nat.reduceLeDiff, Nat.zero_add, Nat.reduceLT, g3.1, s0, mh_X2_divideHere]
  refine c_one hS hJ h5 (Or.inr h8) (Or.inl rfl) g1 (by rw [h8]; exact g2) g3 fun w2 k1 k2 _ => ?_
  obtain ⟨j1, j2, j3⟩ := one_TJ hJ (Or.inl rfl : (1 : Int) = 1 ∨ (1 : Int) = -1) hS.log18
  have hD : DQ w b A (a_fin (a_one A 1)) w2 := ⟨k1, k2, j1, j2, j3, one_sz hJ (Or.inl rfl) hS.log18 1 (by omega), one_sz hJ (Or.inl rfl) hS.log18 0 (by omega), one_50 hJ (Or.inl rfl) hS.log18⟩
  have hq2 := hq w2 hD
  cases ho : (a_one A 1).2.1 with
  | none =>
    rw [ho] at hq2
    simp only [wp_c, wp_n, jj_n, Int.reduceToNat, Int.toNat_natCast, stE, wlE, lgt, lpu, lpw, v_c2, va_s, true_and, and_true, Option.toList, List.nil_append, List.cons_append, List.take, List.drop, List.reverse, List.reverseAux, List.length_cons, List.length_nil, reduceCtorEq, false_implies, true_implies, forall_const, not_true_eq_false, not_false_eq_true, ite_true, ite_false, Bool.false_eq_true, I_I, J_J, Nat.add_left_cancel_iff, Nat.reduceEqDiff, Nat.add_eq_left, Nat.left_eq_add, false_and, and_false, Nat.reduceSub, Nat.sub_self, Nat.le_refl, Nat.zero_le, ge_iff_le, Nat.reduceAdd, Nat.reduceLeDiff, Nat.zero_add, Nat.reduceLT] at hq2 ⊢
    refine ⟨fun h => absurd h (by decide), fun _ => ?_⟩
    refine rt_X2_divideHere_80 ?_
    simp only [wp_c, wp_n, jj_n, Int.reduceToNat, Int.toNat_natCast, stE, wlE, lgt, lpu, lpw, v_c2, va_s, true_and, and_true, Option.toList, List.nil_append, List.cons_append, List.take, List.drop, List.reverse, List.reverseAux, List.length_cons, List.length_nil, reduceCtorEq, false_implies, true_implies, forall_const, not_true_eq_false, not_false_eq_true, ite_true, ite_false, Bool.false_eq_true, I_I, J_J, Nat.add_left_cancel_iff, Nat.reduceEqDiff, Nat.add_eq_left, Nat.left_eq_add, false_and, and_false, Nat.reduceSub, Nat.sub_self, Nat.le_refl, Nat.zero_le, ge_iff_le, Nat.reduceAdd, Nat.reduceLeDiff, Nat.zero_add, Nat.reduceLT, oi_add]
    have := c_dh_82 (b := b) (k := k + 1) (x := .int (Int32.ofInt 1)) (w := w2) (Q := Q) (by simpa using hq2)
    simpa using this
  | some y =>
    rw [ho] at hq2
    simp only [wp_c, wp_n, jj_n, Int.reduceToNat, Int.toNat_natCast, stE, wlE, lgt, lpu, lpw, v_c2, va_s, true_and, and_true, Option.toList, List.nil_append, List.cons_append, List.take, List.drop, List.reverse, List.reverseAux, List.length_cons, List.length_nil, reduceCtorEq, false_implies, true_implies, forall_const, not_true_eq_false, not_false_eq_true, ite_true, ite_false, Bool.false_eq_true, I_I, J_J, Nat.add_left_cancel_iff, Nat.reduceEqDiff, Nat.add_eq_left, Nat.left_eq_add, false_and, and_false, Nat.reduceSub, Nat.sub_self, Nat.le_refl, Nat.zero_le, ge_iff_le, Nat.reduceAdd, Nat.reduceLeDiff, Nat.zero_add, Nat.reduceLT] at hq2 ⊢
    refine ⟨fun _ => ?_, fun h => absurd rfl h⟩
    refine rt_X2_divideHere_79 ?_
    simp only [wp_c, wp_n, jj_n, Int.reduceToNat, Int.toNat_natCast, stE, wlE, lgt, lpu, lpw, v_c2, va_s, true_and, and_true, Option.toList, List.nil_append, List.cons_append, List.take, List.drop, List.reverse, List.reverseAux, List.length_cons, List.length_nil, reduceCtorEq, false_implies, true_implies, forall_const, not_true_eq_false, not_false_eq_true, ite_true, ite_false, Bool.false_eq_true, I_I, J_J, Nat.add_left_cancel_iff, Nat.reduceEqDiff, Nat.add_eq_left, Nat.left_eq_add, false_and, and_false, Nat.reduceSub, Nat.sub_self, Nat.le_refl, Nat.zero_le, ge_iff_le, Nat.reduceAdd, Nat.reduceLeDiff, Nat.zero_add, Nat.reduceLT]
    refine rt_X2_divideHere_80 ?_
    simp only [wp_c, wp_n, jj_n, Int.reduceToNat, Int.toNat_natCast, stE, wlE, lgt, lpu, lpw, v_c2, va_s, true_and, and_true, Option.toList, List.nil_append, List.cons_append, List.take, List.drop, List.reverse, List.reverseAux, List.length_cons, List.length_nil, reduceCtorEq, false_implies, true_implies, forall_const, not_true_eq_false, not_false_eq_true, ite_true, ite_false, Bool.false_eq_true, I_I, J_J, Nat.add_left_cancel_iff, Nat.reduceEqDiff, Nat.add_eq_left, Nat.left_eq_add, false_and, and_false, Nat.reduceSub, Nat.sub_self, Nat.le_refl, Nat.zero_le, ge_iff_le, Nat.reduceAdd, Nat.reduceLeDiff, Nat.zero_add, Nat.reduceLT, oi_add, Int.add_zero]
    exact c_dh_82 hq2
theorem c_dh_4 {b : Nat} {Q : mW → mO → Prop} : ∀ (n k : Nat) (A : Row) (w : mW), k + n = 10 → MS w b A → TJ A → A 5 = 0 → A 8 = 1 →
    (∀ w', DQ w b A (a_dh n A k).1 w' → Q w' (.inl (some (.int (Int32.ofInt (a_dh n A k).2))))) → RT n_X2_divideHere 4 [.ref b, .int (Int32.ofInt k), .int (Int32.ofInt 0)] [] w (0, 0, false) Q := by
  intro n
  induction n with
  | zero =>
    intro k A w hk hS hJ h5 h8 hq
    have hR : inR (k : Int) := ⟨by omega, by omega⟩
    refine rt_X2_divideHere_4 ?_
    simp only [wp_c, wp_n, jj_n, Int.reduceToNat, Int.toNat_natCast, stE, wlE, lgt, lpu, lpw, v_c2, va_s, true_and, and_true, Option.toList, List.nil_append, List.cons_append, List.take, List.drop, List.reverse, List.reverseAux, List.length_cons, List.length_nil, reduceCtorEq, false_implies, true_implies, forall_const, not_true_eq_false, not_false_eq_true, ite_true, ite_false, Bool.false_eq_true, I_I, J_J, Nat.add_left_cancel_iff, Nat.reduceEqDiff, Nat.add_eq_left, Nat.left_eq_add, false_and, and_false, Nat.reduceSub, Nat.sub_self, Nat.le_refl, Nat.zero_le, ge_iff_le, Nat.reduceAdd, Nat.reduceLeDiff, Nat.zero_add, Nat.reduceLT, oi_le (show inR 10 from ⟨by omega, by omega⟩) hR]
    refine ⟨fun _ => ?_, fun h => absurd (by omega) h⟩
    refine rt_X2_divideHere_54 ?_
    simp only [wp_c, wp_n, jj_n, Int.reduceToNat, Int.toNat_natCast, stE, wlE, lgt, lpu, lpw, v_c2, va_s, true_and, and_true, Option.toList, List.nil_append, List.cons_append, List.take, List.drop, List.reverse, List.reverseAux, List.length_cons, List.length_nil, reduceCtorEq, false_implies, true_implies, forall_const, not_true_eq_false, not_false_eq_true, ite_true, ite_false, Bool.false_eq_true, I_I, J_J, Nat.add_left_cancel_iff, Nat.reduceEqDiff, Nat.add_eq_left, Nat.left_eq_add, false_and, and_false, Nat.reduceSub, Nat.sub_self, Nat.le_refl, Nat.zero_le, ge_iff_le, Nat.reduceAdd, Nat.reduceLeDiff, Nat.zero_add, Nat.reduceLT]
    refine ⟨fun _ => c_dh_82 (hq w ⟨hS, FrM.refl b w, hJ, rfl, rfl, rfl, rfl, by show 0 ≤ A 5; omega⟩), fun h => absurd rfl h⟩
  | succ n ih =>
    intro k A w hk hS hJ h5 h8 hq
    have hR : inR (k : Int) := ⟨by omega, by omega⟩
    have hM := hS.1
    have s0 := hM.1.1
    have s9 := hM.1.2.2.2.2.2.2.2.2.2.1
    have r13 := hM.2.2.2.2.2.2.2.2.1
    refine rt_X2_divideHere_4 ?_
    simp only [wp_c, wp_n, jj_n, Int.reduceToNat, Int.toNat_natCast, stE, wlE, lgt, lpu, lpw, v_c2, va_s, true_and, and_true, Option.toList, List.nil_append, List.cons_append, List.take, List.drop, List.reverse, List.reverseAux, List.length_cons, List.length_nil, reduceCtorEq, false_implies, true_implies, forall_const, not_true_eq_false, not_false_eq_true, ite_true, ite_false, Bool.false_eq_true, I_I, J_J, Nat.add_left_cancel_iff, Nat.reduceEqDiff, Nat.add_eq_left, Nat.left_eq_add, false_and, and_false, Nat.reduceSub, Nat.sub_self, Nat.le_refl, Nat.zero_le, ge_iff_le, Nat.reduceAdd, Nat.reduceLeDiff, Nat.zero_add, Nat.reduceLT, s0, s9, r13, mh_X2_divideHere, mr_X2_divideHere, oi_le (show inR 10 from ⟨by omega, by omega⟩) hR]
    refine ⟨fun h => absurd h (by omega), fun _ => ⟨fun h => absurd rfl h, fun _ => ?_⟩⟩
    refine c_begin (dv := 1) hM hS.2.1 (Or.inr rfl) fun w1 g1 g2 g3 => ?_
    simp only [wp_c, wp_n, jj_n, Int.reduceToNat, Int.toNat_natCast, stE, wlE, lgt, lpu, lpw, v_c2, va_s, true_and, and_true, Option.toList, List.nil_append, List.cons_append, List.take, List.drop, List.reverse, List.reverseAux, List.length_cons, List.length_nil, reduceCtorEq, false_implies, true_implies, forall_const, not_true_eq_false, not_false_eq_true, ite_true, ite_false, Bool.false_eq_true, I_I, J_J, Nat.add_left_cancel_iff, Nat.reduceEqDiff, Nat.add_eq_left, Nat.left_eq_add, false_and, and_false, Nat.reduceSub, Nat.sub_self, Nat.le_refl, Nat.zero_le, ge_iff_le, Nat.reduceAdd, Nat.reduceLeDiff, Nat.zero_add, Nat.reduceLT, g3.1, s0, mh_X2_divideHere]
    refine c_one hS hJ h5 (Or.inr h8) (Or.inr rfl) g1 (by rw [h8]; exact g2) g3 fun w2 k1 k2 _ => ?_
    obtain ⟨j1, j2, j3⟩ := one_TJ hJ (Or.inr rfl : (-1 : Int) = 1 ∨ (-1 : Int) = -1) hS.log18
    have z1 := one_sz hJ (Or.inr rfl : (-1 : Int) = 1 ∨ (-1 : Int) = -1) hS.log18 1 (by omega)
    have z0 := one_sz hJ (Or.inr rfl : (-1 : Int) = 1 ∨ (-1 : Int) = -1) hS.log18 0 (by omega)
    have h9 := one_9 hJ (Or.inr rfl : (-1 : Int) = 1 ∨ (-1 : Int) = -1) hS.log18
    have e50 := one_50 hJ (Or.inr rfl : (-1 : Int) = 1 ∨ (-1 : Int) = -1) hS.log18
    have e5 := one_5 hJ (Or.inr rfl : (-1 : Int) = 1 ∨ (-1 : Int) = -1) hS.log18
    rw [a_dh] at hq
    cases ho : (a_one A (-1)).2.1 with
    | some y =>
      rw [ho] at hq
      simp only [wp_c, wp_n, jj_n, Int.reduceToNat, Int.toNat_natCast, stE, wlE, lgt, lpu, lpw, v_c2, va_s, true_and, and_true, Option.toList, List.nil_append, List.cons_append, List.take, List.drop, List.reverse, List.reverseAux, List.length_cons, List.length_nil, reduceCtorEq, false_implies, true_implies, forall_const, not_true_eq_false, not_false_eq_true, ite_true, ite_false, Bool.false_eq_true, I_I, J_J, Nat.add_left_cancel_iff, Nat.reduceEqDiff, Nat.add_eq_left, Nat.left_eq_add, false_and, and_false, Nat.reduceSub, Nat.sub_self, Nat.le_refl, Nat.zero_le, ge_iff_le, Nat.reduceAdd, Nat.reduceLeDiff, Nat.zero_add, Nat.reduceLT] at hq ⊢
      exact ⟨fun h => absurd rfl h, fun _ => hq w2 ⟨k1, k2, j1, j2, j3, z1, z0, e50⟩⟩
    | none =>
      rw [ho] at hq e5
      simp only at e5
      generalize a_fin (a_one A (-1)) = B at hq h9 e5 z0 z1 j1 j2 j3 k1
      have t9 : w_I w2 (b + 9) 5 = Int32.ofInt (B 9) := k1.2.1.2.2.2.2.2.2.2.1.1
      have h9R : inR (B 9) := by rcases h9 with h | ⟨h, -⟩ <;> rw [h] <;> exact ⟨by omega, by omega⟩
      simp only [wp_c, wp_n, jj_n, Int.reduceToNat, Int.toNat_natCast, stE, wlE, lgt, lpu, lpw, v_c2, va_s, true_and, and_true, Option.toList, List.nil_append, List.cons_append, List.take, List.drop, List.reverse, List.reverseAux, List.length_cons, List.length_nil, reduceCtorEq, false_implies, true_implies, forall_const, not_true_eq_false, not_false_eq_true, ite_true, ite_false, Bool.false_eq_true, I_I, J_J, Nat.add_left_cancel_iff, Nat.reduceEqDiff, Nat.add_eq_left, Nat.left_eq_add, false_and, and_false, Nat.reduceSub, Nat.sub_self, Nat.le_refl, Nat.zero_le, ge_iff_le, Nat.reduceAdd, Nat.reduceLeDiff, Nat.zero_add, Nat.reduceLT] at hq ⊢
      refine ⟨fun _ => ?_, fun h => absurd (by decide) h⟩
      refine rt_X2_divideHere_32 ?_
      simp only [wp_c, wp_n, jj_n, Int.reduceToNat, Int.toNat_natCast, stE, wlE, lgt, lpu, lpw, v_c2, va_s, true_and, and_true, Option.toList, List.nil_append, List.cons_append, List.take, List.drop, List.reverse, List.reverseAux, List.length_cons, List.length_nil, reduceCtorEq, false_implies, true_implies, forall_const, not_true_eq_false, not_false_eq_true, ite_true, ite_false, Bool.false_eq_true, I_I, J_J, Nat.add_left_cancel_iff, Nat.reduceEqDiff, Nat.add_eq_left, Nat.left_eq_add, false_and, and_false, Nat.reduceSub, Nat.sub_self, Nat.le_refl, Nat.zero_le, ge_iff_le, Nat.reduceAdd, Nat.reduceLeDiff, Nat.zero_add, Nat.reduceLT, k2.1, k2.2.1, s0, s9, r13, t9, oi_le0 h9R, oi_add]
      have ek : Int32.ofInt ((k : Int) + 1) = Int32.ofInt ((k + 1 : Nat) : Int) := by congr 1
      rw [ek]
      refine ⟨fun hle => ?_, fun hgt => ?_⟩
      · rw [if_neg (by omega)] at hq
        refine rt_X2_divideHere_49 ?_
        simp only [wp_c, wp_n, jj_n, Int.reduceToNat, Int.toNat_natCast, stE, wlE, lgt, lpu, lpw, v_c2, va_s, true_and, and_true, Option.toList, List.nil_append, List.cons_append, List.take, List.drop, List.reverse, List.reverseAux, List.length_cons, List.length_nil, reduceCtorEq, false_implies, true_implies, forall_const, not_true_eq_false, not_false_eq_true, ite_true, ite_false, Bool.false_eq_true, I_I, J_J, Nat.add_left_cancel_iff, Nat.reduceEqDiff, Nat.add_eq_left, Nat.left_eq_add, false_and, and_false, Nat.reduceSub, Nat.sub_self, Nat.le_refl, Nat.zero_le, ge_iff_le, Nat.reduceAdd, Nat.reduceLeDiff, Nat.zero_add, Nat.reduceLT]
        refine rt_X2_divideHere_50 ?_
        simp only [wp_c, wp_n, jj_n, Int.reduceToNat, Int.toNat_natCast, stE, wlE, lgt, lpu, lpw, v_c2, va_s, true_and, and_true, Option.toList, List.nil_append, List.cons_append, List.take, List.drop, List.reverse, List.reverseAux, List.length_cons, List.length_nil, reduceCtorEq, false_implies, true_implies, forall_const, not_true_eq_false, not_false_eq_true, ite_true, ite_false, Bool.false_eq_true, I_I, J_J, Nat.add_left_cancel_iff, Nat.reduceEqDiff, Nat.add_eq_left, Nat.left_eq_add, false_and, and_false, Nat.reduceSub, Nat.sub_self, Nat.le_refl, Nat.zero_le, ge_iff_le, Nat.reduceAdd, Nat.reduceLeDiff, Nat.zero_add, Nat.reduceLT]
        refine ih (k + 1) B w2 (by omega) k1 j1 e5 (by rw [j2]; exact h8) fun w' q => ?_
        exact hq w' ⟨q.1, k2.trans q.2.1, q.2.2.1, q.2.2.2.1.trans j2, q.2.2.2.2.1.trans j3, q.2.2.2.2.2.1.trans z1, q.2.2.2.2.2.2.1.trans z0, q.2.2.2.2.2.2.2⟩
      · rw [if_pos (by omega)] at hq
        refine rt_X2_divideHere_50 ?_
        simp only [wp_c, wp_n, jj_n, Int.reduceToNat, Int.toNat_natCast, stE, wlE, lgt, lpu, lpw, v_c2, va_s, true_and, and_true, Option.toList, List.nil_append, List.cons_append, List.take, List.drop, List.reverse, List.reverseAux, List.length_cons, List.length_nil, reduceCtorEq, false_implies, true_implies, forall_const, not_true_eq_false, not_false_eq_true, ite_true, ite_false, Bool.false_eq_true, I_I, J_J, Nat.add_left_cancel_iff, Nat.reduceEqDiff, Nat.add_eq_left, Nat.left_eq_add, false_and, and_false, Nat.reduceSub, Nat.sub_self, Nat.le_refl, Nat.zero_le, ge_iff_le, Nat.reduceAdd, Nat.reduceLeDiff, Nat.zero_add, Nat.reduceLT]
        have hR1 : inR ((k + 1 : Nat) : Int) := ⟨by omega, by omega⟩
        -- the loop's head again: it has rung
        refine rt_X2_divideHere_4 ?_
        simp only [wp_c, wp_n, jj_n, Int.reduceToNat, Int.toNat_natCast, stE, wlE, lgt, lpu, lpw, v_c2, va_s, true_and, and_true, Option.toList, List.nil_append, List.cons_append, List.take, List.drop, List.reverse, List.reverseAux, List.length_cons, List.length_nil, reduceCtorEq, false_implies, true_implies, forall_const, not_true_eq_false, not_false_eq_true, ite_true, ite_false, Bool.false_eq_true, I_I, J_J, Nat.add_left_cancel_iff, Nat.reduceEqDiff, Nat.add_eq_left, Nat.left_eq_add, false_and, and_false, Nat.reduceSub, Nat.sub_self, Nat.le_refl, Nat.zero_le, ge_iff_le, Nat.reduceAdd, Nat.reduceLeDiff, Nat.zero_add, Nat.reduceLT, oi_le (show inR 10 from ⟨by omega, by omega⟩) hR1]
        have h54 := c_dh_54 (k := k + 1) (Q := Q) k1 j1 e5 (by rw [j2]; exact h8) fun w' q => by
          have q' : DQ w b A (a_fin (a_one B 1)) w' := ⟨q.1, k2.trans q.2.1, q.2.2.1, q.2.2.2.1.trans j2, q.2.2.2.2.1.trans j3, q.2.2.2.2.2.1.trans z1, q.2.2.2.2.2.2.1.trans z0, q.2.2.2.2.2.2.2⟩
          cases ho2 : (a_one B 1).2.1 with
          | none => rw [ho2] at hq; exact hq w' q'
          | some y => rw [ho2] at hq; exact hq w' q'
        exact ⟨fun _ => h54, fun _ => ⟨fun _ => h54, fun h => absurd (by decide) h⟩⟩
theorem c_divideHere {b : Nat} {A : Row} {w : mW} {Q : mW → mO → Prop} (hS : MS w b A) (hJ : TJ A) (h5 : A 5 = 0) (h8 : A 8 = 1) (hq : ∀ w', DQ w b A (a_dh 10 A 0).1 w' → Q w' (.inl (some (.int (Int32.ofInt (a_dh 10 A 0).2))))) : CT n_X2_divideHere [.ref b] w Q := by
  refine ct_X2_divideHere (rt_X2_divideHere_0 ?_)
  simp only [wp_c, wp_n, jj_n, Int.reduceToNat, Int.toNat_natCast, stE, wlE, lgt, lpu, lpw, v_c2, va_s, true_and, and_true, Option.toList, List.nil_append, List.cons_append, List.take, List.drop, List.reverse, List.reverseAux, List.length_cons, List.length_nil, reduceCtorEq, false_implies, true_implies, forall_const, not_true_eq_false, not_false_eq_true, ite_true, ite_false, Bool.false_eq_true, I_I, J_J, Nat.add_left_cancel_iff, Nat.reduceEqDiff, Nat.add_eq_left, Nat.left_eq_add, false_and, and_false, Nat.reduceSub, Nat.sub_self, Nat.le_refl, Nat.zero_le, ge_iff_le, Nat.reduceAdd, Nat.reduceLeDiff, Nat.zero_add, Nat.reduceLT]
  exact c_dh_4 10 0 A w (by omega) hS hJ h5 h8 hq
theorem MS.pos {w : mW} {b : Nat} {A : Row} {c : Int} (h : MS w b A) : MS (s_I w b 4 (Int32.ofInt c)) b (up A 4 c) := by
  obtain ⟨hM, hA, hL, hD, dv, d, p, pl, c', l, t, t1, t2, t3⟩ := h
  have f : Fr [b] w (s_I w b 4 (Int32.ofInt c)) := (Fr.refl _ _).I (by simp)
  refine ⟨hM.fr f, hA.fld (by omega), (hL.fr f (by simp) (by simp)).row (by rw [up_eq, if_neg (by omega)]) (fun j hj => by rw [up_eq, if_neg (by omega)]), ?_, dv, d, p, pl, c', l, ?_, t1, t2, fun h => ?_⟩
  · show w_J w b 5 = _
    rw [hD]; congr 1
    unfold du
    rw [up_eq, if_neg (by omega)]
    exact (hn_c _ _ (fun i hi => by rw [up_eq, if_neg (by omega)])).symm
  · have e5 : up A 4 c 5 = A 5 := by rw [up_eq, if_neg (by omega)]
    rw [e5]; exact t.fr f (by simp)
  · have e5 : up A 4 c 5 = A 5 := by rw [up_eq, if_neg (by omega)]
    have e8 : up A 4 c 8 = A 8 := by rw [up_eq, if_neg (by omega)]
    have e7 : up A 4 c 7 = A 7 := by rw [up_eq, if_neg (by omega)]
    have e6 : up A 4 c 6 = A 6 := by rw [up_eq, if_neg (by omega)]
    rw [e5] at h ⊢; rw [e8, e7, e6]; exact t3 h
theorem TJ.pos {A : Row} {c : Int} (h : TJ A) (h0 : 0 ≤ c) (h1 : c + A 0 ≤ A 1) : TJ (up A 4 c) := by
  have hz := TJ_sz h
  obtain ⟨⟨-, k7, k1, k2, k3, k4, k5⟩, hd⟩ := h
  refine ⟨⟨?_, ?_, fun j hj => ?_, fun j hj => ?_, fun j hj => ?_, fun j hj => ?_, fun j hj => ?_⟩, fun j hj => ?_⟩
  · simp only [up_eq]
    simp
    omega
  · rw [up_eq, if_pos rfl]; exact Or.inl rfl
  · have := k1 j hj; simp only [up_eq] at this ⊢; rw [if_neg (by omega)] at this; rw [if_neg (by omega), if_neg (by omega)]; exact this
  · have := k2 j hj; simp only [up_eq] at this ⊢; rw [if_neg (by omega)] at this; rw [if_neg (by omega), if_neg (by omega)]; exact this
  · have := k3 j hj; simp only [up_eq] at this ⊢; rw [if_neg (by omega)] at this; rw [if_neg (by omega), if_neg (by omega)]; exact this
  · have := k4 j hj; simp only [up_eq] at this ⊢; rw [if_neg (by omega)] at this; rw [if_neg (by omega), if_neg (by omega)]; exact this
  · have := k5 j hj; simp only [up_eq] at this ⊢; rw [if_neg (by omega)] at this; rw [if_neg (by omega), if_neg (by omega)]; exact this
  · rw [up_eq, if_neg (by omega)]; exact hd j hj
theorem MS.jam {w : mW} {b : Nat} {A : Row} (h : MS w b A) : w_I w (b + 9) 0 = Int32.ofInt (if 0 < A 5 then 1 else 0) := by
  obtain ⟨-, -, -, -, dv, d, p, pl, c', l, t, -⟩ := h
  exact t.1
def a_dv : Nat → Row → Nat → Row × Nat
  | 0, A, t => (A, t)
  | c + 1, A, t => if 0 < (a_dh 10 (up A 4 c) 0).1 5 then ((a_dh 10 (up A 4 c) 0).1, t + (a_dh 10 (up A 4 c) 0).2) else a_dv c (a_dh 10 (up A 4 c) 0).1 (t + (a_dh 10 (up A 4 c) 0).2)
theorem c_dv_7 {b : Nat} {Q : mW → mO → Prop} : ∀ (n t : Nat) (A : Row) (w : mW), (n : Int) + A 0 ≤ A 1 + 1 → MS w b A → TJ A → A 5 ≤ 0 → A 5 = 0 → A 8 = 1 →
    (∀ w', MS w' b (a_dv n A t).1 → FrM b w w' → TJ (a_dv n A t).1 → Q w' (.inl (some (.int (Int32.ofInt (a_dv n A t).2))))) → RT n_X2_divideByPins 7 [.ref b, .int (Int32.ofInt t), .int (Int32.ofInt ((n : Int) - 1))] [] w (0, 0, false) Q := by
  intro n
  induction n with
  | zero =>
    intro t A w hn hS hJ _ h5 h8 hq
    have hR : inR (((0 : Nat) : Int) - 1) := ⟨by omega, by omega⟩
    refine rt_X2_divideByPins_7 ?_
    simp only [wp_c, wp_n, jj_n, Int.reduceToNat, Int.toNat_natCast, stE, wlE, lgt, lpu, lpw, v_c2, va_s, true_and, and_true, Option.toList, List.nil_append, List.cons_append, List.take, List.drop, List.reverse, List.reverseAux, List.length_cons, List.length_nil, reduceCtorEq, false_implies, true_implies, forall_const, not_true_eq_false, not_false_eq_true, ite_true, ite_false, Bool.false_eq_true, I_I, J_J, Nat.add_left_cancel_iff, Nat.reduceEqDiff, Nat.add_eq_left, Nat.left_eq_add, false_and, and_false, Nat.reduceSub, Nat.sub_self, Nat.le_refl, Nat.zero_le, ge_iff_le, Nat.reduceAdd, Nat.reduceLeDiff, Nat.zero_add, Nat.reduceLT, oi_l0 hR]
    refine ⟨fun _ => ?_, fun h => absurd (by omega) h⟩
    refine rt_X2_divideByPins_41 ?_
    simp only [wp_c, wp_n, jj_n, Int.reduceToNat, Int.toNat_natCast, stE, wlE, lgt, lpu, lpw, v_c2, va_s, true_and, and_true, Option.toList, List.nil_append, List.cons_append, List.take, List.drop, List.reverse, List.reverseAux, List.length_cons, List.length_nil, reduceCtorEq, false_implies, true_implies, forall_const, not_true_eq_false, not_false_eq_true, ite_true, ite_false, Bool.false_eq_true, I_I, J_J, Nat.add_left_cancel_iff, Nat.reduceEqDiff, Nat.add_eq_left, Nat.left_eq_add, false_and, and_false, Nat.reduceSub, Nat.sub_self, Nat.le_refl, Nat.zero_le, ge_iff_le, Nat.reduceAdd, Nat.reduceLeDiff, Nat.zero_add, Nat.reduceLT, mr_X2_divideByPins]
    exact hq w hS (FrM.refl b w) hJ
  | succ n ih =>
    intro t A w hn hS hJ _ h5 h8 hq
    have hz := TJ_sz hJ
    have e1 : (((n + 1 : Nat) : Int) - 1) = (n : Int) := by omega
    have hR : inR (n : Int) := ⟨by omega, by omega⟩
    have s0 := hS.1.1.1
    have s9 := hS.1.1.2.2.2.2.2.2.2.2.2.1
    have r13 := hS.1.2.2.2.2.2.2.2.2.1
    refine rt_X2_divideByPins_7 ?_
    rw [e1]
    simp only [wp_c, wp_n, jj_n, Int.reduceToNat, Int.toNat_natCast, stE, wlE, lgt, lpu, lpw, v_c2, va_s, true_and, and_true, Option.toList, List.nil_append, List.cons_append, List.take, List.drop, List.reverse, List.reverseAux, List.length_cons, List.length_nil, reduceCtorEq, false_implies, true_implies, forall_const, not_true_eq_false, not_false_eq_true, ite_true, ite_false, Bool.false_eq_true, I_I, J_J, Nat.add_left_cancel_iff, Nat.reduceEqDiff, Nat.add_eq_left, Nat.left_eq_add, false_and, and_false, Nat.reduceSub, Nat.sub_self, Nat.le_refl, Nat.zero_le, ge_iff_le, Nat.reduceAdd, Nat.reduceLeDiff, Nat.zero_add, Nat.reduceLT, s0, oi_l0 hR, mh_X2_divideByPins]
    refine ⟨fun h => absurd h (by omega), fun _ => ?_⟩
    have hJ4 : TJ (up A 4 n) := hJ.pos (by omega) (by omega)
    have f1 : FrM b w (s_I w b 4 (Int32.ofInt (n : Int))) := ((Fr.refl [b] w).I (by simp)).toM (by simp)
    refine c_divideHere (hS.pos (c := (n : Int))) hJ4 (by rw [up_eq, if_neg (by omega)]; exact h5) (by rw [up_eq, if_neg (by omega)]; exact h8) fun w' q => ?_
    rw [a_dv] at hq
    generalize a_dh 10 (up A 4 n) 0 = z at hq q
    obtain ⟨B, k⟩ := z
    obtain ⟨k1, k2, k3, k4, k5, k6, k7, k8⟩ := q
    have fr := f1.trans k2
    simp only [wp_c, wp_n, jj_n, Int.reduceToNat, Int.toNat_natCast, stE, wlE, lgt, lpu, lpw, v_c2, va_s, true_and, and_true, Option.toList, List.nil_append, List.cons_append, List.take, List.drop, List.reverse, List.reverseAux, List.length_cons, List.length_nil, reduceCtorEq, false_implies, true_implies, forall_const, not_true_eq_false, not_false_eq_true, ite_true, ite_false, Bool.false_eq_true, I_I, J_J, Nat.add_left_cancel_iff, Nat.reduceEqDiff, Nat.add_eq_left, Nat.left_eq_add, false_and, and_false, Nat.reduceSub, Nat.sub_self, Nat.le_refl, Nat.zero_le, ge_iff_le, Nat.reduceAdd, Nat.reduceLeDiff, Nat.zero_add, Nat.reduceLT, fr.1, fr.2.1, s0, s9, r13, k1.jam, oi_add] at hq ⊢
    have et : Int32.ofInt ((t : Int) + (k : Int)) = Int32.ofInt ((t + k : Nat) : Int) := by congr 1
    rw [et]
    simp only at k3 k4 k5 k6 k7 k8
    by_cases hj : 0 < B 5
    · rw [if_pos hj] at hq
      simp only [hj, wp_c, wp_n, jj_n, Int.reduceToNat, Int.toNat_natCast, stE, wlE, lgt, lpu, lpw, v_c2, va_s, true_and, and_true, Option.toList, List.nil_append, List.cons_append, List.take, List.drop, List.reverse, List.reverseAux, List.length_cons, List.length_nil, reduceCtorEq, false_implies, true_implies, forall_const, not_true_eq_false, not_false_eq_true, ite_true, ite_false, Bool.false_eq_true, I_I, J_J, Nat.add_left_cancel_iff, Nat.reduceEqDiff, Nat.add_eq_left, Nat.left_eq_add, false_and, and_false, Nat.reduceSub, Nat.sub_self, Nat.le_refl, Nat.zero_le, ge_iff_le, Nat.reduceAdd, Nat.reduceLeDiff, Nat.zero_add, Nat.reduceLT, mr_X2_divideByPins]
      exact ⟨fun h => absurd h (by decide), fun _ => hq w' k1 fr k3⟩
    · rw [if_neg hj] at hq
      simp only [hj, wp_c, wp_n, jj_n, Int.reduceToNat, Int.toNat_natCast, stE, wlE, lgt, lpu, lpw, v_c2, va_s, true_and, and_true, Option.toList, List.nil_append, List.cons_append, List.take, List.drop, List.reverse, List.reverseAux, List.length_cons, List.length_nil, reduceCtorEq, false_implies, true_implies, forall_const, not_true_eq_false, not_false_eq_true, ite_true, ite_false, Bool.false_eq_true, I_I, J_J, Nat.add_left_cancel_iff, Nat.reduceEqDiff, Nat.add_eq_left, Nat.left_eq_add, false_and, and_false, Nat.reduceSub, Nat.sub_self, Nat.le_refl, Nat.zero_le, ge_iff_le, Nat.reduceAdd, Nat.reduceLeDiff, Nat.zero_add, Nat.reduceLT]
      refine ⟨fun _ => ?_, fun h => absurd rfl h⟩
      refine rt_X2_divideByPins_35 ?_
      simp only [wp_c, wp_n, jj_n, Int.reduceToNat, Int.toNat_natCast, stE, wlE, lgt, lpu, lpw, v_c2, va_s, true_and, and_true, Option.toList, List.nil_append, List.cons_append, List.take, List.drop, List.reverse, List.reverseAux, List.length_cons, List.length_nil, reduceCtorEq, false_implies, true_implies, forall_const, not_true_eq_false, not_false_eq_true, ite_true, ite_false, Bool.false_eq_true, I_I, J_J, Nat.add_left_cancel_iff, Nat.reduceEqDiff, Nat.add_eq_left, Nat.left_eq_add, false_and, and_false, Nat.reduceSub, Nat.sub_self, Nat.le_refl, Nat.zero_le, ge_iff_le, Nat.reduceAdd, Nat.reduceLeDiff, Nat.zero_add, Nat.reduceLT, oi_add]
      have en : (n : Int) + -1 = (n : Int) - 1 := by omega
      rw [en]
      have b0 : up A 4 (n : Int) 0 = A 0 := by rw [up_eq, if_neg (by omega)]
      have b1 : up A 4 (n : Int) 1 = A 1 := by rw [up_eq, if_neg (by omega)]
      have b8 : up A 4 (n : Int) 8 = A 8 := by rw [up_eq, if_neg (by omega)]
      refine ih (t + k) B w' (by rw [k7, k6, b0, b1]; omega) k1 k3 (by omega) (by omega) (by rw [k4, b8]; exact h8) fun w'' m1 m2 m3 => ?_
      exact hq w'' m1 (fr.trans m2) m3
theorem c_highest {b : Nat} {A : Row} {w : mW} {Q : mW → mO → Prop} (hM : Mb w b) (hA : MemA w b A) (hq : Q w (.inl (some (.int (Int32.ofInt (A 1 - A 0)))))) : CT n_X2_highestPosition [.ref b] w Q := by
  have s0 := hM.1.1
  refine ct_X2_highestPosition (rt_X2_highestPosition_0 ?_)
  simp only [wp_c, wp_n, jj_n, Int.reduceToNat, Int.toNat_natCast, stE, wlE, lgt, lpu, lpw, v_c2, va_s, true_and, and_true, Option.toList, List.nil_append, List.cons_append, List.take, List.drop, List.reverse, List.reverseAux, List.length_cons, List.length_nil, reduceCtorEq, false_implies, true_implies, forall_const, not_true_eq_false, not_false_eq_true, ite_true, ite_false, Bool.false_eq_true, I_I, J_J, Nat.add_left_cancel_iff, Nat.reduceEqDiff, Nat.add_eq_left, Nat.left_eq_add, false_and, and_false, Nat.reduceSub, Nat.sub_self, Nat.le_refl, Nat.zero_le, ge_iff_le, Nat.reduceAdd, Nat.reduceLeDiff, Nat.zero_add, Nat.reduceLT, s0, hA.1.1, hA.1.2.1, oi_sub, mr_X2_highestPosition]
  exact hq
theorem c_divide {b : Nat} {A : Row} {w : mW} {Q : mW → mO → Prop} (hS : MS w b A) (hJ : TJ A) (h5 : A 5 = 0) (hq : ∀ w', MS w' b (a_dv (A 1 - A 0 + 1).toNat (up A 8 1) 0).1 → FrM b w w' → TJ (a_dv (A 1 - A 0 + 1).toNat (up A 8 1) 0).1 → Q w' (.inl (some (.int (Int32.ofInt (a_dv (A 1 - A 0 + 1).toNat (up A 8 1) 0).2))))) : CT n_X2_divideByPins [.ref b] w Q := by
  have hz := TJ_sz hJ
  have s0 := hS.1.1.1
  refine ct_X2_divideByPins (rt_X2_divideByPins_0 ?_)
  simp only [wp_c, wp_n, jj_n, Int.reduceToNat, Int.toNat_natCast, stE, wlE, lgt, lpu, lpw, v_c2, va_s, true_and, and_true, Option.toList, List.nil_append, List.cons_append, List.take, List.drop, List.reverse, List.reverseAux, List.length_cons, List.length_nil, reduceCtorEq, false_implies, true_implies, forall_const, not_true_eq_false, not_false_eq_true, ite_true, ite_false, Bool.false_eq_true, I_I, J_J, Nat.add_left_cancel_iff, Nat.reduceEqDiff, Nat.add_eq_left, Nat.left_eq_add, false_and, and_false, Nat.reduceSub, Nat.sub_self, Nat.le_refl, Nat.zero_le, ge_iff_le, Nat.reduceAdd, Nat.reduceLeDiff, Nat.zero_add, Nat.reduceLT, s0, mh_X2_divideByPins]
  refine c_highest hS.1 hS.2.1 ?_
  simp only [wp_c, wp_n, jj_n, Int.reduceToNat, Int.toNat_natCast, stE, wlE, lgt, lpu, lpw, v_c2, va_s, true_and, and_true, Option.toList, List.nil_append, List.cons_append, List.take, List.drop, List.reverse, List.reverseAux, List.length_cons, List.length_nil, reduceCtorEq, false_implies, true_implies, forall_const, not_true_eq_false, not_false_eq_true, ite_true, ite_false, Bool.false_eq_true, I_I, J_J, Nat.add_left_cancel_iff, Nat.reduceEqDiff, Nat.add_eq_left, Nat.left_eq_add, false_and, and_false, Nat.reduceSub, Nat.sub_self, Nat.le_refl, Nat.zero_le, ge_iff_le, Nat.reduceAdd, Nat.reduceLeDiff, Nat.zero_add, Nat.reduceLT]
  have e : A 1 - A 0 = (((A 1 - A 0 + 1).toNat : Nat) : Int) - 1 := by omega
  have := c_dv_7 (b := b) (Q := Q) (A 1 - A 0 + 1).toNat 0 (up A 8 1) w (by rw [up_eq, if_neg (by omega), up_eq, if_neg (by omega)]; omega) (hS.up8 h5) hJ.up8 (by rw [up_eq, if_neg (by omega)]; omega) (by rw [up_eq, if_neg (by omega)]; exact h5) (by rw [up_eq, if_pos rfl]) hq
  rw [← e] at this
  exact this
/-! freeing -/
theorem lev_cl : ∀ (n : Nat) (A : Row) (wh : Nat) (c l c' l' : Int32), (a_lev n A wh c l).1 = (a_lev n A wh c' l').1 ∧ (a_lev n A wh c l).2.1 = (a_lev n A wh c' l').2.1 := by
  intro n
  induction n with
  | zero => intro A wh c l c' l'; exact ⟨rfl, rfl⟩
  | succ n ih =>
    intro A wh c l c' l'
    rw [a_lev, a_lev]
    by_cases h1 : A (52 + wh) = 0
    · rw [if_pos h1, if_pos h1]; exact ih _ _ _ _ _ _
    · rw [if_neg h1, if_neg h1]
      by_cases h2 : (wh : Int) = A 1 - 1
      · rw [if_pos h2, if_pos h2]; exact ih _ _ _ _ _ _
      · rw [if_neg h2, if_neg h2]
        by_cases h3 : A (68 + wh) % 2 = 1 ∨ A 4 + A 0 - 1 + A 3 < wh + 1
        · rw [if_pos h3, if_pos h3]; exact ih _ _ _ _ _ _
        · rw [if_neg h3, if_neg h3]
          by_cases h4 : 2 ≤ A (68 + (wh + 1))
          · rw [if_pos h4, if_pos h4]; exact ⟨rfl, rfl⟩
          · rw [if_neg h4, if_neg h4]; exact ih _ _ _ _ _ _
theorem go_cl (A : Row) (part pl : Nat) (c l c' l' : Int32) : (a_go A part pl c l).1 = (a_go A part pl c' l').1 ∧ (a_go A part pl c l).2.1 = (a_go A part pl c' l').2.1 := by
  have key : ∀ (B : Row) (wh : Nat), (match a_lev ((A 1).toNat - wh) B wh c l with | (B', none, l') => ((a_endC B', none, l') : Row × Option (Nat × Nat) × Int32) | (B', some k, l') => (B', some (1, k), l')).1 = (match a_lev ((A 1).toNat - wh) B wh c' l' with | (B', none, l') => ((a_endC B', none, l') : Row × Option (Nat × Nat) × Int32) | (B', some k, l') => (B', some (1, k), l')).1 ∧
      (match a_lev ((A 1).toNat - wh) B wh c l with | (B', none, l') => ((a_endC B', none, l') : Row × Option (Nat × Nat) × Int32) | (B', some k, l') => (B', some (1, k), l')).2.1 = (match a_lev ((A 1).toNat - wh) B wh c' l' with | (B', none, l') => ((a_endC B', none, l') : Row × Option (Nat × Nat) × Int32) | (B', some k, l') => (B', some (1, k), l')).2.1 := by
    intro B wh
    obtain ⟨h1, h2⟩ := lev_cl ((A 1).toNat - wh) B wh c l c' l'
    generalize a_lev ((A 1).toNat - wh) B wh c l = z at h1 h2 ⊢
    generalize a_lev ((A 1).toNat - wh) B wh c' l' = z' at h1 h2 ⊢
    obtain ⟨B1, o1, l1⟩ := z
    obtain ⟨B2, o2, l2⟩ := z'
    simp only at h1 h2
    subst h1; subst h2
    cases o1 <;> exact ⟨rfl, rfl⟩
  simp only [a_go]
  by_cases hp : part = 0
  · rw [if_pos hp, if_pos hp]
    generalize a_pins ((A 0).toNat - pl) A pl = z
    obtain ⟨B, ok⟩ := z
    cases ok with
    | none => exact key B _
    | some k => exact ⟨rfl, rfl⟩
  · rw [if_neg hp, if_neg hp]; exact key A _
theorem fin_cl (A : Row) (part pl : Nat) (c l c' l' : Int32) : a_fin (a_go A part pl c l) = a_fin (a_go A part pl c' l') := by
  obtain ⟨h1, h2⟩ := go_cl A part pl c l c' l'
  generalize a_go A part pl c l = z at h1 h2
  generalize a_go A part pl c' l' = z' at h1 h2
  obtain ⟨B1, o1, l1⟩ := z
  obtain ⟨B2, o2, l2⟩ := z'
  simp only at h1 h2
  subst h1; subst h2
  rfl
def a_jw (A : Row) : Int := if A 5 = 1 then A 4 + A 6 else A 6 + 1
/-- what holds while it is jammed -/
def JI (A : Row) : Prop := ((A 5 = 1 ∧ 0 ≤ A 6 ∧ A 6 < A 0) ∨ (A 5 = 2 ∧ 0 ≤ A 6 ∧ A 6 < A 1 - 1)) ∧ (A 7 = 1 ∨ A 7 = -1) ∧ (A 8 = 0 ∨ A 8 = 1)
theorem JI_jw {A : Row} (h : JI A) (hJ : TJ A) : 0 ≤ a_jw A ∧ a_jw A < A 1 := by
  have hz := TJ_sz hJ
  obtain ⟨h1 | h1, -, -⟩ := h
  · unfold a_jw; rw [if_pos h1.1]; omega
  · unfold a_jw; rw [if_neg (by omega)]; omega
theorem c_jammedWheel {b : Nat} {A : Row} {w : mW} {Q : mW → mO → Prop} (hS : MS w b A) (hJI : JI A) (hq : Q w (.inl (some (.int (Int32.ofInt (a_jw A)))))) : CT n_X2_jammedWheel [.ref b] w Q := by
  have s0 := hS.1.1.1
  have s9 := hS.1.1.2.2.2.2.2.2.2.2.2.1
  have r13 := hS.1.2.2.2.2.2.2.2.2.1
  have b4 := hS.2.1.1.2.2.2.2
  obtain ⟨dv, d, p, pl, c, l, ⟨t0, t1, t2, t3, t4, t8, t9⟩, -, -, hj⟩ := hS.2.2.2.2
  obtain ⟨-, -, hp, hpl⟩ := hj (by obtain ⟨h | h, -⟩ := hJI <;> omega)
  have hpR : inR p := by obtain ⟨h | h, -⟩ := hJI <;> exact ⟨by omega, by omega⟩
  refine ct_X2_jammedWheel (rt_X2_jammedWheel_0 ?_)
  simp only [wp_c, wp_n, jj_n, Int.reduceToNat, Int.toNat_natCast, stE, wlE, lgt, lpu, lpw, v_c2, va_s, true_and, and_true, Option.toList, List.nil_append, List.cons_append, List.take, List.drop, List.reverse, List.reverseAux, List.length_cons, List.length_nil, reduceCtorEq, false_implies, true_implies, forall_const, not_true_eq_false, not_false_eq_true, ite_true, ite_false, Bool.false_eq_true, I_I, J_J, Nat.add_left_cancel_iff, Nat.reduceEqDiff, Nat.add_eq_left, Nat.left_eq_add, false_and, and_false, Nat.reduceSub, Nat.sub_self, Nat.le_refl, Nat.zero_le, ge_iff_le, Nat.reduceAdd, Nat.reduceLeDiff, Nat.zero_add, Nat.reduceLT, s0, s9, r13, t3, t4, b4, oi_e0 hpR, oi_add]
  refine ⟨fun h => ?_, fun h => ?_⟩
  · refine rt_X2_jammedWheel_25 ?_
    simp only [wp_c, wp_n, jj_n, Int.reduceToNat, Int.toNat_natCast, stE, wlE, lgt, lpu, lpw, v_c2, va_s, true_and, and_true, Option.toList, List.nil_append, List.cons_append, List.take, List.drop, List.reverse, List.reverseAux, List.length_cons, List.length_nil, reduceCtorEq, false_implies, true_implies, forall_const, not_true_eq_false, not_false_eq_true, ite_true, ite_false, Bool.false_eq_true, I_I, J_J, Nat.add_left_cancel_iff, Nat.reduceEqDiff, Nat.add_eq_left, Nat.left_eq_add, false_and, and_false, Nat.reduceSub, Nat.sub_self, Nat.le_refl, Nat.zero_le, ge_iff_le, Nat.reduceAdd, Nat.reduceLeDiff, Nat.zero_add, Nat.reduceLT, s0, s9, r13, t4, oi_add]
    refine rt_X2_jammedWheel_34 ?_
    simp only [wp_c, wp_n, jj_n, Int.reduceToNat, Int.toNat_natCast, stE, wlE, lgt, lpu, lpw, v_c2, va_s, true_and, and_true, Option.toList, List.nil_append, List.cons_append, List.take, List.drop, List.reverse, List.reverseAux, List.length_cons, List.length_nil, reduceCtorEq, false_implies, true_implies, forall_const, not_true_eq_false, not_false_eq_true, ite_true, ite_false, Bool.false_eq_true, I_I, J_J, Nat.add_left_cancel_iff, Nat.reduceEqDiff, Nat.add_eq_left, Nat.left_eq_add, false_and, and_false, Nat.reduceSub, Nat.sub_self, Nat.le_refl, Nat.zero_le, ge_iff_le, Nat.reduceAdd, Nat.reduceLeDiff, Nat.zero_add, Nat.reduceLT, mr_X2_jammedWheel]
    unfold a_jw at hq; rw [if_neg (by omega)] at hq
    rw [hpl]; exact hq
  · refine rt_X2_jammedWheel_34 ?_
    simp only [wp_c, wp_n, jj_n, Int.reduceToNat, Int.toNat_natCast, stE, wlE, lgt, lpu, lpw, v_c2, va_s, true_and, and_true, Option.toList, List.nil_append, List.cons_append, List.take, List.drop, List.reverse, List.reverseAux, List.length_cons, List.length_nil, reduceCtorEq, false_implies, true_implies, forall_const, not_true_eq_false, not_false_eq_true, ite_true, ite_false, Bool.false_eq_true, I_I, J_J, Nat.add_left_cancel_iff, Nat.reduceEqDiff, Nat.add_eq_left, Nat.left_eq_add, false_and, and_false, Nat.reduceSub, Nat.sub_self, Nat.le_refl, Nat.zero_le, ge_iff_le, Nat.reduceAdd, Nat.reduceLeDiff, Nat.zero_add, Nat.reduceLT, mr_X2_jammedWheel]
    unfold a_jw at hq; rw [if_pos (by omega)] at hq
    rw [hpl]; exact hq
