/-! a turn's end, in both rows -/
def LX (A B : Row) : Prop := B 18 = A 18 ∧ ∀ j, 132 ≤ j → j < 252 → B j = A j
theorem log_full {D : Row} {x y z r : Int} (h : D 18 = 30) (j : Nat) : a_log D x y z r j = if j = 18 then 30 else if j = 251 then r else if j = 250 then z else if j = 249 then y else if j = 248 then x else if 132 ≤ j ∧ j < 248 then D (j + 4) else D j := by
  simp only [a_log, if_pos h]
  have e : up (fun j => if 132 ≤ j ∧ j < 248 then D (j + 4) else D j) 18 29 18 = 29 := by rw [up_eq, if_pos rfl]
  rw [e, show 132 + 4 * (29 : Int).toNat = 248 from rfl]
  simp only [up_eq]
  by_cases h18 : j = 18
  · rw [if_pos h18, if_pos h18]; rfl
  · rw [if_neg h18, if_neg h18, if_neg h18]
theorem log_free {D : Row} {x y z r : Int} {s : Nat} (h : D 18 = s) (h30 : ¬ D 18 = 30) (j : Nat) : a_log D x y z r j = if j = 18 then (s : Int) + 1 else if j = 132 + 4 * s + 3 then r else if j = 132 + 4 * s + 2 then z else if j = 132 + 4 * s + 1 then y else if j = 132 + 4 * s then x else D j := by
  simp only [a_log, if_neg h30]
  rw [h, show 132 + 4 * (s : Int).toNat = 132 + 4 * s by omega]
  simp only [up_eq]
theorem sh_p {D : Row} (h : 0 ≤ D 0 ∧ D 0 ≤ 8) : p_num (o_sh D 29) = p_num D := num_u (by unfold o_sh; rw [if_neg (by omega)]) (by omega) (fun j hj => by unfold o_sh; rw [if_neg (by omega)])
theorem book_o {D : Row} {r : Int} (h : 0 ≤ D 18 ∧ D 18 ≤ 30) {j : Nat} (hj : ¬ j = 18 ∧ ¬ j = 1011 ∧ (j < 132 ∨ 252 ≤ j)) : o_book D r j = D j := by
  unfold o_book
  split
  · rw [lg_at, if_neg hj.1, if_neg (by omega), if_neg (by omega), if_neg (by omega), if_neg (by omega), if_neg hj.2.1]
    unfold o_sh
    rw [if_neg (by omega)]
  · rw [lg_at, if_neg hj.1, if_neg (by omega), if_neg (by omega), if_neg (by omega), if_neg (by omega), if_neg hj.2.1]
theorem book_11 {D : Row} {r : Int} : o_book D r 1011 = o_book D r 18 ∨ ¬ (0 ≤ D 18 ∧ D 18 ≤ 30) := by
  by_cases h : 0 ≤ D 18 ∧ D 18 ≤ 30
  · left
    unfold o_book
    split
    · rw [lg_at, lg_at, if_neg (by omega), if_neg (by omega), if_neg (by omega), if_neg (by omega), if_neg (by omega), if_pos rfl, if_pos rfl]
    · rw [lg_at, lg_at, if_neg (by omega), if_neg (by omega), if_neg (by omega), if_neg (by omega), if_neg (by omega), if_pos rfl, if_pos rfl]
  · exact Or.inr h
theorem LX.log {A D : Row} {x y z r : Int} (hL : LX A D) (hp : p_num D = z) (h4 : D 4 = y) (h7 : D 7 = x) (h18 : 0 ≤ D 18 ∧ D 18 ≤ 30) (h0 : 0 ≤ D 0 ∧ D 0 ≤ 8) : LX (a_log A x y z r) (o_book D r) := by
  have e18 := hL.1
  by_cases h : D 18 = 30
  · have hA : A 18 = 30 := by omega
    have sh : ∀ j, o_sh D 29 j = if 132 ≤ j ∧ j < 248 then D (j + 4) else D j := fun j => rfl
    have q : ∀ j, j = 18 ∨ (132 ≤ j ∧ j < 252) → o_book D r j = a_log A x y z r j := by
      intro j hj
      unfold o_book
      have e4 : o_sh D 29 4 = D 4 := by rw [sh, if_neg (by omega)]
      have e7 : o_sh D 29 7 = D 7 := by rw [sh, if_neg (by omega)]
      rw [if_pos h, lg_at, log_full hA, sh_p h0, hp, e4, e7, h4, h7, sh j]
      by_cases j1 : j = 18
      · rw [if_pos j1, if_pos j1]; rfl
      · rw [if_neg j1, if_neg j1]
        have j2 : 132 ≤ j ∧ j < 252 := by omega
        rw [if_neg (show ¬ j = 1011 by omega)]
        by_cases j3 : j < 248
        · rw [if_neg (by omega), if_neg (by omega), if_neg (by omega), if_neg (by omega), if_pos ⟨j2.1, j3⟩, if_neg (by omega), if_neg (by omega), if_neg (by omega), if_neg (by omega), if_pos ⟨j2.1, j3⟩]
          exact hL.2 _ (by omega) (by omega)
        · rcases (show j = 248 ∨ j = 249 ∨ j = 250 ∨ j = 251 by omega) with rfl | rfl | rfl | rfl <;> simp
    exact ⟨q 18 (Or.inl rfl), fun j h1 h2 => q j (Or.inr ⟨h1, h2⟩)⟩
  · obtain ⟨s, hs⟩ : ∃ s : Nat, D 18 = s := ⟨(D 18).toNat, by omega⟩
    have hA : A 18 = s := by omega
    have q : ∀ j, j = 18 ∨ (132 ≤ j ∧ j < 252) → o_book D r j = a_log A x y z r j := by
      intro j hj
      unfold o_book
      rw [if_neg h, lg_at, log_free hA (by omega), show (D 18).toNat = s by omega, hp, h4, h7]
      by_cases j1 : j = 18
      · rw [if_pos j1, if_pos j1]
      · rw [if_neg j1, if_neg j1, if_neg (show ¬ j = 1011 by omega), hL.2 j (by omega) (by omega)]
    exact ⟨q 18 (Or.inl rfl), fun j h1 h2 => q j (Or.inr ⟨h1, h2⟩)⟩
/-- what the end leaves alone -/
theorem end_o {B : Row} (h18 : 0 ≤ B 18 ∧ B 18 ≤ 30) {j : Nat} (hj : j < 12 ∨ (14 ≤ j ∧ j < 18) ∨ (19 ≤ j ∧ j < 132) ∨ (252 ≤ j ∧ j < 1011) ∨ j = 1012 ∨ 1015 ≤ j) : o_end B j = B j := by
  have e : ∀ i, ¬ i = 1013 → ¬ i = 1014 → ¬ i = 12 → ¬ i = 13 → o_cts (up (up B 1013 (o_c B)) 1014 (o_d B)) i = B i := by
    intro i h1 h2 h3 h4
    unfold o_cts
    rw [up_eq, if_neg h4, up_eq, if_neg h3, up_eq, if_neg h2, up_eq, if_neg h1]
  unfold o_end
  rw [book_o (by rw [e _ (by omega) (by omega) (by omega) (by omega)]; exact h18) (by omega), e _ (by omega) (by omega) (by omega) (by omega)]
theorem rl_end {A B : Row} (hR : RAB A B) (hI : TI A) (h18 : 0 ≤ A 18) (hd : ∀ j, j < 16 → 0 ≤ A (116 + j) ∧ A (116 + j) ≤ 9) (h7 : B 7 = A 7) (h8 : B 8 = A 8) (hk : B 1013 = k_num A) (hdu : B 1014 = du A) (h18B : 0 ≤ B 18 ∧ B 18 ≤ 30) (hc : B 1042 = A 14 - A 9) (h9 : A 9 = 0 ∨ A 9 = 1) :
    RAB (up (a_owe (a_endC A 1 - a_endC A 4).toNat (a_endC A) (a_endC A 4).toNat 0) 5 0) (o_end B) ∧ o_end B 1013 = k_num (up (a_owe (a_endC A 1 - a_endC A 4).toNat (a_endC A) (a_endC A 4).toNat 0) 5 0) ∧ o_end B 1014 = du (up (a_owe (a_endC A 1 - a_endC A 4).toNat (a_endC A) (a_endC A 4).toNat 0) 5 0) ∧ o_end B 1011 = o_end B 18 ∧ (LX A B → LX (up (a_owe (a_endC A 1 - a_endC A 4).toNat (a_endC A) (a_endC A 4).toNat 0) 5 0) (o_end B)) := by
  have h0 := hI.1
  have hs := hR.sz
  have hIE := endC_TI hI h18
  have hdE : ∀ j, j < 16 → 0 ≤ a_endC A (116 + j) ∧ a_endC A (116 + j) ≤ 9 := fun j hj => by rw [endC_k hI h18 (by unfold kg; omega)]; exact hd j hj
  obtain ⟨o1, o2, o3⟩ := owe_du hIE hdE
  have fA : ∀ j, (j < 116 ∨ 132 ≤ j) → ¬ j = 5 → up (a_owe (a_endC A 1 - a_endC A 4).toNat (a_endC A) (a_endC A 4).toNat 0) 5 0 j = a_endC A j := fun j hj h5 => by rw [up_eq, if_neg h5, o2 j hj]
  generalize hA' : up (a_owe (a_endC A 1 - a_endC A 4).toNat (a_endC A) (a_endC A 4).toNat 0) 5 0 = A' at fA ⊢
  have e12 := endC_12 h18 hI.2.1
  have eC : ∀ i, ¬ i = 1013 → ¬ i = 1014 → ¬ i = 12 → ¬ i = 13 → o_cts (up (up B 1013 (o_c B)) 1014 (o_d B)) i = B i := by
    intro i h1 h2 h3 h4
    unfold o_cts
    rw [up_eq, if_neg h4, up_eq, if_neg h3, up_eq, if_neg h2, up_eq, if_neg h1]
  have eC18 : 0 ≤ o_cts (up (up B 1013 (o_c B)) 1014 (o_d B)) 18 ∧ o_cts (up (up B 1013 (o_c B)) 1014 (o_d B)) 18 ≤ 30 := by rw [eC _ (by omega) (by omega) (by omega) (by omega)]; exact h18B
  have b12 : o_end B 12 = B 12 + 1 := by
    unfold o_end
    rw [book_o eC18 (by omega)]
    unfold o_cts
    rw [up_eq, if_neg (by omega), up_eq, if_pos rfl, up_eq, if_neg (by omega), up_eq, if_neg (by omega)]
  have b13 : o_end B 13 = B 13 + (if B 7 < 0 then 1 else 0) := by
    unfold o_end
    rw [book_o eC18 (by omega)]
    unfold o_cts
    have x13 : up (up B 1013 (o_c B)) 1014 (o_d B) 13 = B 13 := by rw [up_eq, if_neg (by omega), up_eq, if_neg (by omega)]
    have x7 : up (up B 1013 (o_c B)) 1014 (o_d B) 7 = B 7 := by rw [up_eq, if_neg (by omega), up_eq, if_neg (by omega)]
    rw [x13, x7, up_eq, if_pos rfl]
  have b1013 : o_end B 1013 = o_c B := by
    unfold o_end
    rw [book_o eC18 (by omega)]
    unfold o_cts
    rw [up_eq, if_neg (by omega), up_eq, if_neg (by omega), up_eq, if_neg (by omega), up_eq, if_pos rfl]
  have b1014 : o_end B 1014 = o_d B := by
    unfold o_end
    rw [book_o eC18 (by omega)]
    unfold o_cts
    rw [up_eq, if_neg (by omega), up_eq, if_neg (by omega), up_eq, if_pos rfl]
  have cn : ∀ j, 52 ≤ j → a_cnt (A 2 - A 4).toNat A (A 4).toNat (if 0 < A 8 then -A 7 else A 7) j = A j := fun j hj => cnt_s _ _ _ _ _ (by omega)
  have ep : p_num B = p_num A := num_u hs.1 (by omega) (fun j hj => hR.pin hj)
  refine ⟨⟨fun j hj => ?_, fun i hi => ?_⟩, ?_, ?_, ?_, fun hL => ?_⟩
  · have hb := hR.1 j hj
    by_cases j12 : j = 12
    · subst j12
      rw [b12, fA _ (by omega) (by omega), e12.1, hb]
    · by_cases j13 : j = 13
      · subst j13
        rw [b13, fA _ (by omega) (by omega), e12.2, hb, h7]
      · unfold RK at hj
        rw [end_o h18B (by omega), fA _ (by omega) (by omega)]
        by_cases j44 : j < 44
        · rw [endC_j h18 (by omega)]; exact hb
        · rw [endC_44 h18 (by omega), cn _ (by omega)]; exact hb
  · rw [end_o h18B (by omega), fA _ (by omega) (by omega), endC_44 h18 (by omega), cn _ (by omega)]
    exact hR.2 i hi
  · have e : k_num A' = k_num (a_endC A) := by
      unfold k_num
      rw [fA _ (by omega) (by omega)]
      exact hn_c _ _ (fun i hi => fA _ (by
        have e2 : a_endC A 2 = A 2 := endC_j h18 (by omega)
        rw [e2] at hi
        omega) (by omega))
    rw [b1013, e, endC_num hI h18]
    unfold o_c o_sg
    rw [hs.2.2.1, hs.2.2.2.2, h8, h7, hk]
  · have e : du A' = du (a_owe (a_endC A 1 - a_endC A 4).toNat (a_endC A) (a_endC A 4).toNat 0) := by
      rw [← hA']
      unfold du
      rw [up_eq, if_neg (by omega)]
      exact hn_c _ _ (fun i hi => by rw [up_eq, if_neg (by omega)])
    have e1 : a_endC A 1 = A 1 := endC_j h18 (by omega)
    have e4 : a_endC A 4 = A 4 := endC_j h18 (by omega)
    have e7 : a_endC A 7 = A 7 := endC_j h18 (by omega)
    have kgk : ∀ j, kg j → a_endC A j = A j := fun j hj => endC_k hI h18 hj
    rw [b1014, e, o3, e7, e4, e1, du_c kgk (by omega), num_g kgk (by omega)]
    unfold o_d
    rw [hdu, h7, ep, hs.2.1, hs.2.2.2.2]
  · have := book_11 (D := o_cts (up (up B 1013 (o_c B)) 1014 (o_d B))) (r := if B 1042 < B 14 then 1 else 0)
    rcases this with q | q
    · exact q
    · exact absurd eC18 q
  · have er : (if B 1042 < B 14 then (1 : Int) else 0) = A 9 := by
      have e14 : B 14 = A 14 := hR.cts (j := 2) (by omega)
      rw [hc, e14]
      rcases h9 with q | q <;> rw [q] <;> split <;> omega
    have key : LX (a_endC A) (o_end B) := by
      unfold o_end
      rw [er]
      simp only [a_endC]
      refine LX.log ⟨?_, fun j h1 h2 => ?_⟩ ?_ ?_ ?_ eC18 ?_
      · rw [eC _ (by omega) (by omega) (by omega) (by omega), hL.1]
        split
        · rw [up_eq, if_neg (by omega), up_eq, if_neg (by omega), cnt_s _ _ _ _ _ (Or.inl (by omega))]
        · rw [up_eq, if_neg (by omega), cnt_s _ _ _ _ _ (Or.inl (by omega))]
      · rw [eC _ (by omega) (by omega) (by omega) (by omega), hL.2 j h1 h2]
        split
        · rw [up_eq, if_neg (by omega), up_eq, if_neg (by omega), cn _ (by omega)]
        · rw [up_eq, if_neg (by omega), cn _ (by omega)]
      · rw [← ep]
        exact num_u (eC _ (by omega) (by omega) (by omega) (by omega)) (by omega) (fun j hj => eC _ (by omega) (by omega) (by omega) (by omega))
      · rw [eC _ (by omega) (by omega) (by omega) (by omega)]; exact hs.2.2.2.2
      · rw [eC _ (by omega) (by omega) (by omega) (by omega)]; exact h7
      · rw [eC _ (by omega) (by omega) (by omega) (by omega), hs.1]; omega
    refine ⟨by rw [fA _ (by omega) (by omega)]; exact key.1, fun j h1 h2 => by rw [fA _ (by omega) (by omega)]; exact key.2 j h1 h2⟩
/-- all that both machines share between two calls -/
def RX (A B : Row) : Prop := RAB A B ∧ B 5 = A 5 ∧ B 1013 = k_num A ∧ B 1014 = du A ∧ B 1011 = B 18
def KG (B B' : Row) : Prop := ∀ j, (j = 7 ∨ j = 8 ∨ j = 1000 ∨ 1015 ≤ j) → B' j = B j
theorem RAB.u5 {A B : Row} {v : Int} (h : RAB A B) : RAB A (up B 5 v) :=
  ⟨fun j hj => by rw [up_eq, if_neg (by unfold RK at hj; omega)]; exact h.1 j hj, fun i hi => by rw [up_eq, if_neg (by omega)]; exact h.2 i hi⟩
theorem RAB.uA {A B : Row} {v : Int} {k : Nat} (h : RAB A B) (hk : 5 ≤ k ∧ k < 12) : RAB (up A k v) B :=
  ⟨fun j hj => by rw [up_eq, if_neg (by unfold RK at hj; omega)]; exact h.1 j hj, fun i hi => by rw [up_eq, if_neg (by omega)]; exact h.2 i hi⟩
theorem k_c {A B : Row} (e2 : B 2 = A 2) (h2 : A 2 ≤ 8) (e : ∀ j, j < 8 → B (44 + j) = A (44 + j)) : k_num B = k_num A := by
  unfold k_num
  rw [e2]
  exact hn_c _ _ (fun i hi => e i (by omega))
theorem d_c {A B : Row} (e1 : B 1 = A 1) (h1 : A 1 ≤ 16) (e : ∀ j, j < 16 → B (116 + j) = A (116 + j)) : du B = du A := by
  unfold du
  rw [e1]
  exact hn_c _ _ (fun i hi => e i (by omega))
theorem kn_b {A : Row} (hI : TI A) : 0 ≤ k_num A ∧ k_num A < 100000000 := by
  have h0 := hI.1
  have h := hn_b (fun i => A (44 + i)) (A 2).toNat 0 (fun i hi => hI.2.2.2.2.1 i (by omega)) (by omega)
  have hp := p8 (A 2).toNat (by omega)
  unfold k_num
  omega
theorem du_bb {A : Row} (h1 : 0 ≤ A 1 ∧ A 1 ≤ 16) (hd : ∀ j, j < 16 → 0 ≤ A (116 + j) ∧ A (116 + j) ≤ 9) : 0 ≤ du A ∧ du A < 10000000000000000 := by
  have h := hn_b (fun i => A (116 + i)) (A 1).toNat 0 (fun i hi => hd i (by omega)) (by omega)
  have hp := p16 (A 1).toNat (by omega)
  unfold du
  omega
def a_lv (A : Row) (wh : Nat) (c l : Int32) : Row × Option (Nat × Nat) × Int32 := match a_lev ((A 1).toNat - wh) A wh c l with
  | (B', none, l') => (a_endC B', none, l')
  | (B', some k, l') => (B', some (1, k), l')
theorem go_0 (A : Row) (pl : Nat) (c l : Int32) (e1 : (a_pins ((A 0).toNat - pl) A pl).1 1 = A 1) : a_go A 0 pl c l = match (a_pins ((A 0).toNat - pl) A pl).2 with
    | some k => ((a_pins ((A 0).toNat - pl) A pl).1, some (0, k), l)
    | none => a_lv (a_pins ((A 0).toNat - pl) A pl).1 (A 4).toNat c l := by
  unfold a_go a_lv
  rw [if_pos rfl, e1]
  generalize a_pins ((A 0).toNat - pl) A pl = z
  obtain ⟨B, ok⟩ := z
  cases ok <;> rfl
theorem go_1 (A : Row) (pl : Nat) (c l : Int32) : a_go A 1 pl c l = a_lv A pl c l := by
  unfold a_go a_lv
  rw [if_neg (by omega)]
  rfl
/-- what goes on from the levers -/
theorem z_lv {b o wh : Nat} {P : Nat → Nat} {A B : Row} {x1 x2 : Int32} {c l : Int32} {v4 v5 : Value} {w : mW} {Q : mW → mO → Prop} (hO : OW w b o P B) (hI : TI A) (hM : M0 A) (hR : RAB A B) (h7 : B 7 = A 7) (h8 : B 8 = A 8) (h8' : A 8 = 0 ∨ A 8 = 1) (h5 : B 5 = 0) (hk : B 1013 = k_num A) (hdu : B 1014 = du A) (h11 : B 1011 = B 18) (h18 : 0 ≤ A 18) (hd : ∀ j, j < 16 → 0 ≤ A (116 + j) ∧ A (116 + j) ≤ 9)
  (hcd : B 1042 = A 14 - A 9) (hcr : 0 ≤ B 1042 ∧ B 1042 ≤ 1000000000) (h9 : A 9 = 0) (hc : Int32.ofInt (B 1010) = c) (hl : Int32.ofInt (B 1009) = l) (hw : (wh : Int) ≤ A 1)
  (hq : ∀ w' B', OW w' b o P B' → FO b w w' → RX (a_fin (a_lv A wh c l)) B' → KG B B' → (0 < a_fin (a_lv A wh c l) 5 → B' 6 = a_fin (a_lv A wh c l) 6) → Int32.ofInt (B' 1009) = (a_lv A wh c l).2.2 → SV A (a_fin (a_lv A wh c l)) → (LX A B → LX (a_fin (a_lv A wh c l)) B') → Q w' (.inl (some (.int (Int32.ofInt (match (a_lv A wh c l).2.1 with | none => 1 | some _ => 0)))))) :
  RT n_X10_goOn 101 [.ref o, .int x1, .int x2, .int (Int32.ofInt wh), v4, v5] [] w (1, 4, false) Q := by
  have h0 := hI.1
  have kk := lev_k ((A 1).toNat - wh) A wh c l
  have kI := lev_TI ((A 1).toNat - wh) A wh c l (by omega) hI
  have kS := lev_SV ((A 1).toNat - wh) A wh c l (by omega) hI
  have k9 := lev_9 ((A 1).toNat - wh) A wh c l (by omega) (by omega)
  refine z_gl ((A 1).toNat - wh) A B wh c l w v4 v5 (by omega) hI hM hR h7 hc hl hO ?_
  intro w1 B1 r1 r2 r3 r4 r5 r6
  have hk1 : ∀ j, kp j → (a_lev ((A 1).toNat - wh) A wh c l).1 j = A j := fun j hj => kk j (by omega) (by omega) hj
  clear kk
  unfold a_lv at hq
  generalize a_lev ((A 1).toNat - wh) A wh c l = z at hq r1 r3 r4 kI kS k9 hk1 ⊢
  obtain ⟨A1, ok, l1⟩ := z
  simp only at hq r1 r3 r4 kI kS k9 hk1 ⊢
  have h01 := kI.1
  have g1 : A1 1 = A 1 := hk1 1 (by unfold kp; omega)
  have g2 : A1 2 = A 2 := hk1 2 (by unfold kp; omega)
  have g7 : A1 7 = A 7 := hk1 7 (by unfold kp; omega)
  have g8 : A1 8 = A 8 := hk1 8 (by unfold kp; omega)
  have g18 : A1 18 = A 18 := hk1 18 (by unfold kp; omega)
  have gk : k_num A1 = k_num A := k_c g2 (by omega) (fun j hj => hk1 _ (by unfold kp; omega))
  have gd : du A1 = du A := d_c g1 (by omega) (fun j hj => hk1 _ (by unfold kp; omega))
  have gL : LX A B → LX A1 B1 := fun hL => ⟨by rw [r2 18 (by omega), g18]; exact hL.1, fun j h1 h2 => by rw [r2 j (by omega), hk1 j (by unfold kp; omega)]; exact hL.2 j h1 h2⟩
  cases ok with
  | none =>
    intro z5 z6 v3 v4 v5
    have q9 : A1 9 = 0 ∨ A1 9 = 1 := by
      rcases k9 with q | q
      · left; omega
      · right; have := q.1; omega
    have hc1 : B1 1042 = A1 14 - A1 9 := by
      rw [r2 1042 (by omega), hcd]
      have := kS.2.1 0 (by omega)
      simp only [Nat.add_zero] at this
      omega
    have h18B := r5.2.2.1
    have kb := kn_b hI
    have db := du_bb (A := A) (by omega) hd
    have e14 : B1 14 = A1 14 := r1.cts (j := 2) (by omega)
    have e1042 : B1 1042 = B 1042 := r2 1042 (by omega)
    have hd1 : ∀ j, j < 16 → 0 ≤ A1 (116 + j) ∧ A1 (116 + j) ≤ 9 := fun j hj => by rw [hk1 _ (by unfold kp; omega)]; exact hd j hj
    refine z_end r5 (r1.os kI) (by rw [r2 7 (by omega), h7]; exact hI.2.1) (by rw [r2 8 (by omega), h8]; exact h8') (by rw [r2 1011 (by omega), r2 18 (by omega)]; exact h11) (by constructor <;> constructor <;> rcases q9 with q | q <;> omega) (by rw [r2 1014 (by omega), hdu]; exact db) (by rw [r2 1013 (by omega), hk]; exact kb) fun w2 m1 m2 => ?_
    obtain ⟨f1, f2, f3, f4, f5⟩ := rl_end r1 kI (by rw [g18]; exact h18) hd1 (by rw [r2 7 (by omega), g7]; exact h7) (by rw [r2 8 (by omega), g8]; exact h8) (by rw [r2 1013 (by omega), gk]; exact hk) (by rw [r2 1014 (by omega), gd]; exact hdu) h18B hc1 q9
    have e5 : up (a_owe (a_endC A1 1 - a_endC A1 4).toNat (a_endC A1) (a_endC A1 4).toNat 0) 5 0 5 = 0 := by rw [up_eq, if_pos rfl]
    have hIE := endC_TI kI (by rw [g18]; exact h18)
    have hdE : ∀ j, j < 16 → 0 ≤ a_endC A1 (116 + j) ∧ a_endC A1 (116 + j) ≤ 9 := fun j hj => by rw [endC_k kI (by rw [g18]; exact h18) (by unfold kg; omega)]; exact hd1 j hj
    obtain ⟨o1, o2, o3⟩ := owe_du hIE hdE
    refine hq w2 _ m1 (r6.trans m2) ⟨f1, ?_, f2, f3, f4⟩ ?_ ?_ ?_ ?_ (fun hL => f5 (gL hL))
    · rw [end_o h18B (by omega), z5, h5]; exact e5.symm
    · intro j hj
      rw [end_o h18B (by omega)]
      by_cases q : j = 1000
      · subst q; exact r2 1000 (by omega)
      · exact r2 j (by omega)
    · intro q
      simp only [a_fin] at q
      rw [e5] at q
      omega
    · rw [end_o h18B (by omega)]; exact r4
    · refine kS.trans (SV.same (fun j hj => ?_))
      simp only [a_fin]
      rw [up_eq, if_neg (by omega), o2 j (by omega)]
      by_cases q : j < 44
      · rw [endC_j (by rw [g18]; exact h18) (by omega)]
      · rw [endC_44 (by rw [g18]; exact h18) (by omega), cnt_s _ _ _ _ _ (by omega)]
  | some k =>
    intro z5 z6
    have e5 : up (up A1 5 (((1 : Nat) : Int) + 1)) 6 k 5 = 2 := by rw [up_eq, if_neg (by omega), up_eq, if_pos rfl]; rfl
    have e6 : up (up A1 5 (((1 : Nat) : Int) + 1)) 6 k 6 = k := by rw [up_eq, if_pos rfl]
    refine hq w1 B1 r5 r6 ⟨(r1.uA (by omega)).uA (by omega), ?_, ?_, ?_, ?_⟩ ?_ ?_ r4 ?_ ?_
    · rw [z5]; exact e5.symm
    · rw [r2 1013 (by omega), hk]
      refine ((k_c ?_ (by omega) (fun j hj => ?_)).trans gk).symm
      · simp only [a_fin]; rw [up_eq, if_neg (by omega), up_eq, if_neg (by omega)]
      · simp only [a_fin]; rw [up_eq, if_neg (by omega), up_eq, if_neg (by omega)]
    · rw [r2 1014 (by omega), hdu]
      refine ((d_c ?_ (by omega) (fun j hj => ?_)).trans gd).symm
      · simp only [a_fin]; rw [up_eq, if_neg (by omega), up_eq, if_neg (by omega)]
      · simp only [a_fin]; rw [up_eq, if_neg (by omega), up_eq, if_neg (by omega)]
    · rw [r2 1011 (by omega), r2 18 (by omega)]; exact h11
    · intro j hj
      by_cases q : j = 1000
      · subst q; exact r2 1000 (by omega)
      · exact r2 j (by omega)
    · intro _
      rw [z6]; exact e6.symm
    · refine kS.trans (SV.same (fun j hj => ?_))
      simp only [a_fin]
      rw [up_eq, if_neg (by omega), up_eq, if_neg (by omega)]
    · intro hL
      have := gL hL
      refine ⟨?_, fun j h1 h2 => ?_⟩
      · simp only [a_fin]; rw [up_eq, if_neg (by omega), up_eq, if_neg (by omega)]; exact this.1
      · simp only [a_fin]; rw [up_eq, if_neg (by omega), up_eq, if_neg (by omega)]; exact this.2 j h1 h2
