/-! the second machine of the law: its object at o, its rows at P 15 .. P 23, its book at P 24; a row B says all that it holds -/
def olen (f : Nat) : Nat := if f = 15 then 8 else if f = 21 then 6 else if f = 23 then 6 else 16
def oi (f i : Nat) : Nat := if f = 15 then 20 + i else if f = 16 then 28 + i else if f = 17 then 68 + i else if f = 18 then 52 + i else if f = 19 then 100 + i else if f = 20 then 84 + i else if f = 21 then 12 + i else if f = 22 then 1020 + i else 1040 + i
def of (f : Nat) : Nat := if f = 0 then 1000 else if f ≤ 8 then f - 1 else if f = 12 then 8 else 1000 + f
def OP (w : mW) (b o : Nat) (P : Nat → Nat) : Prop := w_sh w o = (0, 10) ∧ (b ≤ o ∧ o < 100 + w_n w) ∧ (∀ f, 15 ≤ f → f ≤ 23 → w_sh w (P f) = (1, olen f)) ∧ w_sh w (P 24) = (7, 30) ∧ (∀ f, 15 ≤ f → f ≤ 24 → w_R w o f = some (P f) ∧ b ≤ P f ∧ P f < 100 + w_n w) ∧ (∀ f g, 15 ≤ f → f ≤ 24 → 15 ≤ g → g ≤ 24 → f ≠ g → P f ≠ P g)
def OV (w : mW) (o : Nat) (P : Nat → Nat) (B : Row) : Prop := (∀ f, f ≤ 12 → w_I w o f = Int32.ofInt (B (of f))) ∧ (w_J w o 13 = Int64.ofInt (B 1013) ∧ w_J w o 14 = Int64.ofInt (B 1014)) ∧ ∀ f i, 15 ≤ f → f ≤ 23 → i < olen f → w_I w (P f) i = Int32.ofInt (B (oi f i))
def OL (w : mW) (P : Nat → Nat) (B : Row) : Prop := (0 ≤ B 18 ∧ B 18 ≤ 30) ∧ ∀ i : Nat, (i : Int) < B 18 → ∃ q, w_R w (P 24) i = some q ∧ w_sh w q = (1, 4) ∧ q < 100 + w_n w ∧ ∀ k, k < 4 → w_I w q k = Int32.ofInt (B (132 + 4 * i + k))
def OW (w : mW) (b o : Nat) (P : Nat → Nat) (B : Row) : Prop := OP w b o P ∧ OV w o P B ∧ OL w P B
/-- shapes that an own machine has none of -/
def sf (z : Nat × Nat) : Prop := z ≠ (0, 10) ∧ z ≠ (1, 8) ∧ z ≠ (1, 16) ∧ z ≠ (1, 6) ∧ z ≠ (7, 30)
/-- what lies below b stays, and what is of no shape of an own machine -/
def FO (b : Nat) (w w' : mW) : Prop := (∀ a, (a < b ∨ (a < 100 + w_n w ∧ sf (w_sh w a))) → w_sh w' a = w_sh w a ∧ w_R w' a = w_R w a ∧ w_I w' a = w_I w a ∧ w_J w' a = w_J w a) ∧ w_n w ≤ w_n w'
def UB (b : Nat) (w : mW) (a : Nat) : Prop := b ≤ a ∧ (¬ sf (w_sh w a) ∨ 100 + w_n w ≤ a)
theorem UB.no {b a c : Nat} {w : mW} (h : UB b w a) (hc : c < b ∨ (c < 100 + w_n w ∧ sf (w_sh w c))) : ¬ c = a := by
  intro e
  subst e
  rcases hc with q | q
  · have := h.1; omega
  · rcases h.2 with r | r
    · exact r q.2
    · have := q.1; omega
theorem FO.refl (b : Nat) (w : mW) : FO b w w := ⟨fun _ _ => ⟨rfl, rfl, rfl, rfl⟩, Nat.le_refl _⟩
theorem FO.trans {b : Nat} {w w' w'' : mW} (h : FO b w w') (h' : FO b w' w'') : FO b w w'' :=
  ⟨fun a ha => by
    have e := h.1 a ha
    have e' := h'.1 a (by
      rcases ha with q | q
      · exact Or.inl q
      · refine Or.inr ⟨by have := h.2; have := q.1; omega, ?_⟩
        rw [e.1]; exact q.2)
    exact ⟨e'.1.trans e.1, e'.2.1.trans e.2.1, e'.2.2.1.trans e.2.2.1, e'.2.2.2.trans e.2.2.2⟩, Nat.le_trans h.2 h'.2⟩
theorem FO.low {b c : Nat} {w w' : mW} (h : FO b w w') (hc : c ≤ b) : FO c w w' := ⟨fun a ha => h.1 a (by rcases ha with q | q; left; omega; exact Or.inr q), h.2⟩
theorem FO.I {b a i : Nat} {x : Int32} {w w' : mW} (h : FO b w w') (ha : UB b w a) : FO b w (s_I w' a i x) :=
  ⟨fun c hc => ⟨(h.1 c hc).1, (h.1 c hc).2.1, by rw [← (h.1 c hc).2.2.1]; funext j; rw [I_I, if_neg (fun q => ha.no hc q.1)], (h.1 c hc).2.2.2⟩, h.2⟩
theorem FO.I' {b a i : Nat} {x : Int32} {w w' : mW} (h : FO b w w') (ha : UB b w' a) : FO b w (s_I w' a i x) := h.trans ((FO.refl _ _).I ha)
theorem FO.J {b a i : Nat} {x : Int64} {w w' : mW} (h : FO b w w') (ha : UB b w a) : FO b w (s_J w' a i x) :=
  ⟨fun c hc => ⟨(h.1 c hc).1, (h.1 c hc).2.1, (h.1 c hc).2.2.1, by rw [← (h.1 c hc).2.2.2]; funext j; rw [J_J, if_neg (fun q => ha.no hc q.1)]⟩, h.2⟩
theorem FO.R {b a i : Nat} {x : Option Nat} {w w' : mW} (h : FO b w w') (ha : UB b w a) : FO b w (s_R w' a i x) :=
  ⟨fun c hc => ⟨(h.1 c hc).1, by rw [← (h.1 c hc).2.1]; funext j; rw [R_R, if_neg (fun q => ha.no hc q.1)], (h.1 c hc).2.2.1, (h.1 c hc).2.2.2⟩, h.2⟩
theorem FO.R' {b a i : Nat} {x : Option Nat} {w w' : mW} (h : FO b w w') (ha : UB b w' a) : FO b w (s_R w' a i x) := h.trans ((FO.refl _ _).R ha)
theorem FO.lv {b c : Nat} {w w' : mW} (h : FO b w w') (hb : b ≤ 100 + w_n w') (hc : c < b ∨ (c < 100 + w_n w ∧ sf (w_sh w c))) : c < 100 + w_n w' := by
  have := h.2
  rcases hc with q | q
  · omega
  · have := q.1; omega
theorem FO.N {b q : Nat} {z : Nat × Nat} {w w' : mW} (h : FO b w w') (hq : w_n w' ≤ q) (hb : b ≤ 100 + w_n w') : FO b w (s_N (s_K w' q) z) :=
  ⟨fun c hc => by
    have hl := h.lv hb hc
    have hn : ¬ c = 100 + w_n (s_K w' q) := by show ¬ c = 100 + q; omega
    refine ⟨?_, ?_, ?_, ?_⟩
    · rw [N_sh, if_neg hn]; exact (h.1 c hc).1
    · rw [N_Rc, if_neg hn]; exact (h.1 c hc).2.1
    · rw [N_Ic, if_neg hn]; exact (h.1 c hc).2.2.1
    · rw [N_Jc, if_neg hn]; exact (h.1 c hc).2.2.2, by rw [N_n]; show w_n w ≤ q + 1; have := h.2; omega⟩
theorem oi_rng {f i : Nat} (hf : 15 ≤ f ∧ f ≤ 23) (hi : i < olen f) : (12 ≤ oi f i ∧ oi f i ≤ 17) ∨ (20 ≤ oi f i ∧ oi f i < 116) ∨ (1020 ≤ oi f i ∧ oi f i < 1046) := by
  unfold olen at hi; unfold oi
  rcases (show f = 15 ∨ f = 16 ∨ f = 17 ∨ f = 18 ∨ f = 19 ∨ f = 20 ∨ f = 21 ∨ f = 22 ∨ f = 23 by omega) with rfl | rfl | rfl | rfl | rfl | rfl | rfl | rfl | rfl <;> simp at hi ⊢ <;> omega
theorem of_rng {f : Nat} (hf : f ≤ 12) : (1 ≤ f ∧ f ≤ 8 ∧ of f = f - 1) ∨ (f = 12 ∧ of f = 8) ∨ ((f = 0 ∨ f = 9 ∨ f = 10 ∨ f = 11) ∧ of f = 1000 + f) := by
  unfold of
  rcases (show f = 0 ∨ f = 1 ∨ f = 2 ∨ f = 3 ∨ f = 4 ∨ f = 5 ∨ f = 6 ∨ f = 7 ∨ f = 8 ∨ f = 9 ∨ f = 10 ∨ f = 11 ∨ f = 12 by omega) with rfl | rfl | rfl | rfl | rfl | rfl | rfl | rfl | rfl | rfl | rfl | rfl | rfl <;> simp
theorem oi_base (f i : Nat) (hf : 15 ≤ f ∧ f ≤ 23) : oi f i = oi f 0 + i := by
  unfold oi
  rcases (show f = 15 ∨ f = 16 ∨ f = 17 ∨ f = 18 ∨ f = 19 ∨ f = 20 ∨ f = 21 ∨ f = 22 ∨ f = 23 by omega) with rfl | rfl | rfl | rfl | rfl | rfl | rfl | rfl | rfl <;> simp
theorem oi_inj {f g i j : Nat} (hf : 15 ≤ f ∧ f ≤ 23) (hg : 15 ≤ g ∧ g ≤ 23) (hi : i < olen f) (hj : j < olen g) (h : oi g j = oi f i) : g = f ∧ j = i := by
  unfold olen at hi hj; unfold oi at h
  rcases (show f = 15 ∨ f = 16 ∨ f = 17 ∨ f = 18 ∨ f = 19 ∨ f = 20 ∨ f = 21 ∨ f = 22 ∨ f = 23 by omega) with rfl | rfl | rfl | rfl | rfl | rfl | rfl | rfl | rfl <;>
  rcases (show g = 15 ∨ g = 16 ∨ g = 17 ∨ g = 18 ∨ g = 19 ∨ g = 20 ∨ g = 21 ∨ g = 22 ∨ g = 23 by omega) with rfl | rfl | rfl | rfl | rfl | rfl | rfl | rfl | rfl <;> simp at hi hj h ⊢ <;> omega
theorem of_inj {f g : Nat} (hf : f ≤ 12) (hg : g ≤ 12) (h : of g = of f) : g = f := by
  have h1 := of_rng hf
  have h2 := of_rng hg
  omega
theorem OP.ne {w : mW} {b o : Nat} {P : Nat → Nat} (h : OP w b o P) {f : Nat} (h1 : 15 ≤ f) (h2 : f ≤ 24) : P f ≠ o := by
  intro e
  by_cases h3 : f = 24
  · subst h3
    have := h.2.2.2.1
    rw [e, h.1] at this
    exact absurd (congrArg Prod.fst this) (by decide)
  · have := h.2.2.1 f h1 (by omega)
    rw [e, h.1] at this
    have := congrArg Prod.fst this
    simp at this
theorem OW.put {w : mW} {b o f i : Nat} {P : Nat → Nat} {B : Row} {v : Int} (h : OW w b o P B) (hf : 15 ≤ f ∧ f ≤ 23) (hi : i < olen f) : OW (s_I w (P f) i (Int32.ofInt v)) b o P (up B (oi f i) v) := by
  obtain ⟨hp, ⟨v1, ⟨v2, v3⟩, v4⟩, l0, l1⟩ := h
  have hr := oi_rng hf hi
  refine ⟨hp, ⟨fun g hg => ?_, ⟨?_, ?_⟩, fun g j g1 g2 hj => ?_⟩, ?_, fun k hk => ?_⟩
  · have := of_rng hg
    rw [I_I, if_neg (fun q => hp.ne hf.1 (by omega) q.1.symm), up_eq, if_neg (by omega)]; exact v1 g hg
  · rw [J_I, up_eq, if_neg (by omega)]; exact v2
  · rw [J_I, up_eq, if_neg (by omega)]; exact v3
  · rw [I_I, up_eq]
    by_cases e : g = f ∧ j = i
    · obtain ⟨rfl, rfl⟩ := e
      rw [if_pos ⟨rfl, rfl⟩, if_pos rfl]
    · rw [if_neg (fun q => e (oi_inj hf ⟨g1, g2⟩ hi hj q)), if_neg, v4 g j g1 g2 hj]
      intro q
      by_cases e1 : g = f
      · exact e ⟨e1, q.2⟩
      · exact hp.2.2.2.2.2 g f g1 (by omega) hf.1 (by omega) e1 q.1
  · rw [up_eq, if_neg (by omega)]; exact l0
  · rw [up_eq, if_neg (by omega)] at hk
    obtain ⟨q, q1, q2, q3, q4⟩ := l1 k hk
    refine ⟨q, q1, q2, q3, fun m hm => ?_⟩
    rw [I_I, if_neg, up_eq, if_neg (by omega)]
    · exact q4 m hm
    · intro e
      have := hp.2.2.1 f hf.1 hf.2
      rw [← e.1, q2] at this
      have h4 := congrArg Prod.snd this
      unfold olen at h4
      simp only at h4
      split at h4
      · omega
      · split at h4
        · omega
        · split at h4 <;> omega
theorem OW.fld {w : mW} {b o f : Nat} {P : Nat → Nat} {B : Row} {v : Int} (h : OW w b o P B) (hf : f ≤ 12) : OW (s_I w o f (Int32.ofInt v)) b o P (up B (of f) v) := by
  obtain ⟨hp, ⟨v1, ⟨v2, v3⟩, v4⟩, l0, l1⟩ := h
  have hr := of_rng hf
  refine ⟨hp, ⟨fun g hg => ?_, ⟨?_, ?_⟩, fun g j g1 g2 hj => ?_⟩, ?_, fun k hk => ?_⟩
  · rw [I_I, up_eq]
    by_cases e : g = f
    · subst e; rw [if_pos ⟨rfl, rfl⟩, if_pos rfl]
    · rw [if_neg (fun q => e q.2), if_neg (fun q => e (of_inj hf hg q))]; exact v1 g hg
  · rw [J_I, up_eq, if_neg (by omega)]; exact v2
  · rw [J_I, up_eq, if_neg (by omega)]; exact v3
  · have := oi_rng ⟨g1, g2⟩ hj
    rw [I_I, if_neg (fun q => hp.ne g1 (by omega) q.1), up_eq, if_neg (by omega)]; exact v4 g j g1 g2 hj
  · rw [up_eq, if_neg (by omega)]; exact l0
  · rw [up_eq, if_neg (by omega)] at hk
    obtain ⟨q, q1, q2, q3, q4⟩ := l1 k hk
    refine ⟨q, q1, q2, q3, fun m hm => ?_⟩
    rw [I_I, if_neg, up_eq, if_neg (by omega)]
    · exact q4 m hm
    · intro e
      have := hp.1
      rw [← e.1, q2] at this
      exact absurd (congrArg Prod.fst this) (by decide)
theorem OW.num {w : mW} {b o f : Nat} {P : Nat → Nat} {B : Row} {v : Int} (h : OW w b o P B) (hf : f = 13 ∨ f = 14) : OW (s_J w o f (Int64.ofInt v)) b o P (up B (1000 + f) v) := by
  obtain ⟨hp, ⟨v1, ⟨v2, v3⟩, v4⟩, l0, l1⟩ := h
  refine ⟨hp, ⟨fun g hg => ?_, ⟨?_, ?_⟩, fun g j g1 g2 hj => ?_⟩, ?_, fun k hk => ?_⟩
  · have := of_rng hg
    rw [I_J, up_eq, if_neg (by omega)]; exact v1 g hg
  · rw [J_J, up_eq]
    rcases hf with rfl | rfl
    · rw [if_pos ⟨rfl, rfl⟩, if_pos (by omega)]
    · rw [if_neg (by omega), if_neg (by omega)]; exact v2
  · rw [J_J, up_eq]
    rcases hf with rfl | rfl
    · rw [if_neg (by omega), if_neg (by omega)]; exact v3
    · rw [if_pos ⟨rfl, rfl⟩, if_pos (by omega)]
  · have := oi_rng ⟨g1, g2⟩ hj
    rw [I_J, up_eq, if_neg (by omega)]; exact v4 g j g1 g2 hj
  · rw [up_eq, if_neg (by omega)]; exact l0
  · rw [up_eq, if_neg (by omega)] at hk
    obtain ⟨q, q1, q2, q3, q4⟩ := l1 k hk
    refine ⟨q, q1, q2, q3, fun m hm => ?_⟩
    rw [I_J, up_eq, if_neg (by omega)]
    exact q4 m hm
theorem OW.cg {w : mW} {b o : Nat} {P : Nat → Nat} {B C : Row} (h : OW w b o P B) (e : C = B) : OW w b o P C := e ▸ h
/-- what a code's stretch reads -/
theorem OW.F {w : mW} {b o : Nat} {P : Nat → Nat} {B : Row} (h : OW w b o P B) : (w_sh w o = (0, 10) ∧ w_sh w (P 15) = (1, 8) ∧ w_sh w (P 16) = (1, 16) ∧ w_sh w (P 17) = (1, 16) ∧ w_sh w (P 18) = (1, 16) ∧ w_sh w (P 19) = (1, 16) ∧ w_sh w (P 20) = (1, 16) ∧ w_sh w (P 21) = (1, 6) ∧ w_sh w (P 22) = (1, 16) ∧ w_sh w (P 23) = (1, 6) ∧ w_sh w (P 24) = (7, 30)) ∧
  (w_R w o 15 = some (P 15) ∧ w_R w o 16 = some (P 16) ∧ w_R w o 17 = some (P 17) ∧ w_R w o 18 = some (P 18) ∧ w_R w o 19 = some (P 19) ∧ w_R w o 20 = some (P 20) ∧ w_R w o 21 = some (P 21) ∧ w_R w o 22 = some (P 22) ∧ w_R w o 23 = some (P 23) ∧ w_R w o 24 = some (P 24)) :=
  ⟨⟨h.1.1, h.1.2.2.1 15 (by omega) (by omega), h.1.2.2.1 16 (by omega) (by omega), h.1.2.2.1 17 (by omega) (by omega), h.1.2.2.1 18 (by omega) (by omega), h.1.2.2.1 19 (by omega) (by omega), h.1.2.2.1 20 (by omega) (by omega), h.1.2.2.1 21 (by omega) (by omega), h.1.2.2.1 22 (by omega) (by omega), h.1.2.2.1 23 (by omega) (by omega), h.1.2.2.2.1⟩,
   (h.1.2.2.2.2.1 15 (by omega) (by omega)).1, (h.1.2.2.2.2.1 16 (by omega) (by omega)).1, (h.1.2.2.2.2.1 17 (by omega) (by omega)).1, (h.1.2.2.2.2.1 18 (by omega) (by omega)).1, (h.1.2.2.2.2.1 19 (by omega) (by omega)).1, (h.1.2.2.2.2.1 20 (by omega) (by omega)).1, (h.1.2.2.2.2.1 21 (by omega) (by omega)).1, (h.1.2.2.2.2.1 22 (by omega) (by omega)).1, (h.1.2.2.2.2.1 23 (by omega) (by omega)).1, (h.1.2.2.2.2.1 24 (by omega) (by omega)).1⟩
theorem OW.V {w : mW} {b o : Nat} {P : Nat → Nat} {B : Row} (h : OW w b o P B) : (w_I w o 0 = Int32.ofInt (B 1000) ∧ w_I w o 1 = Int32.ofInt (B 0) ∧ w_I w o 2 = Int32.ofInt (B 1) ∧ w_I w o 3 = Int32.ofInt (B 2) ∧ w_I w o 4 = Int32.ofInt (B 3) ∧ w_I w o 5 = Int32.ofInt (B 4) ∧ w_I w o 6 = Int32.ofInt (B 5) ∧ w_I w o 7 = Int32.ofInt (B 6) ∧ w_I w o 8 = Int32.ofInt (B 7) ∧ w_I w o 9 = Int32.ofInt (B 1009) ∧ w_I w o 10 = Int32.ofInt (B 1010) ∧ w_I w o 11 = Int32.ofInt (B 1011) ∧ w_I w o 12 = Int32.ofInt (B 8)) ∧
  (w_J w o 13 = Int64.ofInt (B 1013) ∧ w_J w o 14 = Int64.ofInt (B 1014)) ∧
  ((∀ j, j < 8 → w_I w (P 15) j = Int32.ofInt (B (20 + j))) ∧ (∀ j, j < 16 → w_I w (P 16) j = Int32.ofInt (B (28 + j))) ∧ (∀ j, j < 16 → w_I w (P 17) j = Int32.ofInt (B (68 + j))) ∧ (∀ j, j < 16 → w_I w (P 18) j = Int32.ofInt (B (52 + j))) ∧ (∀ j, j < 16 → w_I w (P 19) j = Int32.ofInt (B (100 + j))) ∧ (∀ j, j < 16 → w_I w (P 20) j = Int32.ofInt (B (84 + j))) ∧ (∀ j, j < 6 → w_I w (P 21) j = Int32.ofInt (B (12 + j))) ∧ (∀ j, j < 16 → w_I w (P 22) j = Int32.ofInt (B (1020 + j))) ∧ (∀ j, j < 6 → w_I w (P 23) j = Int32.ofInt (B (1040 + j)))) :=
  ⟨⟨h.2.1.1 0 (by omega), h.2.1.1 1 (by omega), h.2.1.1 2 (by omega), h.2.1.1 3 (by omega), h.2.1.1 4 (by omega), h.2.1.1 5 (by omega), h.2.1.1 6 (by omega), h.2.1.1 7 (by omega), h.2.1.1 8 (by omega), h.2.1.1 9 (by omega), h.2.1.1 10 (by omega), h.2.1.1 11 (by omega), h.2.1.1 12 (by omega)⟩, h.2.1.2.1,
   fun j hj => h.2.1.2.2 15 j (by omega) (by omega) hj, fun j hj => h.2.1.2.2 16 j (by omega) (by omega) hj, fun j hj => h.2.1.2.2 17 j (by omega) (by omega) hj, fun j hj => h.2.1.2.2 18 j (by omega) (by omega) hj, fun j hj => h.2.1.2.2 19 j (by omega) (by omega) hj, fun j hj => h.2.1.2.2 20 j (by omega) (by omega) hj, fun j hj => h.2.1.2.2 21 j (by omega) (by omega) hj, fun j hj => h.2.1.2.2 22 j (by omega) (by omega) hj, fun j hj => h.2.1.2.2 23 j (by omega) (by omega) hj⟩
theorem OW.E {w : mW} {b o : Nat} {P : Nat → Nat} {B : Row} (h : OW w b o P B) : (∀ f g, 15 ≤ f → f ≤ 24 → 15 ≤ g → g ≤ 24 → (P f = P g) = (f = g)) ∧ (∀ f, 15 ≤ f → f ≤ 24 → (P f = o) = False) ∧ (∀ f, 15 ≤ f → f ≤ 24 → (o = P f) = False) :=
  ⟨fun f g h1 h2 h3 h4 => propext ⟨fun e => by
    by_cases q : f = g
    · exact q
    · exact absurd e (h.1.2.2.2.2.2 f g h1 h2 h3 h4 q), fun e => by rw [e]⟩, fun f h1 h2 => eq_false (h.1.ne h1 h2), fun f h1 h2 => eq_false (fun e => h.1.ne h1 h2 e.symm)⟩
theorem olen_c (f : Nat) : olen f = 8 ∨ olen f = 6 ∨ olen f = 16 := by
  unfold olen
  repeat' split
  all_goals simp
theorem OW.ge {w : mW} {b o : Nat} {P : Nat → Nat} {B : Row} (h : OW w b o P B) : UB b w o ∧ ∀ f, 15 ≤ f → f ≤ 24 → UB b w (P f) := by
  refine ⟨⟨h.1.2.1.1, Or.inl fun q => q.1 h.1.1⟩, fun f h1 h2 => ⟨(h.1.2.2.2.2.1 f h1 h2).2.1, Or.inl fun q => ?_⟩⟩
  by_cases e : f = 24
  · subst e
    exact q.2.2.2.2 h.1.2.2.2.1
  · have hs := h.1.2.2.1 f h1 (by omega)
    obtain ⟨-, q1, q2, q3, -⟩ := q
    rw [hs] at q1 q2 q3
    rcases olen_c f with r | r | r <;> rw [r] at q1 q2 q3
    · exact q1 rfl
    · exact q3 rfl
    · exact q2 rfl
theorem OW.lt {w : mW} {b o : Nat} {P : Nat → Nat} {B : Row} (h : OW w b o P B) : o < 100 + w_n w ∧ ∀ f, 15 ≤ f → f ≤ 24 → P f < 100 + w_n w := ⟨h.1.2.1.2, fun f h1 h2 => (h.1.2.2.2.2.1 f h1 h2).2.2⟩
section
variable {w : mW} {b o j : Nat} {P : Nat → Nat} {B : Row} {v : Int}
theorem OW.spin (h : OW w b o P B) (hj : j < 8) : OW (s_I w (P 15) j (Int32.ofInt v)) b o P (up B (20 + j) v) := h.put (f := 15) (by omega) hj
theorem OW.sdig (h : OW w b o P B) (hj : j < 16) : OW (s_I w (P 16) j (Int32.ofInt v)) b o P (up B (28 + j) v) := h.put (f := 16) (by omega) hj
theorem OW.sflt (h : OW w b o P B) (hj : j < 16) : OW (s_I w (P 17) j (Int32.ofInt v)) b o P (up B (68 + j) v) := h.put (f := 17) (by omega) hj
theorem OW.slev (h : OW w b o P B) (hj : j < 16) : OW (s_I w (P 18) j (Int32.ofInt v)) b o P (up B (52 + j) v) := h.put (f := 18) (by omega) hj
theorem OW.sstp (h : OW w b o P B) (hj : j < 16) : OW (s_I w (P 19) j (Int32.ofInt v)) b o P (up B (100 + j) v) := h.put (f := 19) (by omega) hj
theorem OW.smov (h : OW w b o P B) (hj : j < 16) : OW (s_I w (P 20) j (Int32.ofInt v)) b o P (up B (84 + j) v) := h.put (f := 20) (by omega) hj
theorem OW.scts (h : OW w b o P B) (hj : j < 6) : OW (s_I w (P 21) j (Int32.ofInt v)) b o P (up B (12 + j) v) := h.put (f := 21) (by omega) hj
theorem OW.sx (h : OW w b o P B) : OW (s_I w o 0 (Int32.ofInt v)) b o P (up B 1000 v) := h.fld (f := 0) (by omega)
theorem OW.sn (h : OW w b o P B) : OW (s_I w o 1 (Int32.ofInt v)) b o P (up B 0 v) := h.fld (f := 1) (by omega)
theorem OW.sm (h : OW w b o P B) : OW (s_I w o 2 (Int32.ofInt v)) b o P (up B 1 v) := h.fld (f := 2) (by omega)
theorem OW.sk (h : OW w b o P B) : OW (s_I w o 3 (Int32.ofInt v)) b o P (up B 2 v) := h.fld (f := 3) (by omega)
theorem OW.srch (h : OW w b o P B) : OW (s_I w o 4 (Int32.ofInt v)) b o P (up B 3 v) := h.fld (f := 4) (by omega)
theorem OW.sc (h : OW w b o P B) : OW (s_I w o 5 (Int32.ofInt v)) b o P (up B 4 v) := h.fld (f := 5) (by omega)
theorem OW.spart (h : OW w b o P B) : OW (s_I w o 6 (Int32.ofInt v)) b o P (up B 5 v) := h.fld (f := 6) (by omega)
theorem OW.sat (h : OW w b o P B) : OW (s_I w o 7 (Int32.ofInt v)) b o P (up B 6 v) := h.fld (f := 7) (by omega)
theorem OW.sway (h : OW w b o P B) : OW (s_I w o 8 (Int32.ofInt v)) b o P (up B 7 v) := h.fld (f := 8) (by omega)
theorem OW.slong (h : OW w b o P B) : OW (s_I w o 9 (Int32.ofInt v)) b o P (up B 1009 v) := h.fld (f := 9) (by omega)
theorem OW.srun (h : OW w b o P B) : OW (s_I w o 10 (Int32.ofInt v)) b o P (up B 1010 v) := h.fld (f := 10) (by omega)
theorem OW.slogs (h : OW w b o P B) : OW (s_I w o 11 (Int32.ofInt v)) b o P (up B 1011 v) := h.fld (f := 11) (by omega)
theorem OW.soth (h : OW w b o P B) : OW (s_I w o 12 (Int32.ofInt v)) b o P (up B 8 v) := h.fld (f := 12) (by omega)
theorem OW.sctr (h : OW w b o P B) : OW (s_J w o 13 (Int64.ofInt v)) b o P (up B 1013 v) := h.num (f := 13) (by omega)
theorem OW.sdue (h : OW w b o P B) : OW (s_J w o 14 (Int64.ofInt v)) b o P (up B 1014 v) := h.num (f := 14) (by omega)
end
theorem OW.ext {w w1 : mW} {b o : Nat} {P : Nat → Nat} {B : Row} (h : OW w b o P B) (f : FO (100 + w_n w) w w1) : OW w1 b o P B := by
  have hlt := h.lt
  obtain ⟨⟨p1, p2, p3, p4, p5, p6⟩, ⟨v1, v2, v4⟩, l0, l1⟩ := h
  have fo := f.1 o (Or.inl p2.2)
  refine ⟨⟨by rw [fo.1]; exact p1, ⟨p2.1, by have := f.2; omega⟩, fun g g1 g2 => ?_, ?_, fun g g1 g2 => ?_, p6⟩, ⟨fun g hg => ?_, ?_, fun g j g1 g2 hj => ?_⟩, l0, fun k hk => ?_⟩
  · rw [(f.1 _ (Or.inl (hlt.2 g g1 (by omega)))).1]; exact p3 g g1 g2
  · rw [(f.1 _ (Or.inl (hlt.2 24 (by omega) (by omega)))).1]; exact p4
  · rw [fo.2.1]
    have := p5 g g1 g2
    exact ⟨this.1, this.2.1, by have := f.2; omega⟩
  · rw [fo.2.2.1]; exact v1 g hg
  · rw [fo.2.2.2]; exact v2
  · rw [(f.1 _ (Or.inl (hlt.2 g g1 (by omega)))).2.2.1]; exact v4 g j g1 g2 hj
  · obtain ⟨q, q1, q2, q3, q4⟩ := l1 k hk
    refine ⟨q, ?_, ?_, ?_, fun m hm => ?_⟩
    · rw [(f.1 _ (Or.inl (hlt.2 24 (by omega) (by omega)))).2.1]; exact q1
    · rw [(f.1 _ (Or.inl q3)).1]; exact q2
    · have := f.2; omega
    · rw [(f.1 _ (Or.inl q3)).2.2.1]; exact q4 m hm
/-- one of its rows is another now -/
theorem OW.arr {w w1 : mW} {b o f q : Nat} {P : Nat → Nat} {B C : Row} (h : OW w b o P B) (hf : 15 ≤ f ∧ f ≤ 23) (hw : FO (100 + w_n w) w w1) (hq : 100 + w_n w ≤ q) (hq2 : q < 100 + w_n w1) (hs : w_sh w1 q = (1, olen f)) (hv : ∀ i, i < olen f → w_I w1 q i = Int32.ofInt (C (oi f i)))
    (hC : ∀ j, (∀ i, i < olen f → j ≠ oi f i) → C j = B j) : OW (s_R w1 o f (some q)) b o (fun g => if g = f then q else P g) C := by
  have h1 := h.ext hw
  have hlt := h.lt
  have hge := h.ge
  obtain ⟨⟨p1, p2, p3, p4, p5, p6⟩, ⟨v1, ⟨v2, v3⟩, v4⟩, l0, l1⟩ := h1
  have nq : ∀ g, 15 ≤ g → g ≤ 24 → P g ≠ q := fun g g1 g2 => by have := hlt.2 g g1 g2; omega
  have no : o ≠ q := by have := hlt.1; omega
  have e24 : (if (24 : Nat) = f then q else P 24) = P 24 := by rw [if_neg (by omega)]
  have hc : ∀ j, (j < 12 ∨ j = 18 ∨ j = 19 ∨ (116 ≤ j ∧ j < 1020) ∨ 1046 ≤ j) → C j = B j := fun j hj => hC j (fun i hi => by have := oi_rng hf hi; omega)
  refine ⟨⟨p1, p2, fun g g1 g2 => ?_, ?_, fun g g1 g2 => ?_, fun g g' g1 g2 g3 g4 ne => ?_⟩, ⟨fun g hg => ?_, ⟨?_, ?_⟩, fun g j g1 g2 hj => ?_⟩, ?_, fun k hk => ?_⟩
  · show w_sh w1 (if g = f then q else P g) = _
    split
    · rename_i e; rw [e]; exact hs
    · exact p3 g g1 g2
  · show w_sh w1 (if (24 : Nat) = f then q else P 24) = _
    rw [e24]; exact p4
  · rw [R_R]
    by_cases e : g = f
    · subst e
      simp only [true_and, ite_true]
      exact ⟨by have := hge.1.1; have := hlt.1; omega, hq2⟩
    · rw [if_neg (fun z => e z.2)]
      show w_R w1 o g = some (if g = f then q else P g) ∧ b ≤ (if g = f then q else P g) ∧ (if g = f then q else P g) < 100 + w_n w1
      rw [if_neg e]
      exact p5 g g1 g2
  · show (if g = f then q else P g) ≠ (if g' = f then q else P g')
    by_cases e : g = f
    · rw [if_pos e, if_neg (by omega)]; exact (nq g' g3 g4).symm
    · rw [if_neg e]
      by_cases e' : g' = f
      · rw [if_pos e']; exact nq g g1 g2
      · rw [if_neg e']; exact p6 g g' g1 g2 g3 g4 ne
  · have := of_rng hg
    rw [R_Ic, hc _ (by omega)]; exact v1 g hg
  · rw [R_Jc, hc _ (by omega)]; exact v2
  · rw [R_Jc, hc _ (by omega)]; exact v3
  · show w_I w1 (if g = f then q else P g) j = _
    by_cases e : g = f
    · subst e; rw [if_pos rfl]; exact hv j hj
    · rw [if_neg e, v4 g j g1 g2 hj, hC]
      intro i hi z
      exact e (oi_inj hf ⟨g1, g2⟩ hi hj z).1
  · rw [hc _ (by omega)]; exact l0
  · rw [hc _ (by omega)] at hk
    obtain ⟨r, r1, r2, r3, r4⟩ := l1 k hk
    refine ⟨r, ?_, r2, r3, fun m hm => ?_⟩
    · show w_R (s_R w1 o f (some q)) (if (24 : Nat) = f then q else P 24) k = _
      rw [e24, R_R, if_neg]
      · exact r1
      · intro z
        have := h.1.ne (f := 24) (by omega) (by omega)
        exact this z.1
    · rw [R_Ic, hc _ (by omega)]; exact r4 m hm
/-- a row of the book is another now -/
theorem OW.slog {w : mW} {b o i q : Nat} {P : Nat → Nat} {B C : Row} (h : OW w b o P B) (hi : i < 30) (hs : w_sh w q = (1, 4)) (hq : q < 100 + w_n w) (hv : ∀ k, k < 4 → w_I w q k = Int32.ofInt (C (132 + 4 * i + k))) (hC : ∀ j, ¬ (132 + 4 * i ≤ j ∧ j < 132 + 4 * i + 4) → j ≠ 18 → C j = B j)
    (h18 : 0 ≤ C 18 ∧ C 18 ≤ 30 ∧ (C 18 ≤ B 18 ∨ (C 18 = B 18 + 1 ∧ (i : Int) = B 18))) : OW (s_R w (P 24) i (some q)) b o P C := by
  have hE := h.E
  have h0 := h
  obtain ⟨⟨p1, p2, p3, p4, p5, p6⟩, ⟨v1, ⟨v2, v3⟩, v4⟩, l0, l1⟩ := h
  have ne := h0.1.ne (f := 24) (by omega) (by omega)
  refine ⟨⟨p1, p2, p3, p4, fun g g1 g2 => ?_, p6⟩, ⟨fun g hg => ?_, ⟨?_, ?_⟩, fun g j g1 g2 hj => ?_⟩, ⟨h18.1, h18.2.1⟩, fun k hk => ?_⟩
  · rw [R_R, if_neg (fun z => ne z.1.symm)]; exact p5 g g1 g2
  · have := of_rng hg
    rw [R_Ic, hC _ (by omega) (by omega)]; exact v1 g hg
  · rw [R_Jc, hC _ (by omega) (by omega)]; exact v2
  · rw [R_Jc, hC _ (by omega) (by omega)]; exact v3
  · have := oi_rng ⟨g1, g2⟩ hj
    rw [R_Ic, hC _ (by omega) (by omega)]; exact v4 g j g1 g2 hj
  · by_cases e : k = i
    · subst e
      refine ⟨q, by rw [R_R, if_pos ⟨rfl, rfl⟩], hs, hq, fun m hm => ?_⟩
      rw [R_Ic]; exact hv m hm
    · obtain ⟨r, r1, r2, r3, r4⟩ := l1 k (by omega)
      refine ⟨r, by rw [R_R, if_neg (fun z => e z.2)]; exact r1, r2, r3, fun m hm => ?_⟩
      rw [R_Ic, hC _ (by omega) (by omega)]; exact r4 m hm
/-- a wheel's step -/
def o_mv (B : Row) (j : Nat) : Row :=
  let C := if B (28 + j) + B 7 = 10 ∨ B (28 + j) + B 7 < 0 then up B (52 + j) 1 else B
  up (up (up C (28 + j) ((B (28 + j) + B 7 + 10) % 10)) (84 + j) 1) (100 + j) (B (100 + j) + 1)
theorem z_move {b o j : Nat} {P : Nat → Nat} {B : Row} {w : mW} {Q : mW → mO → Prop} (h : OW w b o P B) (hj : j < 16) (h7 : B 7 = 1 ∨ B 7 = -1) (hd : 0 ≤ B (28 + j) ∧ B (28 + j) ≤ 9) (hq : ∀ w', OW w' b o P (o_mv B j) → FO b w w' → Q w' (.inl none)) : CT n_X10_move [.ref o, .int (Int32.ofInt j)] w Q := by
  have hF := h.F
  have hV := h.V
  have hE := h.E
  have hg := h.ge
  have g16 := hg.2 16 (by omega) (by omega)
  have g18 := hg.2 18 (by omega) (by omega)
  have g19 := hg.2 19 (by omega) (by omega)
  have g20 := hg.2 20 (by omega) (by omega)
  refine ct_X10_move (rt_X10_move_0 ?_)
  have h63 : ∀ w1, OW w1 b o P (up (if B (28 + j) + B 7 = 10 ∨ B (28 + j) + B 7 < 0 then up B (52 + j) 1 else B) (28 + j) ((B (28 + j) + B 7 + 10) % 10)) → FO b w w1 → RT n_X10_move 63 [.ref o, .int (Int32.ofInt j)] [] w1 (0, 0, false) Q := by
    intro w1 k1 k2
    have kF := k1.F
    have kV := k1.V
    have kE := k1.E
    refine rt_X10_move_63 ?_
    simp (disch := omega) only [wp_c, wp_n, jj_n, v_ct, Int.reduceToNat, Int.toNat_natCast, stE, wlE, lgt, lpu, lpw, v_c2, va_s, true_and, and_true, Option.toList, List.nil_append, List.cons_append, List.take, List.drop, List.reverse, List.reverseAux, List.length_cons, List.length_nil, reduceCtorEq, false_implies, true_implies, forall_const, not_true_eq_false, not_false_eq_true, ite_true, ite_false, Bool.false_eq_true, I_I, J_J, Nat.add_left_cancel_iff, Nat.reduceEqDiff, Nat.add_eq_left, Nat.left_eq_add, false_and, and_false, Nat.reduceSub, Nat.sub_self, Nat.le_refl, Nat.zero_le, ge_iff_le, Nat.reduceAdd, Nat.reduceLeDiff, Nat.zero_add, Nat.reduceLT, z_lt, z_le, z_eq, z_l0, z_g0, z_le0, z_ge0, z_e0, z_e1, z_vp, z_nc, z_rem, z_div, i_ltT, i_ltF, i_leT, i_leF, i_eqT, i_eqF, n_ltT, n_ltF, n_leT, n_leF, n_eqT, n_eqF, tn_9, tn_12, tn_14, tn_20, tn_28, tn_44, tn_52, tn_68, tn_84, tn_100, tn_116, tn_132, fu_e, up_eq, ob_0, ob_b, oi_add, oi_sub, oi_mul, oi_neg, Int.add_zero, Int.zero_add, or_true, true_or, or_false, false_or, and_self, z_i2l, z_l2i, lo_nat, lo_add, lo_sub, lo_mul, lo_0, e_rem, mr_X10_move, kF, kE, kV]
    have e : (if B (28 + j) + B 7 = 10 ∨ B (28 + j) + B 7 < 0 then up B (52 + j) 1 else B) (100 + j) = B (100 + j) := by
      split
      · rw [up_eq, if_neg (by omega)]
      · rfl
    rw [e]
    exact hq _ ((k1.smov (v := 1) hj).sstp (v := B (100 + j) + 1) hj) ((k2.I g20).I g19)
  simp (disch := omega) only [wp_c, wp_n, jj_n, v_ct, Int.reduceToNat, Int.toNat_natCast, stE, wlE, lgt, lpu, lpw, v_c2, va_s, true_and, and_true, Option.toList, List.nil_append, List.cons_append, List.take, List.drop, List.reverse, List.reverseAux, List.length_cons, List.length_nil, reduceCtorEq, false_implies, true_implies, forall_const, not_true_eq_false, not_false_eq_true, ite_true, ite_false, Bool.false_eq_true, I_I, J_J, Nat.add_left_cancel_iff, Nat.reduceEqDiff, Nat.add_eq_left, Nat.left_eq_add, false_and, and_false, Nat.reduceSub, Nat.sub_self, Nat.le_refl, Nat.zero_le, ge_iff_le, Nat.reduceAdd, Nat.reduceLeDiff, Nat.zero_add, Nat.reduceLT, z_lt, z_le, z_eq, z_l0, z_g0, z_le0, z_ge0, z_e0, z_e1, z_vp, z_nc, z_rem, z_div, i_ltT, i_ltF, i_leT, i_leF, i_eqT, i_eqF, n_ltT, n_ltF, n_leT, n_leF, n_eqT, n_eqF, tn_9, tn_12, tn_14, tn_20, tn_28, tn_44, tn_52, tn_68, tn_84, tn_100, tn_116, tn_132, fu_e, up_eq, ob_0, ob_b, oi_add, oi_sub, oi_mul, oi_neg, Int.add_zero, Int.zero_add, or_true, true_or, or_false, false_or, and_self, z_i2l, z_l2i, lo_nat, lo_add, lo_sub, lo_mul, lo_0, e_rem, hF, hE, hV]
  by_cases h10 : B (28 + j) + B 7 = 10
  · simp (disch := omega) only [wp_c, wp_n, jj_n, v_ct, Int.reduceToNat, Int.toNat_natCast, stE, wlE, lgt, lpu, lpw, v_c2, va_s, true_and, and_true, Option.toList, List.nil_append, List.cons_append, List.take, List.drop, List.reverse, List.reverseAux, List.length_cons, List.length_nil, reduceCtorEq, false_implies, true_implies, forall_const, not_true_eq_false, not_false_eq_true, ite_true, ite_false, Bool.false_eq_true, I_I, J_J, Nat.add_left_cancel_iff, Nat.reduceEqDiff, Nat.add_eq_left, Nat.left_eq_add, false_and, and_false, Nat.reduceSub, Nat.sub_self, Nat.le_refl, Nat.zero_le, ge_iff_le, Nat.reduceAdd, Nat.reduceLeDiff, Nat.zero_add, Nat.reduceLT, z_lt, z_le, z_eq, z_l0, z_g0, z_le0, z_ge0, z_e0, z_e1, z_vp, z_nc, z_rem, z_div, i_ltT, i_ltF, i_leT, i_leF, i_eqT, i_eqF, n_ltT, n_ltF, n_leT, n_leF, n_eqT, n_eqF, tn_9, tn_12, tn_14, tn_20, tn_28, tn_44, tn_52, tn_68, tn_84, tn_100, tn_116, tn_132, fu_e, up_eq, ob_0, ob_b, oi_add, oi_sub, oi_mul, oi_neg, Int.add_zero, Int.zero_add, or_true, true_or, or_false, false_or, and_self, z_i2l, z_l2i, lo_nat, lo_add, lo_sub, lo_mul, lo_0, e_rem, h10]
    refine rt_X10_move_33 ?_
    simp (disch := omega) only [wp_c, wp_n, jj_n, v_ct, Int.reduceToNat, Int.toNat_natCast, stE, wlE, lgt, lpu, lpw, v_c2, va_s, true_and, and_true, Option.toList, List.nil_append, List.cons_append, List.take, List.drop, List.reverse, List.reverseAux, List.length_cons, List.length_nil, reduceCtorEq, false_implies, true_implies, forall_const, not_true_eq_false, not_false_eq_true, ite_true, ite_false, Bool.false_eq_true, I_I, J_J, Nat.add_left_cancel_iff, Nat.reduceEqDiff, Nat.add_eq_left, Nat.left_eq_add, false_and, and_false, Nat.reduceSub, Nat.sub_self, Nat.le_refl, Nat.zero_le, ge_iff_le, Nat.reduceAdd, Nat.reduceLeDiff, Nat.zero_add, Nat.reduceLT, z_lt, z_le, z_eq, z_l0, z_g0, z_le0, z_ge0, z_e0, z_e1, z_vp, z_nc, z_rem, z_div, i_ltT, i_ltF, i_leT, i_leF, i_eqT, i_eqF, n_ltT, n_ltF, n_leT, n_leF, n_eqT, n_eqF, tn_9, tn_12, tn_14, tn_20, tn_28, tn_44, tn_52, tn_68, tn_84, tn_100, tn_116, tn_132, fu_e, up_eq, ob_0, ob_b, oi_add, oi_sub, oi_mul, oi_neg, Int.add_zero, Int.zero_add, or_true, true_or, or_false, false_or, and_self, z_i2l, z_l2i, lo_nat, lo_add, lo_sub, lo_mul, lo_0, e_rem, hF, hE, hV]
    refine rt_X10_move_62 ?_
    simp (disch := omega) only [wp_c, wp_n, jj_n, v_ct, Int.reduceToNat, Int.toNat_natCast, stE, wlE, lgt, lpu, lpw, v_c2, va_s, true_and, and_true, Option.toList, List.nil_append, List.cons_append, List.take, List.drop, List.reverse, List.reverseAux, List.length_cons, List.length_nil, reduceCtorEq, false_implies, true_implies, forall_const, not_true_eq_false, not_false_eq_true, ite_true, ite_false, Bool.false_eq_true, I_I, J_J, Nat.add_left_cancel_iff, Nat.reduceEqDiff, Nat.add_eq_left, Nat.left_eq_add, false_and, and_false, Nat.reduceSub, Nat.sub_self, Nat.le_refl, Nat.zero_le, ge_iff_le, Nat.reduceAdd, Nat.reduceLeDiff, Nat.zero_add, Nat.reduceLT, z_lt, z_le, z_eq, z_l0, z_g0, z_le0, z_ge0, z_e0, z_e1, z_vp, z_nc, z_rem, z_div, i_ltT, i_ltF, i_leT, i_leF, i_eqT, i_eqF, n_ltT, n_ltF, n_leT, n_leF, n_eqT, n_eqF, tn_9, tn_12, tn_14, tn_20, tn_28, tn_44, tn_52, tn_68, tn_84, tn_100, tn_116, tn_132, fu_e, up_eq, ob_0, ob_b, oi_add, oi_sub, oi_mul, oi_neg, Int.add_zero, Int.zero_add, or_true, true_or, or_false, false_or, and_self, z_i2l, z_l2i, lo_nat, lo_add, lo_sub, lo_mul, lo_0, e_rem, hF, hE, hV]
    refine h63 _ ?_ (((FO.refl _ _).I g16).I g18 |>.I g16)
    refine (((h.sdig (v := 10) hj).slev (v := 1) hj).sdig (v := 0) hj).cg ?_
    rw [if_pos (Or.inl h10), h10]
    funext i; simp only [up_eq]; repeat' split
    all_goals first | rfl | omega
  · by_cases hn : B (28 + j) + B 7 < 0
    · simp (disch := omega) only [wp_c, wp_n, jj_n, v_ct, Int.reduceToNat, Int.toNat_natCast, stE, wlE, lgt, lpu, lpw, v_c2, va_s, true_and, and_true, Option.toList, List.nil_append, List.cons_append, List.take, List.drop, List.reverse, List.reverseAux, List.length_cons, List.length_nil, reduceCtorEq, false_implies, true_implies, forall_const, not_true_eq_false, not_false_eq_true, ite_true, ite_false, Bool.false_eq_true, I_I, J_J, Nat.add_left_cancel_iff, Nat.reduceEqDiff, Nat.add_eq_left, Nat.left_eq_add, false_and, and_false, Nat.reduceSub, Nat.sub_self, Nat.le_refl, Nat.zero_le, ge_iff_le, Nat.reduceAdd, Nat.reduceLeDiff, Nat.zero_add, Nat.reduceLT, z_lt, z_le, z_eq, z_l0, z_g0, z_le0, z_ge0, z_e0, z_e1, z_vp, z_nc, z_rem, z_div, i_ltT, i_ltF, i_leT, i_leF, i_eqT, i_eqF, n_ltT, n_ltF, n_leT, n_leF, n_eqT, n_eqF, tn_9, tn_12, tn_14, tn_20, tn_28, tn_44, tn_52, tn_68, tn_84, tn_100, tn_116, tn_132, fu_e, up_eq, ob_0, ob_b, oi_add, oi_sub, oi_mul, oi_neg, Int.add_zero, Int.zero_add, or_true, true_or, or_false, false_or, and_self, z_i2l, z_l2i, lo_nat, lo_add, lo_sub, lo_mul, lo_0, e_rem]
      refine rt_X10_move_33 ?_
      simp (disch := omega) only [wp_c, wp_n, jj_n, v_ct, Int.reduceToNat, Int.toNat_natCast, stE, wlE, lgt, lpu, lpw, v_c2, va_s, true_and, and_true, Option.toList, List.nil_append, List.cons_append, List.take, List.drop, List.reverse, List.reverseAux, List.length_cons, List.length_nil, reduceCtorEq, false_implies, true_implies, forall_const, not_true_eq_false, not_false_eq_true, ite_true, ite_false, Bool.false_eq_true, I_I, J_J, Nat.add_left_cancel_iff, Nat.reduceEqDiff, Nat.add_eq_left, Nat.left_eq_add, false_and, and_false, Nat.reduceSub, Nat.sub_self, Nat.le_refl, Nat.zero_le, ge_iff_le, Nat.reduceAdd, Nat.reduceLeDiff, Nat.zero_add, Nat.reduceLT, z_lt, z_le, z_eq, z_l0, z_g0, z_le0, z_ge0, z_e0, z_e1, z_vp, z_nc, z_rem, z_div, i_ltT, i_ltF, i_leT, i_leF, i_eqT, i_eqF, n_ltT, n_ltF, n_leT, n_leF, n_eqT, n_eqF, tn_9, tn_12, tn_14, tn_20, tn_28, tn_44, tn_52, tn_68, tn_84, tn_100, tn_116, tn_132, fu_e, up_eq, ob_0, ob_b, oi_add, oi_sub, oi_mul, oi_neg, Int.add_zero, Int.zero_add, or_true, true_or, or_false, false_or, and_self, z_i2l, z_l2i, lo_nat, lo_add, lo_sub, lo_mul, lo_0, e_rem, hF, hE, hV]
      refine rt_X10_move_60 ?_
      simp (disch := omega) only [wp_c, wp_n, jj_n, v_ct, Int.reduceToNat, Int.toNat_natCast, stE, wlE, lgt, lpu, lpw, v_c2, va_s, true_and, and_true, Option.toList, List.nil_append, List.cons_append, List.take, List.drop, List.reverse, List.reverseAux, List.length_cons, List.length_nil, reduceCtorEq, false_implies, true_implies, forall_const, not_true_eq_false, not_false_eq_true, ite_true, ite_false, Bool.false_eq_true, I_I, J_J, Nat.add_left_cancel_iff, Nat.reduceEqDiff, Nat.add_eq_left, Nat.left_eq_add, false_and, and_false, Nat.reduceSub, Nat.sub_self, Nat.le_refl, Nat.zero_le, ge_iff_le, Nat.reduceAdd, Nat.reduceLeDiff, Nat.zero_add, Nat.reduceLT, z_lt, z_le, z_eq, z_l0, z_g0, z_le0, z_ge0, z_e0, z_e1, z_vp, z_nc, z_rem, z_div, i_ltT, i_ltF, i_leT, i_leF, i_eqT, i_eqF, n_ltT, n_ltF, n_leT, n_leF, n_eqT, n_eqF, tn_9, tn_12, tn_14, tn_20, tn_28, tn_44, tn_52, tn_68, tn_84, tn_100, tn_116, tn_132, fu_e, up_eq, ob_0, ob_b, oi_add, oi_sub, oi_mul, oi_neg, Int.add_zero, Int.zero_add, or_true, true_or, or_false, false_or, and_self, z_i2l, z_l2i, lo_nat, lo_add, lo_sub, lo_mul, lo_0, e_rem, hF, hE, hV]
      refine rt_X10_move_62 ?_
      simp (disch := omega) only [wp_c, wp_n, jj_n, v_ct, Int.reduceToNat, Int.toNat_natCast, stE, wlE, lgt, lpu, lpw, v_c2, va_s, true_and, and_true, Option.toList, List.nil_append, List.cons_append, List.take, List.drop, List.reverse, List.reverseAux, List.length_cons, List.length_nil, reduceCtorEq, false_implies, true_implies, forall_const, not_true_eq_false, not_false_eq_true, ite_true, ite_false, Bool.false_eq_true, I_I, J_J, Nat.add_left_cancel_iff, Nat.reduceEqDiff, Nat.add_eq_left, Nat.left_eq_add, false_and, and_false, Nat.reduceSub, Nat.sub_self, Nat.le_refl, Nat.zero_le, ge_iff_le, Nat.reduceAdd, Nat.reduceLeDiff, Nat.zero_add, Nat.reduceLT, z_lt, z_le, z_eq, z_l0, z_g0, z_le0, z_ge0, z_e0, z_e1, z_vp, z_nc, z_rem, z_div, i_ltT, i_ltF, i_leT, i_leF, i_eqT, i_eqF, n_ltT, n_ltF, n_leT, n_leF, n_eqT, n_eqF, tn_9, tn_12, tn_14, tn_20, tn_28, tn_44, tn_52, tn_68, tn_84, tn_100, tn_116, tn_132, fu_e, up_eq, ob_0, ob_b, oi_add, oi_sub, oi_mul, oi_neg, Int.add_zero, Int.zero_add, or_true, true_or, or_false, false_or, and_self, z_i2l, z_l2i, lo_nat, lo_add, lo_sub, lo_mul, lo_0, e_rem, hF, hE, hV]
      refine h63 _ ?_ (((FO.refl _ _).I g16).I g18 |>.I g16)
      refine (((h.sdig (v := B (28 + j) + B 7) hj).slev (v := 1) hj).sdig (v := 9) hj).cg ?_
      rw [if_pos (Or.inr hn), show (B (28 + j) + B 7 + 10) % 10 = 9 by omega]
      funext i; simp only [up_eq]; repeat' split
      all_goals first | rfl | omega
    · simp (disch := omega) only [wp_c, wp_n, jj_n, v_ct, Int.reduceToNat, Int.toNat_natCast, stE, wlE, lgt, lpu, lpw, v_c2, va_s, true_and, and_true, Option.toList, List.nil_append, List.cons_append, List.take, List.drop, List.reverse, List.reverseAux, List.length_cons, List.length_nil, reduceCtorEq, false_implies, true_implies, forall_const, not_true_eq_false, not_false_eq_true, ite_true, ite_false, Bool.false_eq_true, I_I, J_J, Nat.add_left_cancel_iff, Nat.reduceEqDiff, Nat.add_eq_left, Nat.left_eq_add, false_and, and_false, Nat.reduceSub, Nat.sub_self, Nat.le_refl, Nat.zero_le, ge_iff_le, Nat.reduceAdd, Nat.reduceLeDiff, Nat.zero_add, Nat.reduceLT, z_lt, z_le, z_eq, z_l0, z_g0, z_le0, z_ge0, z_e0, z_e1, z_vp, z_nc, z_rem, z_div, i_ltT, i_ltF, i_leT, i_leF, i_eqT, i_eqF, n_ltT, n_ltF, n_leT, n_leF, n_eqT, n_eqF, tn_9, tn_12, tn_14, tn_20, tn_28, tn_44, tn_52, tn_68, tn_84, tn_100, tn_116, tn_132, fu_e, up_eq, ob_0, ob_b, oi_add, oi_sub, oi_mul, oi_neg, Int.add_zero, Int.zero_add, or_true, true_or, or_false, false_or, and_self, z_i2l, z_l2i, lo_nat, lo_add, lo_sub, lo_mul, lo_0, e_rem]
      refine h63 _ ?_ ((FO.refl _ _).I g16)
      refine (h.sdig (v := B (28 + j) + B 7) hj).cg ?_
      rw [if_neg (by omega), show (B (28 + j) + B 7 + 10) % 10 = B (28 + j) + B 7 by omega]
theorem z_jam {b o : Nat} {P : Nat → Nat} {B : Row} {p k : Int} {w : mW} {Q : mW → mO → Prop} (h : OW w b o P B) (hq : ∀ w', OW w' b o P (up (up (up B 5 p) 6 k) 17 (B 17 + 1)) → FO b w w' → Q w' (.inl (some (.int (Int32.ofInt 0))))) : CT n_X10_jam [.ref o, .int (Int32.ofInt p), .int (Int32.ofInt k)] w Q := by
  have hF := h.F
  have hV := h.V
  have hE := h.E
  have hg := h.ge
  have g21 := hg.2 21 (by omega) (by omega)
  have e17 : w_I w (P 21) 5 = Int32.ofInt (B 17) := hV.2.2.2.2.2.2.2.2.1 5 (by omega)
  have v5 : vp_in (Int32.ofInt 5) 6 = True := z_vp (by omega) (by omega) (by omega) (by omega)
  have n5 : (Int32.ofInt 5).toNatClampNeg = 5 := by decide
  refine ct_X10_jam (rt_X10_jam_0 ?_)
  simp (disch := omega) only [wp_c, wp_n, jj_n, v_ct, Int.reduceToNat, Int.toNat_natCast, stE, wlE, lgt, lpu, lpw, v_c2, va_s, true_and, and_true, Option.toList, List.nil_append, List.cons_append, List.take, List.drop, List.reverse, List.reverseAux, List.length_cons, List.length_nil, reduceCtorEq, false_implies, true_implies, forall_const, not_true_eq_false, not_false_eq_true, ite_true, ite_false, Bool.false_eq_true, I_I, J_J, Nat.add_left_cancel_iff, Nat.reduceEqDiff, Nat.add_eq_left, Nat.left_eq_add, false_and, and_false, Nat.reduceSub, Nat.sub_self, Nat.le_refl, Nat.zero_le, ge_iff_le, Nat.reduceAdd, Nat.reduceLeDiff, Nat.zero_add, Nat.reduceLT, hF, hE, e17, v5, n5, oi_add, mr_X10_jam]
  exact ⟨Or.inl rfl, hq _ (((h.spart (v := p)).sat (v := k)).scts (j := 5) (v := B 17 + 1) (by omega)) ((((FO.refl _ _).I hg.1).I hg.1).I g21)⟩
theorem K_n (w : mW) (q : Nat) : w_n (s_K w q) = q := rfl
theorem K_sh (w : mW) (q : Nat) : w_sh (s_K w q) = w_sh w := rfl
theorem K_I (w : mW) (q : Nat) : w_I (s_K w q) = w_I w := rfl
theorem K_J (w : mW) (q : Nat) : w_J (s_K w q) = w_J w := rfl
theorem K_R (w : mW) (q : Nat) : w_R (s_K w q) = w_R w := rfl
