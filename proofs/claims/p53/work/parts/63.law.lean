/-! the drawing of a text -/
theorem SBu.fo {w w1 : mW} {b a p c : Nat} {l : List Int} (h : SBu w b a p l) (f : FO c w w1) : SBu w1 b a p l := by
  obtain ⟨⟨s1, s2, s3⟩, ⟨r1, r2, r3⟩, ⟨v1, v3⟩, ⟨n, hn, hn1, hn2⟩, hl, hc, hf⟩ := h
  have fa := f.1 a (Or.inr ⟨s3, by rw [s1]; unfold sf; simp⟩)
  have fp := f.1 p (Or.inr ⟨r3, by rw [hn]; unfold sf; simp⟩)
  have := f.2
  refine ⟨⟨by rw [fa.1]; exact s1, s2, by omega⟩, ⟨by rw [fa.2.1]; exact r1, r2, by omega⟩, ⟨by rw [fa.2.2.1]; exact v1, by rw [fa.2.2.1]; exact v3⟩, ⟨n, by rw [fp.1]; exact hn, hn1, hn2⟩, hl, fun i hi => by rw [fp.2.2.1]; exact hc i hi, fun i => by rw [fp.2.2.1]; exact hf i⟩
def XRr (A B : Row) : Prop := (∀ j, j < 4 → B j = A j) ∧ (∀ i, i < 16 → B (68 + i) = A (68 + i)) ∧ (∀ j, 4 ≤ j → j < 252 → (j < 68 ∨ 84 ≤ j) → A j = 0) ∧ ∀ j, 4 ≤ j → (j < 68 ∨ 84 ≤ j) → j ≠ 1000 → B j = 0
def TXw (w0 : mW) (o ab : Nat) (P : Nat → Nat) (w : mW) (B : Row) (l : List Int) : Prop := OW w 309 o P B ∧ (∃ p, SBu w 309 ab p l) ∧ LO w0 w ∧ w_n w0 ≤ w_n w
def TXp (A0 : Row) (snd : Int) (s m n : Nat) (A B : Row) (l : List Int) : Prop := ∃ (c : Nat) (td : Nat → Bool), TP A0 l c A td ∧ c ≤ m ∧ l.length ≤ n ∧ XRr A B ∧ (2 ≤ A 0 ∧ A 0 ≤ 8 ∧ A 0 ≤ A 1 ∧ 4 ≤ A 1 ∧ A 1 ≤ 16 ∧ (s = 0 → A 0 = 4)) ∧ (∀ i, td i = true → (i = 1 ∧ 1 ≤ s) ∨ (i = 0 ∧ 2 ≤ s) ∨ (i = 2 ∧ 3 ≤ s) ∨ (i = 3 ∧ 4 ≤ s) ∨ 5 ≤ s) ∧ (¬ snd = 0 → A 3 = 16 ∧ ∀ i, i < 16 → A (68 + i) = 0)
theorem TXw.fb {w0 w w1 : mW} {o ab p : Nat} {P : Nat → Nat} {B : Row} {l l' : List Int} (h : TXw w0 o ab P w B l) (k : SBu w1 309 ab p l') (f : FB 309 w w1) : TXw w0 o ab P w1 B l' := ⟨h.1.fb f, ⟨p, k⟩, h.2.2.1.trans (f.lo (Nat.le_refl _)), by have := h.2.2.2; have := f.2; omega⟩
theorem TXw.fo {w0 w w1 : mW} {o ab : Nat} {P : Nat → Nat} {B B' : Row} {l : List Int} (h : TXw w0 o ab P w B l) (k : OW w1 309 o P B') (f : FO 309 w w1) : TXw w0 o ab P w1 B' l := ⟨k, ⟨_, h.2.1.choose_spec.fo f⟩, h.2.2.1.trans (f.lo (Nat.le_refl _)), by have := h.2.2.2; have := f.2; omega⟩
/-- another number has been drawn -/
theorem TXp.x {A0 A B B' : Row} {snd : Int} {s m n : Nat} {l : List Int} (h : TXp A0 snd s m n A B l) (hb : ∀ j, j ≠ 1000 → B' j = B j) : TXp A0 snd s m n A B' l := by
  obtain ⟨c, td, h1, h2, h3, ⟨x1, x2, x3, x4⟩, h5⟩ := h
  exact ⟨c, td, h1, h2, h3, ⟨fun j hj => by rw [hb j (by omega)]; exact x1 j hj, fun i hi => by rw [hb _ (by omega)]; exact x2 i hi, x3, fun j q1 q2 q3 => by rw [hb j q3]; exact x4 j q1 q2 q3⟩, h5⟩
theorem TXp.nxt {A0 A B : Row} {snd : Int} {s m n s' m' n' : Nat} {l : List Int} (h : TXp A0 snd s m n A B l) (hs : s < s') (hm : m ≤ m') (hn : n ≤ n') : TXp A0 snd s' m' n' A B l := by
  obtain ⟨c, td, h1, h2, h3, h4, h5, h6, h7⟩ := h
  exact ⟨c, td, h1, by omega, by omega, h4, ⟨h5.1, h5.2.1, h5.2.2.1, h5.2.2.2.1, h5.2.2.2.2.1, fun q => by omega⟩, fun i q => by have := h6 i q; omega, h7⟩
theorem TXp.more {A0 A B : Row} {snd : Int} {s m n m' n' : Nat} {l : List Int} (h : TXp A0 snd s m n A B l) (hm : m ≤ m') (hn : n ≤ n') : TXp A0 snd s m' n' A B l := by
  obtain ⟨c, td, h1, h2, h3, h4⟩ := h
  exact ⟨c, td, h1, by omega, by omega, h4⟩
def pcs (k : Nat) (x : Int) (pre mid post : List Int) : List Int := pre ++ (wd k ++ ([32] ++ (dgs x ++ (mid ++ ([59] ++ post)))))
/-- a size is written -/
theorem TXp.sz {A0 A B B' : Row} {snd x : Int} {s m n k N : Nat} {l pre mid post : List Int} (h : TXp A0 snd s m n A B l) (hm : m < 890) (hk : k < 4) (hks : (k = 1 ∧ s = 0) ∨ (k = 0 ∧ s = 1) ∨ (k = 2 ∧ s = 2) ∨ (k = 3 ∧ s = 3)) (hx : 0 ≤ x ∧ x ≤ 99) (hpre : pre = [] ∨ pre = [32]) (hmid : mid = [] ∨ mid = [32]) (hpost : post = [] ∨ post = [10])
  (h1 : k = 1 → 4 ≤ x ∧ x ≤ 16) (h0 : k = 0 → 2 ≤ x ∧ x ≤ 8 ∧ x ≤ A 1) (h2 : k = 2 → 2 ≤ x ∧ x ≤ 8) (h3 : k = 3 → x ≤ 16 ∧ snd = 0) (hN : n + (pcs k x pre mid post).length ≤ N) (hb : ∀ j, j ≠ 1000 → B' j = if j = k then x else B j) : TXp A0 snd (s + 1) (m + 1) N (up A k x) B' (l ++ pcs k x pre mid post) := by
  obtain ⟨c, td, t1, t2, t3, ⟨x1, x2, x3, x4⟩, ⟨z1, z2, z3, z4, z5, z6⟩, h6, h7⟩ := h
  have hlate : ¬ s_late td k := by
    rintro ⟨-, q | ⟨q1, q | q⟩⟩
    · have := h6 _ q; omega
    · have := h6 _ q; omega
    · have := h6 _ q; omega
  have hv : s_lo A k ≤ x ∧ x ≤ s_hi A k := by
    unfold s_lo s_hi
    rcases hks with ⟨rfl, hs⟩ | ⟨rfl, hs⟩ | ⟨rfl, hs⟩ | ⟨rfl, hs⟩
    · have := h1 rfl; have := z6 hs; simp; omega
    · have := h0 rfl; simp; split <;> omega
    · have := h2 rfl; simp; omega
    · have := h3 rfl; simp; omega
  have hst := t1.step (pre := pre) (mid := mid) (post := post) (by omega) (by omega : k < 6) hx hpre hmid hpost hlate hv (fun q => by have := q.1; omega)
  have ep : s_put A k x = up A k x := by unfold s_put; rw [if_pos hk]
  rw [ep] at hst
  refine ⟨c + 1, s_td td k, hst, by omega, by rw [List.length_append]; omega, ⟨fun j hj => ?_, fun i hi => ?_, fun j q1 q2 q3 => ?_, fun j q1 q2 q3 => ?_⟩, ⟨?_, ?_, ?_, ?_, ?_, fun q => by omega⟩, fun i q => ?_, fun q => ⟨?_, fun i hi => ?_⟩⟩
  · rw [hb j (by omega), up_eq]; split
    · rfl
    · exact x1 j hj
  · rw [hb _ (by omega), up_eq, if_neg (by omega), if_neg (by omega)]; exact x2 i hi
  · rw [up_eq, if_neg (by omega)]; exact x3 j q1 q2 q3
  · rw [hb j q3, if_neg (by omega)]; exact x4 j q1 q2 q3
  · rw [up_eq]; split
    · have := h0 (by omega); omega
    · omega
  · rw [up_eq]; split
    · have := h0 (by omega); omega
    · omega
  · rw [up_eq, up_eq]; split
    · have := h0 (by omega); rw [if_neg (by omega)]; omega
    · split
      · have := h1 (by omega); have := z6 (by omega); omega
      · omega
  · rw [up_eq]; split
    · have := h1 (by omega); omega
    · omega
  · rw [up_eq]; split
    · have := h1 (by omega); omega
    · omega
  · unfold s_td at q
    split at q
    · omega
    · have := h6 i q; omega
  · rw [up_eq, if_neg (fun e => by have := h3 (by omega); omega)]; exact (h7 q).1
  · rw [up_eq, if_neg (by omega)]; exact (h7 q).2 i hi
/-- a fault is written -/
theorem TXp.ft {A0 A B B' : Row} {m n k i N : Nat} {l pre mid post : List Int} (h : TXp A0 0 5 m n A B l) (hm : m < 890) (hk : k = 4 ∨ k = 5) (hi : (i : Int) < A 1) (hpre : pre = [] ∨ pre = [32]) (hmid : mid = [] ∨ mid = [32]) (hpost : post = [] ∨ post = [10])
  (hf : (k = 4 ∧ A (68 + i) = 0) ∨ (k = 5 ∧ 0 ≤ A (68 + i) ∧ A (68 + i) ≤ 1)) (hN : n + (pcs k i pre mid post).length ≤ N) (hb : ∀ j, j ≠ 1000 → B' j = if j = 68 + i then A (68 + i) + (if k = 4 then 1 else 2) else B j) : TXp A0 0 5 (m + 1) N (up A (68 + i) (A (68 + i) + (if k = 4 then 1 else 2))) B' (l ++ pcs k i pre mid post) := by
  obtain ⟨c, td, t1, t2, t3, ⟨x1, x2, x3, x4⟩, ⟨z1, z2, z3, z4, z5, z6⟩, h6, h7⟩ := h
  have hv : s_lo A k ≤ (i : Int) ∧ (i : Int) ≤ s_hi A k := by
    unfold s_lo s_hi
    rcases hk with rfl | rfl <;> simp <;> omega
  have hh : ¬ s_has A k (i : Int) := by
    unfold s_has
    rw [Int.toNat_natCast]
    omega
  have hst := t1.step (pre := pre) (mid := mid) (post := post) (by omega) (by omega : k < 6) ⟨by omega, by omega⟩ hpre hmid hpost (fun q => by have := q.1; omega) hv hh
  have ep : s_put A k (i : Int) = up A (68 + i) (A (68 + i) + (if k = 4 then 1 else 2)) := by unfold s_put; rw [if_neg (by omega), Int.toNat_natCast]
  rw [ep] at hst
  refine ⟨c + 1, s_td td k, hst, by omega, by rw [List.length_append]; exact Nat.le_trans (Nat.add_le_add_right t3 _) hN, ⟨fun j hj => ?_, fun j hj => ?_, fun j q1 q2 q3 => ?_, fun j q1 q2 q3 => ?_⟩, ⟨?_, ?_, ?_, ?_, ?_, fun q => by omega⟩, fun j _ => by omega, fun q => absurd rfl q⟩
  · rw [hb j (by omega), up_eq, if_neg (by omega), if_neg (by omega)]; exact x1 j hj
  · rw [hb _ (by omega), up_eq]; split
    · rfl
    · exact x2 j hj
  · rw [up_eq, if_neg (by omega)]; exact x3 j q1 q2 q3
  · rw [hb j q3, if_neg (by omega)]; exact x4 j q1 q2 q3
  · rw [up_eq, if_neg (by omega)]; exact z1
  · rw [up_eq, if_neg (by omega)]; exact z2
  · rw [up_eq, up_eq, if_neg (by omega), if_neg (by omega)]; exact z3
  · rw [up_eq, if_neg (by omega)]; exact z4
  · rw [up_eq, if_neg (by omega)]; exact z5
