/-! a drawn text, read -/
theorem LO.refl (w : mW) : LO w w := fun _ _ => ⟨rfl, rfl, rfl, rfl⟩
theorem LO.trans {w w' w'' : mW} (h : LO w w') (h' : LO w' w'') : LO w w'' := fun a ha => ⟨(h' a ha).1.trans (h a ha).1, (h' a ha).2.1.trans (h a ha).2.1, (h' a ha).2.2.1.trans (h a ha).2.2.1, (h' a ha).2.2.2.trans (h a ha).2.2.2⟩
theorem gD_app (a e : List Int) (i : Nat) : (a ++ e).getD i 0 = if i < a.length then a.getD i 0 else e.getD (i - a.length) 0 := by
  simp only [List.getD_eq_getElem?_getD, List.getElem?_append]
  split <;> rfl
def AG (f : Nat → Int) (o : Nat) (l : List Int) : Prop := ∀ j, j < l.length → f (o + j) = l.getD j 0
theorem AG.l {f : Nat → Int} {o : Nat} {a e : List Int} (h : AG f o (a ++ e)) : AG f o a := fun j hj => by
  rw [h j (by rw [List.length_append]; omega), gD_app, if_pos hj]
theorem AG.r {f : Nat → Int} {o : Nat} {a e : List Int} (h : AG f o (a ++ e)) : AG f (o + a.length) e := fun j hj => by
  have := h (a.length + j) (by rw [List.length_append]; omega)
  rw [← Nat.add_assoc] at this
  rw [this, gD_app, if_neg (by omega), Nat.add_sub_cancel_left]
theorem rnn_run {p : Int → Bool} {f : Nat → Int} {n : Nat} : ∀ (m i : Nat), i + m ≤ n → (∀ j, j < m → p (f (i + j)) = true) → (n ≤ i + m ∨ p (f (i + m)) = false) → rnn p f n i = i + m := by
  intro m
  induction m with
  | zero => intro i _ _ h; exact rn_stop h
  | succ m ih =>
    intro i h1 h2 h3
    have h0 := h2 0 (by omega)
    rw [Nat.add_zero] at h0
    rw [rn_step (by omega) h0, ih (i + 1) (by omega) (fun j hj => by have := h2 (j + 1) (by omega); rwa [show i + (j + 1) = i + 1 + j by omega] at this) (by rwa [show i + (m + 1) = i + 1 + m by omega] at h3)]
    omega
theorem tok_sk {f : Nat → Int} {n i : Nat} (h : i < n) (hb : isB (f i) = true) : tok f n i = tok f n (i + 1) := by
  unfold tok; rw [rn_step h hb]
theorem tok_w {f : Nat → Int} {n i m : Nat} (h1 : 1 ≤ m) (h8 : m ≤ 8) (hn : i + m ≤ n) (hl : ∀ j, j < m → isL (f (i + j)) = true) (he : n ≤ i + m ∨ isL (f (i + m)) = false) : tok f n i = (1, i, i + m) := by
  have h0 := hl 0 (by omega)
  rw [Nat.add_zero] at h0
  have hB : isB (f i) = false := by
    unfold isL at h0; unfold isB
    have := of_decide_eq_true h0
    exact decide_eq_false (by omega)
  unfold tok
  rw [rn_stop (Or.inr hB), if_neg (by omega), if_pos h0, rnn_run m i hn hl he, if_neg (by omega)]
theorem tok_n {f : Nat → Int} {n i m : Nat} (h1 : 1 ≤ m) (h8 : m ≤ 8) (hn : i + m ≤ n) (hl : ∀ j, j < m → isD (f (i + j)) = true) (he : n ≤ i + m ∨ isD (f (i + m)) = false) : tok f n i = (2, i, i + m) := by
  have h0 := hl 0 (by omega)
  rw [Nat.add_zero] at h0
  have h0' := h0
  unfold isD at h0'
  have h9 := of_decide_eq_true h0'
  have hB : isB (f i) = false := by unfold isB; exact decide_eq_false (by omega)
  have hL : ¬ isL (f i) = true := by unfold isL; intro q; have := of_decide_eq_true q; omega
  unfold tok
  rw [rn_stop (Or.inr hB), if_neg (by omega), if_neg hL, if_pos h0, rnn_run m i hn hl he, if_neg (by omega)]
theorem tok_s {f : Nat → Int} {n i : Nat} (hn : i < n) (h : f i = 59) : tok f n i = (3, i, i + 1) := by
  have hB : isB (f i) = false := by rw [h]; decide
  have hL : ¬ isL (f i) = true := by rw [h]; decide
  have hD : ¬ isD (f i) = true := by rw [h]; decide
  unfold tok
  rw [rn_stop (Or.inr hB), if_neg (by omega), if_neg hL, if_neg hD]
theorem tok_bl {f : Nat → Int} {n i : Nat} {e : List Int} (he : e = [] ∨ e = [32] ∨ e = [10]) (h : AG f i e) (hn : i + e.length ≤ n) : tok f n i = tok f n (i + e.length) := by
  rcases he with rfl | rfl | rfl
  · rfl
  · have h0 : f i = 32 := h 0 (by decide)
    exact tok_sk (by have : i + 1 ≤ n := hn; omega) (by rw [h0]; decide)
  · have h0 : f i = 10 := h 0 (by decide)
    exact tok_sk (by have : i + 1 ≤ n := hn; omega) (by rw [h0]; decide)
theorem mt_ag {f : Nat → Int} : ∀ (l : List Int) (s : Nat), AG f s l → mt f s l = true := by
  intro l
  induction l with
  | nil => intro s _; rfl
  | cons c l ih =>
    intro s h
    have h0 : f s = c := h 0 (by simp)
    have h1 : AG f (s + 1) l := AG.r (a := [c]) h
    rw [mt, ih _ h1, Bool.and_true]
    exact decide_eq_true h0
theorem sk_at {f : Nat → Int} {s k : Nat} (hk : k < 6) (h : AG f s (wd k)) : s_kind f (1, s, s + (wd k).length) = k := by
  have hm := mt_ag _ _ h
  rcases (show k = 0 ∨ k = 1 ∨ k = 2 ∨ k = 3 ∨ k = 4 ∨ k = 5 by omega) with rfl | rfl | rfl | rfl | rfl | rfl
  all_goals simp [wd, mt] at hm
  all_goals simp [s_kind, isW, wd, mt, hm]
theorem wd_L {k : Nat} (hk : k < 6) : (1 ≤ (wd k).length ∧ (wd k).length ≤ 7) ∧ ∀ j, j < (wd k).length → isL ((wd k).getD j 0) = true := by
  rcases (show k = 0 ∨ k = 1 ∨ k = 2 ∨ k = 3 ∨ k = 4 ∨ k = 5 by omega) with rfl | rfl | rfl | rfl | rfl | rfl
  all_goals exact ⟨⟨by decide, by decide⟩, by decide⟩
theorem dgs_D {x : Int} (h : 0 ≤ x ∧ x ≤ 99) : ∀ i, i < (dgs x).length → isD ((dgs x).getD i 0) = true := by
  intro i hi
  unfold dgs at hi ⊢
  unfold isD
  split at hi <;> rename_i q
  · rw [if_pos q]
    have : i = 0 := by simpa using hi
    subst this
    show decide (48 ≤ 48 + x ∧ 48 + x ≤ 57) = true
    exact decide_eq_true (by omega)
  · rw [if_neg q]
    have : i = 0 ∨ i = 1 := by have : i < 2 := hi; omega
    rcases this with rfl | rfl
    · show decide (48 ≤ 48 + x / 10 ∧ 48 + x / 10 ≤ 57) = true
      exact decide_eq_true (by omega)
    · show decide (48 ≤ 48 + x % 10 ∧ 48 + x % 10 ≤ 57) = true
      exact decide_eq_true (by omega)
theorem dgs_v {f : Nat → Int} {s : Nat} {x : Int} (hx : 0 ≤ x ∧ x ≤ 99) (h : AG f s (dgs x)) : dv f s (dgs x).length = x := by
  unfold dgs at h ⊢
  split at h <;> rename_i q
  · rw [if_pos q]
    have h0 : f s = 48 + x := h 0 (by simp)
    show 10 * (0 : Int) + (f s - 48) = x
    omega
  · rw [if_neg q]
    have h0 : f s = 48 + x / 10 := h 0 (by simp)
    have h1 : f (s + 1) = 48 + x % 10 := h 1 (by simp)
    show 10 * (10 * (0 : Int) + (f s - 48)) + (f (s + 1) - 48) = x
    omega
/-- what the class makes of a text's beginning -/
def TP (A0 : Row) (l : List Int) (c : Nat) (A : Row) (td : Nat → Bool) : Prop := ∀ (f : Nat → Int) (n : Nat), l.length ≤ n → AG f 0 l → s_run f n 900 (n_rw A0) (fun _ => false) (tok f n 0) = s_run f n (900 - c) A td (tok f n l.length)
theorem TP.nil (A0 : Row) : TP A0 [] 0 (n_rw A0) (fun _ => false) := fun _ _ _ _ => rfl
theorem TP.step {A0 A : Row} {l pre mid post : List Int} {c k : Nat} {x : Int} {td : Nat → Bool} (h : TP A0 l c A td) (hc : c < 899) (hk : k < 6) (hx : 0 ≤ x ∧ x ≤ 99) (hpre : pre = [] ∨ pre = [32]) (hmid : mid = [] ∨ mid = [32]) (hpost : post = [] ∨ post = [10])
  (hl : ¬ s_late td k) (hv : s_lo A k ≤ x ∧ x ≤ s_hi A k) (hh : ¬ s_has A k x) : TP A0 (l ++ (pre ++ (wd k ++ ([32] ++ (dgs x ++ (mid ++ ([59] ++ post))))))) (c + 1) (s_put A k x) (s_td td k) := by
  intro f n hn hf
  have hlen : (l ++ (pre ++ (wd k ++ ([32] ++ (dgs x ++ (mid ++ ([59] ++ post))))))).length = l.length + (pre.length + ((wd k).length + (1 + ((dgs x).length + (mid.length + (1 + post.length)))))) := by
    simp only [List.length_append, List.length_cons, List.length_nil]
  rw [hlen] at hn
  have a0 := hf.l
  have r0 := hf.r
  rw [Nat.zero_add] at r0
  have a1 := r0.l
  have r1 := r0.r
  have a2 := r1.l
  have r2 := r1.r
  have a3 := r2.l
  have r3 := r2.r
  have a4 := r3.l
  have r4 := r3.r
  have a5 := r4.l
  have r5 := r4.r
  have a6 := r5.l
  have a7 := r5.r
  obtain ⟨⟨wl1, wl2⟩, wl3⟩ := wd_L hk
  have dl := dgs_len x
  have dl2 : 1 ≤ (dgs x).length ∧ (dgs x).length ≤ 2 := by rw [dl]; split <;> omega
  generalize hs1 : l.length + pre.length = s1 at a2 a3 a4 a5 a6 a7
  generalize hs2 : s1 + (wd k).length = s2 at a3 a4 a5 a6 a7
  have e1 : ([32] : List Int).length = 1 := rfl
  have e2 : ([59] : List Int).length = 1 := rfl
  rw [e1] at a4 a5 a6 a7
  generalize hs4 : s2 + 1 + (dgs x).length = s4 at a5 a6 a7
  generalize hs5 : s4 + mid.length = s5 at a6 a7
  rw [e2] at a7
  have f2 : f s2 = 32 := a3 0 (by decide)
  have f5 : f s5 = 59 := a6 0 (by decide)
  have t1 : tok f n l.length = (1, s1, s2) := by
    rw [tok_bl (e := pre) (by rcases hpre with q | q; exact Or.inl q; exact Or.inr (Or.inl q)) a1 (by omega), hs1, ← hs2]
    refine tok_w (by omega) (by omega) (by omega) (fun j hj => by rw [a2 j hj]; exact wl3 j hj) (Or.inr ?_)
    rw [hs2, f2]; decide
  have t2 : tok f n s2 = (2, s2 + 1, s4) := by
    rw [tok_sk (by omega) (by rw [f2]; decide), ← hs4]
    refine tok_n (by omega) (by omega) (by omega) (fun j hj => by rw [a4 j hj]; exact dgs_D hx j hj) (Or.inr ?_)
    rw [hs4]
    rcases hmid with q | q
    · have : s5 = s4 := by rw [← hs5, q]; rfl
      rw [← this, f5]; decide
    · have : f s4 = 32 := by have := a5 0 (by rw [q]; decide); rw [q] at this; exact this
      rw [this]; decide
  have t3 : tok f n s4 = (3, s5, s5 + 1) := by
    rw [tok_bl (e := mid) (by rcases hmid with q | q; exact Or.inl q; exact Or.inr (Or.inl q)) a5 (by omega), hs5]
    exact tok_s (by omega) f5
  have t4 : tok f n (s5 + 1) = tok f n (s5 + 1 + post.length) := tok_bl (by rcases hpost with q | q; exact Or.inl q; exact Or.inr (Or.inr q)) a7 (by omega)
  have kd : s_kind f (1, s1, s2) = k := by rw [← hs2]; exact sk_at hk a2
  have hvv : tval f (2, s2 + 1, s4) = x := by
    show dv f (s2 + 1) (s4 - (s2 + 1)) = x
    rw [← hs4, Nat.add_sub_cancel_left]
    exact dgs_v hx a4
  have hp := sp_7 (f := f) (n := n) (A := A) (td := td) (t := (1, s1, s2)) (by rw [kd]; omega) (by rw [kd]; exact hl) (by show (tok f n s2).1 = 2; rw [t2]) (by show ¬ (tval f (tok f n s2) < _ ∨ _ < tval f (tok f n s2)); rw [t2, hvv, kd]; omega) (by show ¬ s_has A _ (tval f (tok f n s2)); rw [t2, hvv, kd]; exact hh)
    (by show isS f (tok f n (tok f n s2).2.2) 59 = true; rw [t2]; show isS f (tok f n s4) 59 = true; rw [t3]; unfold isS; show (decide (3 = 3) && decide (f s5 = 59)) = true; rw [f5]; rfl)
  obtain ⟨m, hm⟩ : ∃ m, 900 - c = m + 1 := ⟨900 - c - 1, by omega⟩
  rw [h f n (by omega) a0, t1, hm, s_run, if_neg (show ¬ (1 : Nat) = 0 by decide), hp, kd, hlen, show 900 - (c + 1) = m by omega]
  show s_run f n m (s_put A k (tval f (tok f n s2))) (s_td td k) (tok f n (tok f n (tok f n s2).2.2).2.2) = _
  rw [t2, hvv]
  show s_run f n m _ _ (tok f n (tok f n s4).2.2) = _
  rw [t3]
  show s_run f n m _ _ (tok f n (s5 + 1)) = _
  rw [t4]
  congr 2
  omega
theorem TP.fin {A0 A : Row} {l : List Int} {c : Nat} {td : Nat → Bool} (h : TP A0 l c A td) (hc : c < 900) (f : Nat → Int) (hf : AG f 0 l) : s_run f l.length 900 (n_rw A0) (fun _ => false) (tok f l.length 0) = .inr A := by
  obtain ⟨m, hm⟩ : ∃ m, 900 - c = m + 1 := ⟨900 - c - 1, by omega⟩
  rw [h f l.length (Nat.le_refl _) hf, hm, s_run, if_pos]
  unfold tok
  rw [rn_stop (Or.inl (Nat.le_refl _)), if_pos (Nat.le_refl _)]
