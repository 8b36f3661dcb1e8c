section ROWS14
variable {k pc : Nat} {J : Int → mK} {Q : mW → mO → Prop} {K : mK} {x y z u v : Nat}
theorem Sim.kept {ba : Nat} {xa aC : Nat → Nat} {D : va_G} {w : mW} {s : State} {H H1 : Heap} (hM : Sim ba xa aC D w s H) (hz : H.size ≤ H1.size) (hk : ∀ q, q < H.size → H1[q]? = H[q]?) : Sim ba xa aC D w s H1 := by
  obtain ⟨m1, m2, m3, m4, m6, m7, m8, m9⟩ := hM
  exact ⟨m1.kept fun k q hq => hk _ ((m1 k q hq).lt), m2, m3, Nat.le_trans m4 hz, m6, m7.kept (hk _ (by omega)), m8, m9⟩
theorem va_S.no {A : Nat → Prop} {H0 H H1 : Heap} {locs locs1 : List Loc} (h : va_S A H0 H locs) (hz : H.size ≤ H1.size) (hk : ∀ q, q < H.size → H1[q]? = H[q]?) (hl : ∀ l ∈ locs1, A l.base) : va_S A H0 H1 locs1 :=
  ⟨Nat.le_trans h.1 hz, fun q a b => (hk q (Nat.lt_of_lt_of_le a h.1)).trans (h.2.1 q a b), hl⟩
set_option maxHeartbeats 4000000 in
theorem so_copy {idx : Nat} (hd : decode (m_c k) pc = .ok (.invokestatic idx, 3)) (hlk : Cond.methodLink (m_o k) idx arraycopyName ∈ lw_tbl) (hna : Cond.native arraycopyName ∈ lw_tbl) (hst : Cond.static arraycopyName ∈ lw_tbl) (hini : Cond.initialized "java/lang/System" ∈ lw_tbl) (hrm : 1 ≤ m_fr k ∧ 26 ≤ m_lo k) (hK : ∀ L st w g, K L st w g → RT k (pc + 3) L st w g Q) : ∀ L st w g, stW k J Q (pc, .invokestatic idx, x, y, 2, u, v) K L st w g → RT k pc L st w g Q := by
  intro L st w g h
  simp only [stW] at h
  split at h
  · rename_i n dp b sp a r
    obtain ⟨ha, hb, g1, g2, g3, g4, g5, hr, h⟩ := h
    intro p l e R s m args below meth c ba D aC xa Qr C H locs cells slots ls hM hS hl h1 h2 h3
    have hea := hM.arr (t := 0) ha (by omega)
    have heb := hM.arr (t := 0) hb (by omega)
    rw [arc_i (by omega)] at hea heb
    have hfr := C.2.1.1
    have hlo := C.2.1.2.1
    have hw7 : nativeFrameWords "java/lang/System" "arraycopy" 5 = 7 := by decide +kernel
    have hc4 := cat_4 (ba := ba) (xa := xa) r hr
    exact va_copyi C.1.1 C.1.2.1 (by rw [C.1.2.2.1]; exact hl.1.1.symm) C.1.2.2.2.1 (T_at C.1.2.2.2.2.1 hlk rfl) (T_at C.1.2.2.2.2.1 hna rfl) (T_at C.1.2.2.2.2.1 hst rfl) (T_at C.1.2.2.2.2.1 hini rfl) C.2.1.2.2.1 hM.1 wld_D hS.at (a - 100) (b - 100) 0 0 hea heb (tys_at aC (by omega)) (tys_at aC (by omega)) rfl g1 g2 g3 g4 g5 (fun _ _ => rfl) (by omega) (by rw [hw7]; omega) hd
      (arr_go (w' := s_A w b (va_cpy (w_I w a) (w_I w b) sp.toNatClampNeg dp.toNatClampNeg n.toNatClampNeg)) C hM hS (by omega) rfl rfl (I0_A (hM.n0 (by omega))) (fun b' hb' => cel_A hb') (cel_Aa (t := 0) hb (by omega)) (fun H1 locs1 hM1 hS1 => hK _ _ _ _ h p l e R s m args below meth c ba D aC xa Qr C H1 locs1 cells slots ls hM1 hS1 hl h1 h2 h3))
  · exact h.elim
theorem so_ireturn (hd : decode (m_c k) pc = .ok (.ireturn, 1)) (hr : m_r k = some .int ∨ m_r k = some .boolean) : ∀ L st w g, stW k J Q (pc, .ireturn, x, y, z, u, v) K L st w g → RT k pc L st w g Q := by
  intro L st w g h
  simp only [stW] at h
  split at h
  · rename_i a
    intro p l e R s m args below meth c ba D aC xa Qr C H locs cells slots ls hM hS hl h1 h2 h3
    have hq : Q w (.inl (some (.int a))) ∧ ∃ ty, m_r k = some ty ∧ narrow ty (.int a) = .int a := by
      rcases hr with hr | hr
      · rw [hr] at h; exact ⟨h, _, hr, rfl⟩
      · rw [hr] at h; obtain ⟨h01, h⟩ := h; exact ⟨h, _, hr, by rcases h01 with rfl | rfl <;> rfl⟩
    obtain ⟨hq, ty, e1, e2⟩ := hq
    exact C.2.2.1 w (some (.int a)) H locs cells slots pc ls hq hM hS (by omega) (by omega) ⟨ty, e1, e2, hd⟩
  · exact h.elim
theorem so_lreturn (hd : decode (m_c k) pc = .ok (.lreturn, 1)) (hr : m_r k = some .long) : ∀ L st w g, stW k J Q (pc, .lreturn, x, y, z, u, v) K L st w g → RT k pc L st w g Q := by
  intro L st w g h
  simp only [stW] at h
  split at h
  · rename_i a
    intro p l e R s m args below meth c ba D aC xa Qr C H locs cells slots ls hM hS hl h1 h2 h3
    exact C.2.2.1 w (some (.long a)) H locs cells slots pc ls h hM hS (by omega) (by omega) ⟨hr, hd⟩
  · exact h.elim
theorem so_freturn (hd : decode (m_c k) pc = .ok (.freturn, 1)) (hr : m_r k = some .float) : ∀ L st w g, stW k J Q (pc, .freturn, x, y, z, u, v) K L st w g → RT k pc L st w g Q := by
  intro L st w g h
  simp only [stW] at h
  split at h
  · rename_i a
    intro p l e R s m args below meth c ba D aC xa Qr C H locs cells slots ls hM hS hl h1 h2 h3
    exact C.2.2.1 w (some (.float a)) H locs cells slots pc ls h hM hS (by omega) (by omega) ⟨hr, hd⟩
  · exact h.elim
theorem so_return (hd : decode (m_c k) pc = .ok (.return_, 1)) (hr : m_r k = none) : ∀ L st w g, stW k J Q (pc, .return_, x, y, z, u, v) K L st w g → RT k pc L st w g Q := by
  intro L st w g h
  simp only [stW] at h
  split at h
  · intro p l e R s m args below meth c ba D aC xa Qr C H locs cells slots ls hM hS hl h1 h2 h3
    exact C.2.2.1 w none H locs cells slots pc ls h hM hS (by omega) (by omega) ⟨hr, hd⟩
  · exact h.elim
theorem str_at {a : Nat} (h1 : 2 ≤ a) (h2 : a < 18) : ∃ q, m_str[a - 2]? = some q := ⟨m_str[a - 2]'(by show a - 2 < 16; omega), List.getElem?_eq_getElem _⟩
theorem str_sg {ba : Nat} {xa : Nat → Nat} {a : Nat} (h1 : 2 ≤ a) (h2 : a < 18) : trv ba xa (.ref a) = .ref (xa (2 + (a - 2))) := by
  show Value.ref (sgm ba xa a) = _
  rw [sgm, if_pos (by omega), show 2 + (a - 2) = a by omega]
set_option maxHeartbeats 4000000 in
theorem so_slen {idx : Nat} (hd : decode (m_c k) pc = .ok (.invokevirtual idx, 3)) (hlk : Cond.methodLink (m_o k) idx yJ0_length_8abf5 ∈ lw_tbl) (hrm : 4 ≤ m_fr k ∧ 106 ≤ m_lo k) (hK : ∀ L st w g, K L st w g → RT k (pc + 3) L st w g Q) : ∀ L st w g, stW k J Q (pc, .invokevirtual idx, x, y, 3, u, v) K L st w g → RT k pc L st w g Q := by
  intro L st w g h
  simp only [stW] at h
  split at h
  · rename_i a r
    obtain ⟨ha1, ha2, hr, h⟩ := h
    intro p l e R s m args below meth c ba D aC xa Qr C H locs cells slots ls hM hS hl h1 h2 h3
    obtain ⟨q, hj⟩ := str_at ha1 ha2
    have hRO := C.2.1.2.2.2.2.1
    have hfr := C.2.1.1
    have hlo := C.2.1.2.1
    have hgi : GoodIn lw_T (wsV (m_o k) idx RJ0 yJ0_length_8abf5 (wj yJ0_length_8abf5 cJ0_length_8abf5 1 (some .int))) := gi_T fun w hw => by
      simp only [wsV, List.cons_append, List.nil_append, List.mem_cons] at hw
      rcases hw with rfl | rfl | rfl | rfl | hw
      · exact T_mem hlk rfl
      · exact T_mem (by decide +kernel) rfl
      · exact T_mem (by decide +kernel) rfl
      · exact T_mem (by decide +kernel) rfl
      · exact wj_in (by decide +kernel) _ hw
    obtain ⟨va, s0, s1, s2, s3⟩ := hRO.2.2.2.2.2.1 (a - 2) q hj
    obtain ⟨cell, g1, g2, g3, -⟩ := s0.kept hS.2.1
    rw [List.map_cons, str_sg ha1 ha2]
    refine va_calli (va_runV (As := []) (rest := r.map (trv ba xa)) ⟨C.1.1, C.1.2.1, C.1.2.2.1, C.1.2.2.2.1, C.1.2.2.2.2.1⟩ (c_length (ba := ba) (xa := xa) l hj) (cwV 0 C.1.2.2.2.2.1 hgi rfl rfl rfl (by decide +kernel) ⟨by show 1 + 1 ≤ _; omega, by show 8 + (1 + 11) + 20 ≤ _; omega⟩) ⟨sB.blind, ⟨cell, g1, g2, g3⟩, fun U hU hW => ⟨rfl, by show RO ba xa U U.heap; rw [hU]; exact (hRO.kept hS.2.1).warm hW⟩⟩ rfl rfl hl.1.1 rfl (lv_room (cat_4 r hr)) hd ⟨by omega, by omega⟩) hS (fun q _ h => h.elim) (fun q h => h.elim) (fun r' u' t H1 locs1 ht hvm hw hB hz1 hk1 hS1 => ?_)
    subst hw
    exact hK _ _ _ _ h p l e R s m args below meth c ba D aC xa Qr C H1 locs1 _ _ ls (hM.kept hz1 (fun q hq => hk1 q hq (fun z => z))) hS1 hl (by omega) (by omega) (fun q => by have := h3 q; omega)
  · exact h.elim
set_option maxHeartbeats 4000000 in
theorem so_schr {idx : Nat} (hd : decode (m_c k) pc = .ok (.invokevirtual idx, 3)) (hlk : Cond.methodLink (m_o k) idx yJ0_charAt_5068e ∈ lw_tbl) (hrm : 4 ≤ m_fr k ∧ 106 ≤ m_lo k) (hK : ∀ L st w g, K L st w g → RT k (pc + 3) L st w g Q) : ∀ L st w g, stW k J Q (pc, .invokevirtual idx, x, y, 4, u, v) K L st w g → RT k pc L st w g Q := by
  intro L st w g h
  simp only [stW] at h
  split at h
  · rename_i b a r
    obtain ⟨ha1, ha2, hin, hr, h⟩ := h
    intro p l e R s m args below meth c ba D aC xa Qr C H locs cells slots ls hM hS hl h1 h2 h3
    have h16 : a - 2 < 16 := (show ∀ n : Nat, n < 18 → n - 2 < 16 from fun n h => by omega) a ha2
    obtain ⟨q, hj⟩ := str_at ha1 ha2
    have hRO := C.2.1.2.2.2.2.1
    have hfr := C.2.1.1
    have hlo := C.2.1.2.1
    have hgi : GoodIn lw_T (wsV (m_o k) idx RJ0 yJ0_charAt_5068e (wj yJ0_charAt_5068e cJ0_charAt_5068e 2 (some .char))) := gi_T fun w hw => by
      simp only [wsV, List.cons_append, List.nil_append, List.mem_cons] at hw
      rcases hw with rfl | rfl | rfl | rfl | hw
      · exact T_mem hlk rfl
      · exact T_mem (by decide +kernel) rfl
      · exact T_mem (by decide +kernel) rfl
      · exact T_mem (by decide +kernel) rfl
      · exact wj_in (by decide +kernel) _ hw
    obtain ⟨va, s0, s1, s2, s3⟩ := hRO.2.2.2.2.2.1 (a - 2) q hj
    obtain ⟨cell, g1, g2, g3, -⟩ := s0.kept hS.2.1
    rw [List.map_cons, List.map_cons, str_sg ha1 ha2]
    refine va_calli (va_runV (As := [.int b]) (rest := r.map (trv ba xa)) ⟨C.1.1, C.1.2.1, C.1.2.2.1, C.1.2.2.2.1, C.1.2.2.2.2.1⟩ (c_chr (ba := ba) (xa := xa) l hj h16 hin) (cwV 1 C.1.2.2.2.2.1 hgi rfl rfl rfl (by decide +kernel) ⟨by show 3 + 1 ≤ _; omega, by show 8 + (2 + 11) + 85 ≤ _; omega⟩) ⟨sB.blind, ⟨cell, g1, g2, g3⟩, fun U hU hW => ⟨rfl, by show RO ba xa U U.heap; rw [hU]; exact (hRO.kept hS.2.1).warm hW⟩⟩ rfl rfl hl.1.1 rfl (lv_room (cat_4 r hr)) hd ⟨by omega, by omega⟩) hS (fun q _ h => h.elim) (fun q h => h.elim) (fun r' u' t H1 locs1 ht hvm hw hB hz1 hk1 hS1 => ?_)
    subst hw
    exact hK _ _ _ _ h p l e R s m args below meth c ba D aC xa Qr C H1 locs1 _ _ ls (hM.kept hz1 (fun q hq => hk1 q hq (fun z => z))) hS1 hl (by omega) (by omega) (fun q => by have := h3 q; omega)
  · exact h.elim
theorem cast_in : ∀ E, E < 4 → Cond.castable (m_E E) (m_E E) ∈ lw_tbl := by decide +kernel
set_option maxHeartbeats 4000000 in
/-- a wrapper's handler answers its number -/
theorem catch_go {p : Program} {l : Launch} {e : Env} {R : Room} {s : State} {m : MethodId} {args : Array Value} {below : List Frame} {meth : Method} {c : Code} {ba : Nat} {D : va_G} {aC xa : Nat → Nat} {Qr : State → Prop} (C : Cx k p l e R s m args below meth c ba D aC xa Q Qr) {H : Heap} {locs : List Loc} {cells slots : Nat} {ls : Array Slot} {L : List Value} {w' : mW} {E : Nat} {q : Addr} {ce : Cell} {rest : List Value}
    (hB : hdB k pc = true) (hle : hdl k E ≤ (m_hh k).length) (hq : Q w' (.inl (some (.int (Int32.ofNat (hdl k E)))))) (hM : Sim ba xa aC D w' s H) (hS : va_S (aA ba) s.heap H locs) (hl : lrl ba xa (m_l k) ls L) (h1 : cells ≤ R.cells) (h2 : slots ≤ R.slots) (hE : E < 4) (hce : H[q]? = some ce) (hcv : ce.vm = .none) (hcl : s.vm.findClass (m_E E) = some ce.cls) :
    vx_W p l e R s m args below meth c H locs cells slots Qr (F0 m pc ls rest) q := by
  simp only [hdB, Bool.and_eq_true, decide_eq_true_eq, List.all_eq_true, List.mem_range] at hB
  obtain ⟨hr, hall⟩ := hB
  have hdl1 : hdl k E = ((m_hh k).findIdx fun q => decide (Cond.classLink (m_o k) q.2.2.2 (m_E E) ∈ lw_tbl)) + 1 := rfl
  generalize hi : ((m_hh k).findIdx fun q => decide (Cond.classLink (m_o k) q.2.2.2 (m_E E) ∈ lw_tbl)) = i at hdl1
  have hil : i < (m_hh k).length := by omega
  have hfi : Cond.classLink (m_o k) ((m_hh k)[i]).2.2.2 (m_E E) ∈ lw_tbl := by
    have := List.findIdx_getElem (xs := m_hh k) (p := fun q => decide (Cond.classLink (m_o k) q.2.2.2 (m_E E) ∈ lw_tbl)) (w := by rw [hi]; exact hil)
    simp only [hi, decide_eq_true_eq] at this
    exact this
  have hlt : ∀ j (hj : j < i), Cond.classLink (m_o k) ((m_hh k)[j]'(by omega)).2.2.2 (m_E E) ∉ lw_tbl := fun j hj => by
    have := List.not_of_lt_findIdx (xs := m_hh k) (p := fun q => decide (Cond.classLink (m_o k) q.2.2.2 (m_E E) ∈ lw_tbl)) (i := j) (by rw [hi]; exact hj)
    simpa using this
  have hcov : ∀ j (hj : j < (m_hh k).length), ((m_hh k)[j].1 ≤ pc ∧ pc < (m_hh k)[j].2.1) ∧ (m_hh k)[j].2.2.2 ≠ 0 ∧ (∃ j', j' < 4 ∧ Cond.classLink (m_o k) (m_hh k)[j].2.2.2 (m_E j') ∈ lw_tbl) ∧
      ((∃ n, n < m_l k ∧ decode (m_c k) (m_hh k)[j].2.2.1 = .ok (.astore n, 2) ∧ decode (m_c k) ((m_hh k)[j].2.2.1 + 2) = .ok (.iconst (j + 1), 1) ∧ decode (m_c k) ((m_hh k)[j].2.2.1 + 3) = .ok (.ireturn, 1)) ∨
       (∃ n, n < m_l k ∧ ∃ f : Fin 4, f.val = n ∧ decode (m_c k) (m_hh k)[j].2.2.1 = .ok (.astore_n f, 1) ∧ decode (m_c k) ((m_hh k)[j].2.2.1 + 1) = .ok (.iconst (j + 1), 1) ∧ decode (m_c k) ((m_hh k)[j].2.2.1 + 2) = .ok (.ireturn, 1))) := by
    intro j hj
    have h := hall j hj
    rw [List.getElem?_eq_getElem hj] at h
    generalize (m_hh k)[j] = qq at h ⊢
    obtain ⟨f, t, h', ct⟩ := qq
    simp only [Bool.and_eq_true, decide_eq_true_eq, List.any_eq_true, List.mem_range, Bool.or_eq_true] at h
    obtain ⟨⟨⟨a1, a2⟩, j', a3, a4⟩, n, a5, a6⟩ := h
    refine ⟨a1, a2, ⟨j', a3, a4⟩, ?_⟩
    rcases a6 with ⟨⟨b1, b2⟩, b3⟩ | ⟨f, b0, ⟨⟨b1, b2⟩, b3⟩, b4⟩
    · exact Or.inl ⟨n, a5, b1, b2, b3⟩
    · exact Or.inr ⟨n, a5, Fin.ofNat 4 f, by simp [Fin.ofNat]; omega, b2, b3, b4⟩
  obtain ⟨c1, c2, -, c4⟩ := hcov i hil
  have htb := C.2.1.2.2.2.2.2
  have hsplit : c.exceptionTable.toList = ((m_hh k).take i).map (fun q => (⟨q.1, q.2.1, q.2.2.1, q.2.2.2⟩ : ExceptionTableEntry)) ++ (⟨(m_hh k)[i].1, (m_hh k)[i].2.1, (m_hh k)[i].2.2.1, (m_hh k)[i].2.2.2⟩ : ExceptionTableEntry) :: ((m_hh k).drop (i + 1)).map (fun q => (⟨q.1, q.2.1, q.2.2.1, q.2.2.2⟩ : ExceptionTableEntry)) := by
    rw [htb, tableOf]
    conv => lhs; rw [← List.take_append_drop i (m_hh k), List.drop_eq_getElem_cons hil, List.map_append, List.map_cons]
  have hRO := C.2.1.2.2.2.2.1
  refine vx_catch C.1.2.2.2.1 _ _ _ hsplit (fun z hz => ?_) ?_ c2 (T_at C.1.2.2.2.2.1 hfi rfl) ((hRO.2.2.2.2.2.2.2.2.1 _ (List.mem_filter.mpr ⟨cast_in E hE, rfl⟩)).use rfl) hce hcv hcl ?_
  · obtain ⟨q0, hq0, rfl⟩ := List.mem_map.mp hz
    obtain ⟨j, hj⟩ := List.getElem?_of_mem hq0
    have hji : j < i := by
      have := (List.getElem?_eq_some_iff.mp hj).1
      simp at this; omega
    rw [List.getElem?_take_of_lt hji, List.getElem?_eq_getElem (by omega)] at hj
    cases hj
    obtain ⟨-, d2, ⟨j', d3, d4⟩, -⟩ := hcov j (by omega)
    right
    refine ⟨d2, m_E j', T_at C.1.2.2.2.2.1 d4 rfl, hRO.2.2.2.2.2.2.2.1 E j' hE d3 ?_⟩
    rintro rfl
    exact hlt j hji d4
  · simp only [covers, Bool.and_eq_true, decide_eq_true_eq]
    exact c1
  · have hv : Int32.ofInt ((i : Int) + 1) = Int32.ofNat (i + 1) := by
      rw [← Int.natCast_succ]; rfl
    have hrt : ∀ (pc' : Nat) (ls' : Array Slot), decode (m_c k) pc' = .ok (.ireturn, 1) → W p l e R s m args below meth c H locs cells slots Qr (F0 m pc' ls' [.int (Int32.ofNat (i + 1))]) := fun pc' ls' hd' =>
      C.2.2.1 w' (some (.int (Int32.ofNat (i + 1)))) H locs cells slots pc' ls' (by rw [← hdl1]; exact hq) hM hS h1 h2 ⟨.int, hr, rfl, hd'⟩
    rcases c4 with ⟨n, a1, b1, b2, b3⟩ | ⟨n, a1, f, hf, b1, b2, b3⟩
    · refine lv_astore C.1.1 C.1.2.1 b1 hl.1 a1 rfl (fun ls' _ => ?_)
      refine lv_iconst C.1.1 C.1.2.1 b2 hv ?_
      exact hrt _ _ b3
    · refine lv_astore_n C.1.1 C.1.2.1 b1 hf hl.1 a1 rfl (fun ls' _ => ?_)
      refine lv_iconst C.1.1 C.1.2.1 b2 hv ?_
      exact hrt _ _ b3
set_option maxHeartbeats 4000000 in
theorem so_invV {idx : Nat} (hd : decode (m_c k) pc = .ok (.invokevirtual idx, 3)) (h1 : c_rm k x = true) (h2 : c_mt x (y - 1) = true) (hy1 : 1 ≤ y) (hlk : Cond.methodLink (m_o k) idx (m_y x) ∈ lw_tbl) (him : Cond.instanceMethod (m_y x) ∈ lw_tbl) (hse : Cond.selects (m_y x).cls (m_y x) (m_y x) ∈ lw_tbl) (hcl : (m_cl (z - 10)).1 = (m_y x).cls) (hz11 : z - 10 < 11) (hhx : m_hh x = []) (hu : u = m_gc x ∧ v = m_gs x) (hal : m_al x = false) (hh : m_hh k = [] ∨ hdB k pc = true) (hz3 : z ≠ 3) (hz4 : z ≠ 4) (hK : ∀ L st w g, K L st w g → RT k (pc + 3) L st w g Q) : ∀ L st w g, stW k J Q (pc, .invokevirtual idx, x, y, z, u, v) K L st w g → RT k pc L st w g Q := by
  intro L st w g h
  obtain ⟨rfl, rfl⟩ := hu
  simp only [stW] at h
  split at h
  · rename_i b as hst
    obtain ⟨hsh, hy, hr, hg1, hg2, hCT⟩ := h
    intro p l e R s m args below meth c ba D aC xa Qr C H locs cells slots ls hM hS hl g1 g2 g3
    have hlen : as.length = y - 1 := by have := congrArg List.length hst; simp at this; omega
    have hst2 := tk_dr st y hst
    rw [hst2, List.reverse_cons, List.append_assoc]
    refine call_V C hM hS hl.1.1 hd h1 h2 hlen hlk him hse hcl (cl_at hz11) hhx hsh hr (by omega) (by omega) (fun q => by rw [hal] at q; cases q) hCT (fun w' v H1 locs1 hq hM1 hS1 => ?_) (fun w' E q ce H1 locs1 hq hM1 hS1 hE hce hcv hcl => ?_)
    · obtain ⟨hq1, hq2⟩ := hq
      have := hK _ _ _ _ hq2 p l e R s m args below meth c ba D aC xa Qr C H1 locs1 (cells + m_gc x) (slots + m_gs x) ls hM1 hS1 hl (by show _ + (g.1 - m_gc x) ≤ _; omega) (by show _ + (g.2.1 - m_gs x) ≤ _; omega) (fun q => by rw [hq1 q]; have := g3 q; omega)
      have e1 : (v.toList ++ st.drop y).map (trv ba xa) = (v.map (trv ba xa)).toList ++ (st.drop y).map (trv ba xa) := by cases v <;> simp
      rw [e1] at this
      exact this
    · cases hhk : m_hh k with
      | nil =>
        simp only [hhk] at hq
        exact C.2.2.2.1 w' E q ce H1 locs1 _ _ _ _ _ hq hM1 hS1 (by omega) (by omega) hE hce hcv hcl hhk
      | cons a b =>
        have hB : hdB k pc = true := by
          rcases hh with hh | hh
          · rw [hhk] at hh; cases hh
          · exact hh
        have hq' : hdl k E ≤ (m_hh k).length ∧ Q w' (.inl (some (.int (Int32.ofNat (hdl k E))))) := by simpa only [hhk] using hq
        exact catch_go C hB hq'.1 hq'.2 hM1 hS1 hl (by omega) (by omega) hE hce hcv hcl
  · exact h.elim
set_option maxHeartbeats 8000000 in
/-- A CHECKED ENTRY: what it asks is enough -/
theorem st_ok {q : PI} {nx : Nat} (hv : vI k q nx = true) (hK : ∀ L st w g, K L st w g → RT k nx L st w g Q) (hJ : ∀ (t : Int) L st w g, 0 ≤ t → J t L st w g → RT k t.toNat L st w g Q) : ∀ L st w g, stW k J Q q K L st w g → RT k q.1 L st w g Q := by
  obtain ⟨pc, i, x, y, z, u, v⟩ := q
  simp only [vI, Bool.and_eq_true, decide_eq_true_eq] at hv
  obtain ⟨⟨rfl, hd⟩, hx⟩ := hv
  have hJx : ∀ L st w g, J (x : Int) L st w g → RT k x L st w g Q := fun L st w g h => by
    have := hJ (x : Int) L st w g (by omega) h
    rwa [Int.toNat_natCast] at this
  cases i with
  | iload n => exact so_iload hd hK
  | iload_n n => exact so_iload_n hd hK
  | aload n => exact so_aload hd hK
  | aload_n n => exact so_aload_n hd hK
  | lload n => exact so_lload hd hK
  | lload_n n => exact so_lload_n hd hK
  | dload n => exact so_dload hd hK
  | istore n => exact so_istore hd hK
  | istore_n n => exact so_istore_n hd hK
  | astore n => exact so_astore hd hK
  | astore_n n => exact so_astore_n hd hK
  | lstore n => exact so_lstore hd hK
  | lstore_n n => exact so_lstore_n hd hK
  | dstore n => exact so_dstore hd hK
  | iinc n d => exact so_iinc hd hK
  | iconst d => exact so_iconst hd hK
  | bipush d => exact so_bipush hd (by simpa [xI] using hx) hK
  | sipush d => exact so_sipush hd (by simpa [xI] using hx) hK
  | lconst d => exact so_lconst hd hK
  | fconst d => exact so_fconst hd (by simpa [xI] using hx) hK
  | ldc d =>
    refine so_ldc hd ?_ hK
    by_cases hy : y = 0
    · subst hy; exact Or.inl ⟨rfl, by simpa [xI] using hx⟩
    · have hx' : (2 ≤ x ∧ x < 18) ∧ (m_str[x - 2]?).map (fun q => (q.1, q.2.1)) = some (m_o k, d) := by
        simp only [xI] at hx
        simpa using hx
      obtain ⟨⟨a1, a2⟩, a3⟩ := hx'
      obtain ⟨q, b1, b2⟩ := Option.map_eq_some_iff.mp a3
      obtain ⟨q1, q2, q3⟩ := q
      cases b2
      exact Or.inr ⟨hy, a1, q3, b1⟩
  | ldc_w d => exact so_ldc_w hd (by simpa [xI] using hx) hK
  | ldc2_w d => exact so_ldc2_w hd (by simpa [xI] using hx) hK
  | iadd => exact so_iadd hd hK
  | isub => exact so_isub hd hK
  | imul => exact so_imul hd hK
  | idiv => exact so_idiv hd hK
  | irem => exact so_irem hd hK
  | iand => exact so_iand hd hK
  | ior => exact so_ior hd hK
  | ixor => exact so_ixor hd hK
  | ishl => exact so_ishl hd hK
  | ishr => exact so_ishr hd hK
  | iushr => exact so_iushr hd hK
  | ineg => exact so_ineg hd hK
  | ladd => exact so_ladd hd hK
  | lsub => exact so_lsub hd hK
  | lmul => exact so_lmul hd hK
  | ldiv => exact so_ldiv hd hK
  | lrem => exact so_lrem hd hK
  | lxor => exact so_lxor hd hK
  | lcmp => exact so_lcmp hd hK
  | dcmp op => exact so_dcmp hd hK
  | fdiv => exact so_fdiv hd hK
  | i2l => exact so_i2l hd hK
  | i2f => exact so_i2f hd hK
  | i2b => exact so_i2b hd hK
  | l2i => exact so_l2i hd hK
  | f2d => exact so_f2d hd hK
  | dup => exact so_dup hd hK
  | dup2 => exact so_dup2 hd hK
  | pop => exact so_pop hd hK
  | ifCond c off => exact so_ifCond hd (by simpa [xI] using hx) hK hJx
  | if_icmp c off => exact so_if_icmp hd (by simpa [xI] using hx) hK hJx
  | goto off => exact so_goto hd (by simpa [xI] using hx) hJx
  | tableswitch d lo hi offs =>
    simp only [xI, Bool.and_eq_true, decide_eq_true_eq, List.all_eq_true] at hx
    exact so_tsw hd hx.1.1 hx.1.2 hx.2 hJ
  | getfield idx =>
    simp only [xI, Bool.and_eq_true, decide_eq_true_eq] at hx
    exact so_getfield hd hx.1 (by rw [on_ok k hx.2.2]; exact flT_ok _ hx.2.1) hK
  | putfield idx =>
    simp only [xI, Bool.and_eq_true, decide_eq_true_eq] at hx
    obtain ⟨⟨⟨⟨a1, a2⟩, a3, a6⟩, a4⟩, a5⟩ := hx
    refine so_putfield hd a1 a2 (by rw [on_ok k a6]; exact flT_ok _ a3) ?_ ?_ hK
    · match z, a4 with
      | 0, a4 => exact Or.inl ⟨rfl, of_decide_eq_true a4⟩
      | 1, a4 => exact Or.inr (Or.inl ⟨rfl, of_decide_eq_true a4⟩)
      | 2, a4 => exact Or.inr (Or.inr (Or.inl ⟨rfl, of_decide_eq_true a4⟩))
      | n + 3, a4 => exact Or.inr (Or.inr (Or.inr ⟨by omega, of_decide_eq_true a4⟩))
    · intro hf
      rw [hf] at a5
      simpa using a5
  | getstatic idx => exact so_getstatic hd (by simpa [xI] using hx) hK
  | iaload => exact so_iaload hd hK
  | baload => exact so_baload hd (by simpa [xI] using hx) hK
  | caload => exact so_caload hd hK
  | laload => exact so_laload hd hK
  | aaload => exact so_aaload hd hK
  | iastore => exact so_iastore hd hK
  | bastore => exact so_bastore hd hK
  | castore => exact so_castore hd hK
  | lastore => exact so_lastore hd hK
  | aastore => exact so_aastore hd hK
  | arraylength => exact so_alen hd (by simpa [xI] using hx) hK
  | newarray t =>
    simp only [xI, Bool.and_eq_true, decide_eq_true_eq] at hx
    exact so_newarray hd hx.1.1 hx.1.2 hx.2 hK
  | anewarray idx => exact so_anewarray hd (by simpa [xI] using hx) hK
  | new idx =>
    refine so_new hd ?_ hK
    by_cases hz : z = 0
    · subst hz
      simp only [xI, Bool.and_eq_true, decide_eq_true_eq] at hx
      exact Or.inl ⟨rfl, hx.1.1.1, hx.1.1.2, hx.1.2, hx.2⟩
    · simp only [xI] at hx
      exact Or.inr ⟨hz, thI_of hx⟩
  | invokevirtual idx =>
    by_cases h3 : z = 3
    · subst h3
      simp only [xI, Bool.and_eq_true, decide_eq_true_eq] at hx
      exact so_slen hd hx.1 hx.2 hK
    · by_cases h4 : z = 4
      · subst h4
        simp only [xI, Bool.and_eq_true, decide_eq_true_eq] at hx
        exact so_schr hd hx.1 hx.2 hK
      · have hx' : (((((((((c_rm k x = true ∧ y = m_np x + 1) ∧ m_ki x = 1) ∧ (m_on k, idx, x) ∈ mlT) ∧ z - 10 = m_on x) ∧ z - 10 < 11) ∧ m_hh x = []) ∧ u = m_gc x ∧ v = m_gs x) ∧ k < 313 ∧ x < 312) ∧ (m_hh k = [] ∨ hdB k pc = true)) := by
          simp only [xI] at hx
          simpa only [Bool.and_eq_true, Bool.or_eq_true, decide_eq_true_eq, Bool.not_eq_true'] using hx
        obtain ⟨⟨⟨⟨⟨⟨⟨⟨⟨b1, b2⟩, b3⟩, b4⟩, b5⟩, b6⟩, b7⟩, b8⟩, b9, b10⟩, b11⟩ := hx'
        have hB := mB_ok x b10
        simp only [mB, b3, Bool.and_eq_true, decide_eq_true_eq, Bool.not_eq_true'] at hB
        have hlk : Cond.methodLink (m_o k) idx (m_y x) ∈ lw_tbl := by rw [on_ok k b9]; exact mlT_ok _ b4
        exact so_invV hd b1 (by rw [b2]; exact hB.1) (by omega) hlk hB.2.1.1 hB.2.1.2 (by rw [cn_ok _ b6, b5]; exact (on_ok x (by omega)).symm) b6 b7 b8 hB.2.2 b11 h3 h4 hK
  | invokespecial idx =>
    by_cases h1 : z = 1
    · subst h1
      simp only [xI, Bool.and_eq_true, decide_eq_true_eq] at hx
      exact so_objInit hd hx.1.1.1 hx.1.1.2 hx.1.2 hx.2 hK
    · have hx' : (((((((c_rm k x = true ∧ y = m_np x + 1) ∧ m_ki x = 2) ∧ ((m_on k, idx, x) ∈ mlT ∨ (m_on k, idx, x) ∈ mnT)) ∧ m_r x = none) ∧ m_hh x = []) ∧ u = m_gc x ∧ v = m_gs x) ∧ k < 313 ∧ x < 312) := by
        simp only [xI] at hx
        simpa only [Bool.and_eq_true, Bool.or_eq_true, decide_eq_true_eq] using hx
      obtain ⟨⟨⟨⟨⟨⟨⟨b1, b2⟩, b3⟩, b4⟩, b5⟩, b6⟩, b7⟩, b8, b9⟩ := hx'
      have hB := mB_ok x b9
      simp only [mB, b3, Bool.and_eq_true, decide_eq_true_eq] at hB
      refine so_invI hd b1 (by rw [b2]; exact hB.1) (by omega) ?_ hB.2.1 hB.2.2 b5 b6 b7 h1 hK
      rw [on_ok k b8]
      exact b4.imp (fun h => mlT_ok _ h) (fun h => mnT_ok _ h)
  | invokestatic idx =>
    by_cases h2 : z = 2
    · subst h2
      simp only [xI, Bool.and_eq_true, decide_eq_true_eq] at hx
      exact so_copy hd hx.1.1.1.1 hx.1.1.1.2 hx.1.1.2 hx.1.2 hx.2 hK
    · have hx' : (((((c_rm k x = true ∧ y = m_np x) ∧ m_ki x = 0) ∧ (m_on k, idx, x) ∈ mlT) ∧ u = m_gc x ∧ v = m_gs x) ∧ k < 313 ∧ x < 312) := by
        simp only [xI] at hx
        simpa only [Bool.and_eq_true, decide_eq_true_eq, Bool.not_eq_true'] using hx
      obtain ⟨⟨⟨⟨⟨b1, b2⟩, b3⟩, b4⟩, b5⟩, b6, b7⟩ := hx'
      have hB := mB_ok x b7
      simp only [mB, b3, Bool.and_eq_true, decide_eq_true_eq, Bool.not_eq_true'] at hB
      exact so_invS hd b1 (by rw [b2]; exact hB.1) (by rw [on_ok k b6]; exact mlT_ok _ b4) hB.2.1 b5 hB.2.2 h2 hK
  | ireturn => exact so_ireturn hd (by simpa [xI] using hx)
  | lreturn => exact so_lreturn hd (by simpa [xI] using hx)
  | freturn => exact so_freturn hd (by simpa [xI] using hx)
  | return_ => exact so_return hd (by simpa [xI] using hx)
  | _ => intro L st w g h; simp only [stW] at h
end ROWS14
/-- a stretch of code, entry by entry, is the method's -/
def vS (k : Nat) : List PI → Nat → Bool
  | [], _ => true
  | q :: l, fin => vI k q (match l with | [] => fin | r :: _ => r.1) && vS k l fin
def pc0 (l : List PI) (fin : Nat) : Nat := match l with | [] => fin | r :: _ => r.1
/-- A STRETCH OF CODE: what it asks is enough -/
theorem wp_ok {k : Nat} {J : Int → mK} {Q : mW → mO → Prop} {fin : Nat} (hJ : ∀ (t : Int) L st w g, 0 ≤ t → J t L st w g → RT k t.toNat L st w g Q) : ∀ (l : List PI), vS k l fin = true → ∀ L st w g, wpS k J Q l fin L st w g → RT k (pc0 l fin) L st w g Q
  | [], _, L, st, w, g, h => by
    have := hJ (fin : Int) L st w g (by omega) h
    rwa [Int.toNat_natCast] at this
  | q :: l, hv, L, st, w, g, h => by
    simp only [vS, Bool.and_eq_true] at hv
    exact st_ok (nx := pc0 l fin) hv.1 (fun L st w g h => wp_ok hJ l hv.2 L st w g h) hJ L st w g h
