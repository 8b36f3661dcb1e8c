section ROWS14
variable {k pc : Nat} {J : Int → mK} {Q : mW → mO → Prop} {K : mK} {x y z u v : Nat}
theorem Sim.kept {ba : Nat} {xa aC : Nat → Nat} {D : va_G} {w : mW} {s : State} {H H1 : Heap} (hM : Sim ba xa aC D w s H) (hz : H.size ≤ H1.size) (hk : ∀ q, q < H.size → H1[q]? = H[q]?) : Sim ba xa aC D w s H1 := by
  obtain ⟨m1, m2, m3, m4, m6, m7, m8, m9⟩ := hM
  exact ⟨m1.kept fun k q hq => hk _ ((m1 k q hq).lt), m2, m3, Nat.le_trans m4 hz, m6, m7.kept (hk _ (by omega)), m8, m9⟩
theorem va_S.no {A : Nat → Prop} {H0 H H1 : Heap} {locs locs1 : List Loc} (h : va_S A H0 H locs) (hz : H.size ≤ H1.size) (hk : ∀ q, q < H.size → H1[q]? = H[q]?) (hl : ∀ l ∈ locs1, A l.base) : va_S A H0 H1 locs1 :=
  ⟨Nat.le_trans h.1 hz, fun q a b => (hk q (Nat.lt_of_lt_of_le a h.1)).trans (h.2.1 q a b), hl⟩
set_option maxHeartbeats 4000000 in
theorem so_copy {idx : Nat} (hd : decode (m_c k) pc = .ok (.invokestatic idx, 3)) (hlk : Cond.methodLink (m_o k) idx arraycopyName ∈ lw_tbl) (hna : Cond.native arraycopyName ∈ lw_tbl) (hst : Cond.static arraycopyName ∈ lw_tbl) (hini : Cond.initialized "java/lang/System" ∈ lw_tbl) (hrm : 1 ≤ m_fr k ∧ 26 ≤ m_lo k) (hK : ∀ L st w g, K L st w g → RT k (pc + 3) L st w g Q) : ∀ L st w g, stW k J Q (pc, .invokestatic idx, 0, y, 2, u, v) K L st w g → RT k pc L st w g Q := by
  intro L st w g h
  simp only [stW] at h
  split at h
  · rename_i n dp b sp a r
    obtain ⟨ha, hb, g1, g2, g3, g4, g5, hr, h⟩ := h
    intro p l e R s m args below meth c ba D aC xa Qr C H locs cells slots ls hM hS hl h1 h2 h3
    have hea := hM.arr (t := 0) ha (by omega)
    have heb := hM.arr (t := 0) hb (by omega)
    rw [arc_i (by omega)] at hea heb
    have hfr := C.2.1.1
    have hlo := C.2.1.2.1
    have hw7 : nativeFrameWords "java/lang/System" "arraycopy" 5 = 7 := by decide +kernel
    have hc4 := cat_4 (ba := ba) (xa := xa) r hr
    exact va_copyi C.1.1 C.1.2.1 (by rw [C.1.2.2.1]; exact hl.1.1.symm) C.1.2.2.2.1 (T_at C.1.2.2.2.2.1 hlk rfl) (T_at C.1.2.2.2.2.1 hna rfl) (T_at C.1.2.2.2.2.1 hst rfl) (T_at C.1.2.2.2.2.1 hini rfl) C.2.1.2.2.1 hM.1 wld_D hS.at (ix w a) (ix w b) 0 0 hea heb (tys_at aC (by omega)) (tys_at aC (by omega)) rfl g1 g2 g3 g4 g5 (fun _ _ => rfl) (by omega) (by rw [hw7]; omega) hd
      (arr_go (w' := s_A w b (va_cpy (w_I w a) (w_I w b) sp.toNatClampNeg dp.toNatClampNeg n.toNatClampNeg)) C hM hS (by omega) rfl rfl (I0_A (hM.n0 (by omega))) (fun b' hb' => cel_A hb') (cel_Aa (t := 0) hb (by omega)) (fun H1 locs1 hM1 hS1 => hK _ _ _ _ h p l e R s m args below meth c ba D aC xa Qr C H1 locs1 cells slots ls hM1 hS1 hl h1 h2 h3))
  · exact h.elim
theorem s_fit : ∀ {j i : Nat}, j < 16 → i < s_len j → fits .byte (.int (s_ch j i)) = true := by
  have h : ∀ j, j < 16 → ∀ i, i < s_len j → fits .byte (.int (s_ch j i)) = true := by decide +kernel
  intro j i hj hi
  exact h j hj i hi
/-- bytes out of a row that never changes -/
theorem copyT {p : Program} {l : Launch} {e : Env} {R : Room} {s : State} {m : MethodId} {args : Array Value} {below : List Frame} {meth : Method} {c : Code} {H : Heap} {locs : List Loc} {cells slots : Nat} {Q : State → Prop} {cc : ByteArray} {pc : Nat} {ls : Array Slot} {rest : List Value} {D : va_G} {cl : List vw_C} {A : Nat → Prop} {a : Nat} {tys : List (ClassId × FieldType)} {ws : va_W}
    (hexec : p.tables.exec = Jvm.exec) (hb : c.code = cc) (hml : c.maxLocals = ls.size) {own : String} {index : Nat} (hown : s.vm.findClass own = some m.cls) (hlink : (Cond.methodLink own index arraycopyName).before args s = true) (hnat : (Cond.native arraycopyName).before args s = true) (hstat : (Cond.static arraycopyName).before args s = true) (hini : (Cond.initialized "java/lang/System").before args s = true)
    (hK : va_K D cl tys s) (hP : va_P D cl ws H) (hD : va_D A ws) (hS : va_S A s.heap H locs) {b0 n0 : Nat} {f : Nat → Int32} (hX : va_T .byte b0 n0 (fun j => .int (f j)) A s s.heap) (q1 t1 : Nat) {c1 : ClassId} {n1 : Nat} {g : Nat → Int32} (ha1 : ws[q1]? = some (a, .inl (c1, n1, .inl g))) (ht1 : tys[t1]? = some (c1, .byte))
    {sp dp n : Int32} (h1 : ¬ sp < 0) (h2 : ¬ dp < 0) (h3 : ¬ n < 0) (h4 : sp.toNatClampNeg + n.toNatClampNeg ≤ n0) (h5 : dp.toNatClampNeg + n.toNatClampNeg ≤ n1) (hfit : ∀ i : Nat, i < n.toNatClampNeg → fits .byte (.int (f (sp.toNatClampNeg + i))) = true)
    (hframes : 1 ≤ R.frames) (hlocals : (rest.map fun v => v.category).sum + (nativeFrameWords "java/lang/System" "arraycopy" 5 + 11) ≤ R.locals) (hdg : decode cc pc = .ok (.invokestatic index, 3))
    (kk : ∀ (H1 : Heap) (locs1 : List Loc), va_P D cl (ws.set q1 (a, .inl (c1, n1, .inl (va_cpy f g sp.toNatClampNeg dp.toNatClampNeg n.toNatClampNeg)))) H1 → va_D A (ws.set q1 (a, .inl (c1, n1, .inl (va_cpy f g sp.toNatClampNeg dp.toNatClampNeg n.toNatClampNeg)))) → va_S A H H1 locs1 → W p l e R s m args below meth c H1 locs1 cells slots Q (F0 m (pc + 3) ls rest)) : W p l e R s m args below meth c H locs cells slots Q (F0 m pc ls (.int n :: .int dp :: .ref a :: .int sp :: .ref b0 :: rest)) := by
  have nn : ∀ z : Int32, ¬ z < 0 → z.toInt = (z.toNatClampNeg : Int) := fun z hz => by
    have hz0 : (0 : Int) ≤ z.toInt := by
      have := Int32.not_lt.mp hz
      simpa using Int32.le_iff_toInt_le.mp this
    show z.toInt = ((z.toInt.toNat : Nat) : Int)
    omega
  intro T hT X
  obtain ⟨scr, y1, y2, y3, y4, -, y5, y7⟩ := hX
  have hc0 : H[b0]? = some scr := by rw [hS.2.1 b0 (Array.getElem?_eq_some_iff.mp y1).1 y7]; exact y1
  have hc1 : H[a]? = some (vp_cell c1 (n1, .inl g)) := hP q1 _ ha1
  obtain ⟨y6, k0, hk0, cm0, hkk0⟩ := y2
  obtain ⟨-, k1, hk1, cm1, hkk1⟩ := (hK.2 t1 _ ht1).1 n1 (fun j => .int (g j))
  obtain ⟨vm', X', step⟩ := X.arraycopy hexec hown hlink hnat hstat hini (src := b0) (dst := a) (cs := scr) (cd := vp_cell c1 (n1, .inl g)) (srcPos := sp) (destPos := dp) (n := n) (by rw [hT]; exact hc0) (by rw [hT]; exact hc1)
    y6 (fun _ h => by cases h) y3 (fun h => by cases h) hk0 hk1 hkk0 hkk1 (by simp [refKind]) h1 h2 h3
    (by rw [nn sp h1, nn n h3]; omega)
    (by rw [nn dp h2, nn n h3]; show ¬ _ > ((arrV c1 n1 (fun j => .int (g j))).slots.size : Int); rw [arrV_size]; omega)
    (fun vm₁ _ i hi => by
      have e : scr.slots.getD (sp.toNatClampNeg + i) .null = .int (f (sp.toNatClampNeg + i)) := by
        rw [Array.getD_eq_getD_getElem?, y5 _ (by omega)]
        rfl
      rw [e]
      exact ⟨hfit i hi, trivial⟩)
    (g := F0 m pc ls (.int n :: .int dp :: .ref a :: .int sp :: .ref b0 :: rest)) rfl (by rw [hml]) (rest := rest) rfl (by rw [hb]; exact hdg) hframes (by show 2 * 0 + _ + _ ≤ _; omega)
  have e1 : copied scr (vp_cell c1 (n1, .inl g)) sp dp n = vp_cell c1 (n1, .inl (va_cpy f g sp.toNatClampNeg dp.toNatClampNeg n.toNatClampNeg)) := va_copiedX (fun z => .int z) scr c1 f g y5 h4
  rw [e1] at X' step
  have hl : a < H.size := (Array.getElem?_eq_some_iff.mp hc1).1
  generalize hce : vp_cell c1 (n1, .inl (va_cpy f g sp.toNatClampNeg dp.toNatClampNeg n.toNatClampNeg)) = ce at X' step
  have hheap : ((T.setVm vm').setCell a ce).heap = H.setIfInBounds a ce := by rw [← hT]; rfl
  have oq : ∀ q : Nat, q ≠ a → (H.setIfInBounds a ce)[q]? = H[q]? := fun q hq => by simp [Array.getElem?_setIfInBounds, Ne.symm hq]
  have hat : (H.setIfInBounds a ce)[a]? = some ce := by simp [Array.getElem?_setIfInBounds, hl]
  obtain ⟨t, a1, b1⟩ := kk _ _ (hP.set hD ha1 (show (H.setIfInBounds a ce)[a]? = some (vp_cell _ _) by rw [hce]; exact hat) oq) (hD.set ha1) ⟨by simp, fun q g1 g2 => oq q (fun e => g2 (by rw [e]; exact hD.2 q1 _ ha1)), fun q hq => by
      rcases List.mem_append.mp hq with h | h
      · exact hS.2.2 q h
      · obtain ⟨z, -, hz⟩ := List.mem_map.mp h
        rw [← hz]
        exact hD.2 q1 _ ha1⟩ _ hheap X'
  exact ⟨t, step t a1, b1⟩
set_option maxHeartbeats 4000000 in
/-- .. of bytes, a constant text's too -/
theorem so_copyB {idx : Nat} (hd : decode (m_c k) pc = .ok (.invokestatic idx, 3)) (hlk : Cond.methodLink (m_o k) idx arraycopyName ∈ lw_tbl) (hna : Cond.native arraycopyName ∈ lw_tbl) (hst : Cond.static arraycopyName ∈ lw_tbl) (hini : Cond.initialized "java/lang/System" ∈ lw_tbl) (hrm : 1 ≤ m_fr k ∧ 26 ≤ m_lo k) (hK : ∀ L st w g, K L st w g → RT k (pc + 3) L st w g Q) : ∀ L st w g, stW k J Q (pc, .invokestatic idx, 2, y, 2, u, v) K L st w g → RT k pc L st w g Q := by
  intro L st w g h
  simp only [stW] at h
  split at h
  · rename_i n dp b sp a0 r
    obtain ⟨a, ha0⟩ : ∃ n : Nat, n = a0 := ⟨a0, rfl⟩
    subst ha0
    obtain ⟨hb, g1, g2, g3, g5, hr, hc, hw⟩ := h
    simp only [Nat.lt_eq, Nat.le_eq] at hc hw
    intro p l e R s m args below meth c ba D aC xa Qr C H locs cells slots ls hM hS hl h1 h2 h3
    have heb := hM.arr (t := 2) hb (by omega)
    rw [arc_i (by omega)] at heb
    have hfr := C.2.1.1
    have hlo := C.2.1.2.1
    have hw7 : nativeFrameWords "java/lang/System" "arraycopy" 5 = 7 := by decide +kernel
    have hc4 := cat_4 (ba := ba) (xa := xa) r hr
    by_cases ha : @LT.lt Nat instLTNat a 100
    · obtain ⟨ha1, ha2, g4, h⟩ := hc ha
      have hl16 : m_str.length = 16 := rfl
      have hj : m_str[a - 52]? = some (m_str[a - 52]'(by omega)) := List.getElem?_eq_getElem (by omega)
      have hf := (C.2.1.2.2.2.2.1.2.2.2.2.2.2.2.2.2.2.2.1 (a - 52) _ hj).2
      rw [show 52 + (a - 52) = a by omega] at hf
      have hz := Nat.le_trans C.2.1.2.2.2.1 hS.1
      have hfit : ∀ i : Nat, i < n.toNatClampNeg → fits .byte (.int (s_ch (a - 52) (sp.toNatClampNeg + i))) = true := fun i hi => s_fit (by omega) (by omega)
      have e1 : trv ba xa (.ref a) = .ref (xa a) := by simp [trv, sgm, show a < 100 by omega]
      rw [List.map_cons, List.map_cons, List.map_cons, List.map_cons, List.map_cons, e1]
      exact copyT C.1.1 C.1.2.1 (by rw [C.1.2.2.1]; exact hl.1.1.symm) C.1.2.2.2.1 (T_at C.1.2.2.2.2.1 hlk rfl) (T_at C.1.2.2.2.2.1 hna rfl) (T_at C.1.2.2.2.2.1 hst rfl) (T_at C.1.2.2.2.2.1 hini rfl) C.2.1.2.2.1 hM.1 wld_D hS hf (ix w b) 2 heb (tys_at aC (by omega)) g1 g2 g3 g4 g5 hfit (by omega) (by rw [hw7]; omega) hd
        (arr_go (w' := s_A w b (va_cpy (s_ch (a - 52)) (w_I w b) sp.toNatClampNeg dp.toNatClampNeg n.toNatClampNeg)) C hM hS (by omega) rfl rfl (I0_A (hM.n0 (by omega))) (fun b' hb' => cel_A hb') (cel_Aa (t := 2) hb (by omega)) (fun H1 locs1 hM1 hS1 => hK _ _ _ _ h p l e R s m args below meth c ba D aC xa Qr C H1 locs1 cells slots ls hM1 hS1 hl h1 h2 h3))
    · obtain ⟨ha3, hfit, g4, h⟩ := hw (by omega)
      have hea := hM.arr (t := 2) ha3 (by omega)
      rw [arc_i (by omega)] at hea
      exact va_copyi C.1.1 C.1.2.1 (by rw [C.1.2.2.1]; exact hl.1.1.symm) C.1.2.2.2.1 (T_at C.1.2.2.2.2.1 hlk rfl) (T_at C.1.2.2.2.2.1 hna rfl) (T_at C.1.2.2.2.2.1 hst rfl) (T_at C.1.2.2.2.2.1 hini rfl) C.2.1.2.2.1 hM.1 wld_D hS.at (ix w a) (ix w b) 2 2 hea heb (tys_at aC (by omega)) (tys_at aC (by omega)) rfl g1 g2 g3 g4 g5 hfit (by omega) (by rw [hw7]; omega) hd
        (arr_go (w' := s_A w b (va_cpy (w_I w a) (w_I w b) sp.toNatClampNeg dp.toNatClampNeg n.toNatClampNeg)) C hM hS (by omega) rfl rfl (I0_A (hM.n0 (by omega))) (fun b' hb' => cel_A hb') (cel_Aa (t := 2) hb (by omega)) (fun H1 locs1 hM1 hS1 => hK _ _ _ _ h p l e R s m args below meth c ba D aC xa Qr C H1 locs1 cells slots ls hM1 hS1 hl h1 h2 h3))
  · exact h.elim
theorem so_ireturn (hd : decode (m_c k) pc = .ok (.ireturn, 1)) (hr : m_r k = some .int ∨ m_r k = some .boolean ∨ m_r k = some .byte ∨ m_r k = some .char) : ∀ L st w g, stW k J Q (pc, .ireturn, x, y, z, u, v) K L st w g → RT k pc L st w g Q := by
  intro L st w g h
  simp only [stW] at h
  split at h
  · rename_i a
    intro p l e R s m args below meth c ba D aC xa Qr C H locs cells slots ls hM hS hl h1 h2 h3
    have hq : Q w (.inl (some (.int a))) ∧ ∃ ty, m_r k = some ty ∧ narrow ty (.int a) = .int a := by
      rcases hr with hr | hr | hr | hr
      · rw [hr] at h; exact ⟨h, _, hr, rfl⟩
      · rw [hr] at h; obtain ⟨h01, h⟩ := h; exact ⟨h, _, hr, by rcases h01 with rfl | rfl <;> rfl⟩
      · rw [hr] at h; obtain ⟨h01, h⟩ := h; exact ⟨h, _, hr, by rcases h01 with rfl | rfl <;> rfl⟩
      · rw [hr] at h
        obtain ⟨c1, c2, h⟩ := h
        refine ⟨h, _, hr, ?_⟩
        have e : a = nI a.toInt.toNat := by
          apply Int32.toInt_inj.mp
          rw [nI_toInt (by omega)]
          omega
        rw [e]
        exact (pk_charN (by omega)).1
    obtain ⟨hq, ty, e1, e2⟩ := hq
    exact C.2.2.1 w (some (.int a)) H locs cells slots pc ls hq hM hS (by omega) (by omega) ⟨ty, e1, e2, hd⟩
  · exact h.elim
theorem so_areturn (hd : decode (m_c k) pc = .ok (.areturn, 1)) (hr : ∃ rt, m_r k = some rt ∧ ((∃ n, rt = .object n) ∨ ∃ t, rt = .array t)) : ∀ L st w g, stW k J Q (pc, .areturn, x, y, z, u, v) K L st w g → RT k pc L st w g Q := by
  intro L st w g h
  simp only [stW] at h
  split at h
  · rename_i a
    intro p l e R s m args below meth c ba D aC xa Qr C H locs cells slots ls hM hS hl h1 h2 h3
    exact C.2.2.1 w (some (.ref a)) H locs cells slots pc ls h hM hS (by omega) (by omega) ⟨hr, hd⟩
  · exact h.elim
theorem ad_nm {s : State} {D : va_G} {aC : Nat → Nat} {x : Nat} (hK : va_K D vwCl (m_tys aC) s) (hx : x = 0 ∨ x = 2) : s.vm.findClass (m_ad x) = some (aC x) := by
  rcases hx with rfl | rfl
  · exact (hK.2 0 _ (tys_at aC (by omega))).2
  · exact (hK.2 2 _ (tys_at aC (by omega))).2
set_option maxHeartbeats 4000000 in
theorem so_checkcast {idx : Nat} (hd : decode (m_c k) pc = .ok (.checkcast idx, 3)) (hx : x = 0 ∨ x = 2) (hlk : Cond.classLink (m_o k) idx (m_ad x) ∈ lw_tbl) (hK : ∀ L st w g, K L st w g → RT k (pc + 3) L st w g Q) : ∀ L st w g, stW k J Q (pc, .checkcast idx, x, y, z, u, v) K L st w g → RT k pc L st w g Q := by
  intro L st w g h
  simp only [stW] at h
  split at h
  · rename_i a r
    obtain ⟨hsh, h⟩ := h
    intro p l e R s m args below meth c ba D aC xa Qr C H locs cells slots ls hM hS hl h1 h2 h3
    have he := hM.arr (t := x) hsh (by omega)
    exact va_castA C.1.1 C.1.2.1 C.1.2.2.2.1 (T_at C.1.2.2.2.2.1 hlk rfl) hM.1 (ix w a) he (ad_nm C.2.1.2.2.1 hx) hd (hK _ _ _ _ h p l e R s m args below meth c ba D aC xa Qr C H locs cells slots ls hM hS hl h1 h2 h3)
  · exact h.elim
set_option maxHeartbeats 4000000 in
/-- a row's copy -/
theorem co_clone {idx a ga gb : Nat} {r L : List Value} {w : mW} (hd : decode (m_c k) pc = .ok (.invokevirtual idx, 3)) (hx : x = 0 ∨ x = 2) (hlk : Cond.methodLink (m_o k) idx ⟨m_ad x, "clone", "()Ljava/lang/Object;"⟩ ∈ lw_tbl) (hsm : Cond.sameMethod (m_ad x) "java/lang/Object" "clone" "()Ljava/lang/Object;" ∈ lw_tbl) (hna : Cond.native objClone ∈ lw_tbl) (him : Cond.instanceMethod objClone ∈ lw_tbl)
    (hse : Cond.selects (m_ad x) ⟨m_ad x, "clone", "()Ljava/lang/Object;"⟩ objClone ∈ lw_tbl) (hca : Cond.castable (m_ad x) "java/lang/Cloneable" ∈ lw_tbl) (hrm : 1 ≤ m_fr k ∧ 26 ≤ m_lo k) (hsh : (w_sh w a).1 = x + 1) (hfit : x = 2 → ∀ i, i < (w_sh w a).2 → fits .byte (.int (w_I w a i)) = true) (hr : v_ct r ≤ 8) (hg1 : 1 ≤ ga) (hg2 : (w_sh w a).2 ≤ gb)
    (h : RT k (pc + 3) L (.ref (100 + w_n w) :: r) (s_C w a) (ga - 1, gb - (w_sh w a).2, true) Q) : RT k pc L (.ref a :: r) w (ga, gb, true) Q := by
  intro p l e R s m args below meth c ba D aC xa Qr C H locs cells slots ls hM hS hl h1 h2 h3
  refine W.sz fun hsz => ?_
  have hz : H.size = ba + w_n w := by have := h3 rfl; have := hM.2.2.2.1; omega
  have he := hM.arr (t := x) hsh (by omega)
  rw [arc_i (by omega)] at he
  have hfr := C.2.1.1
  have hlo := C.2.1.2.1
  have h1' : cells + ga ≤ R.cells := h1
  have h2' : slots + gb ≤ R.slots := h2
  have hc4 := cat_4 (ba := ba) (xa := xa) r hr
  have hts := C.1.2.2.2.2.1
  have hcl : va_Nw (.castable (m_ad x) "java/lang/Cloneable") s := C.2.1.2.2.2.2.1.2.2.2.2.2.2.2.2.1 _ (List.mem_filter.mpr ⟨hca, rfl⟩)
  obtain ⟨c0, t0', f1, f2, f3⟩ := Cond.castable_spec (hcl.use (A := args) rfl)
  have hnm := ad_nm C.2.1.2.2.1 hx
  cases hnm.symm.trans f1
  have htx := tys_at aC (t := x) (by omega)
  intro T hT X
  have hcell := hM.1 (ix w a) _ he
  have hcellT : T.heap[sgm ba xa a]? = some (vp_cell (aC x) ((w_sh w a).2, .inl (w_I w a))) := by rw [hT]; exact hcell
  obtain ⟨-, kA, hkA, comp, hkind⟩ := State.isArrayOf_alike X.warmed.alike ((C.2.1.2.2.1.2 x _ htx).1 0 (fun _ => .null))
  obtain ⟨-, kS, hkS, compS, hkindS⟩ := (C.2.1.2.2.1.2 x _ htx).1 0 (fun _ => .null)
  have hsl : (vp_cell (aC x) ((w_sh w a).2, .inl (w_I w a))).slots.size = (w_sh w a).2 := arrV_size _ _ _
  obtain ⟨vm', X', st⟩ := X.cloneArray C.1.1 C.1.2.2.2.1 (T_at hts hlk rfl) (T_at hts hsm rfl) (T_at hts hna rfl) (T_at hts him rfl) (T_at hts hse rfl) (a := sgm ba xa a) (cell := vp_cell (aC x) ((w_sh w a).2, .inl (w_I w a))) hcellT (fun k h => by cases h) (fun h => by cases h) hnm f2 f3
    (fun i v hv => by
      have hk' : T.vm.classes[aC x]? = some kA := hkA
      have hi : i < (w_sh w a).2 := by rw [← hsl]; exact (Array.getElem?_eq_some_iff.mp hv).1
      have hv' : v = .int (w_I w a i) := by
        have e := arrV_read (aC x) (fun j => Value.int (w_I w a j)) hi
        exact Option.some.inj (hv.symm.trans e)
      have hf : fits (m_el x) v = true := by
        rw [hv']
        rcases hx with rfl | rfl
        · rfl
        · exact hfit rfl i hi
      have e9 : (vp_cell (aC x) ((w_sh w a).2, .inl (w_I w a))).cls = aC x := rfl
      rw [e9]
      simpa [State.fitsSlot, State.slotType?, hk', hkind] using hf)
    (g := F0 m pc ls (.ref (sgm ba xa a) :: r.map (trv ba xa))) rfl (by show ls.size = _; rw [C.1.2.2.1]; exact hl.1.1) rfl (by rw [C.1.2.1]; exact hd) (by omega) (by show 2 * 0 + _ + 14 ≤ _; omega) (by omega) (by rw [hsl]; omega) (hloader := Vm.clonesLoader_of_array hkS hkindS)
  have hcellE : ({ cls := (vp_cell (aC x) ((w_sh w a).2, .inl (w_I w a))).cls, slots := (vp_cell (aC x) ((w_sh w a).2, .inl (w_I w a))).slots } : Cell) = vp_cell (aC x) ((w_sh w a).2, .inl (w_I w a)) := rfl
  rw [hcellE, hsl] at X'
  rw [hcellE] at st
  generalize hce : vp_cell (aC x) ((w_sh w a).2, .inl (w_I w a)) = ce at X' st hcell
  generalize hH1 : H.push ce = H1
  have z1 : H1.size = H.size + 1 := by rw [← hH1, Array.size_push]
  have e1 : H1[H.size]? = some ce := by rw [← hH1, Array.getElem?_push_size]
  have o1 : ∀ q : Nat, q < H.size → H1[q]? = H[q]? := fun q hq => by rw [← hH1, Array.getElem?_push, if_neg (Nat.ne_of_lt hq)]
  obtain ⟨hM1, hS1⟩ := hM.copy hz hS z1 o1 hsh (by omega) (by rw [hce]; exact e1)
  have := h p l e R s m args below meth c ba D aC xa Qr C H1 locs (cells + 1) (slots + (w_sh w a).2) ls hM1 hS1 hl (by show _ + (ga - 1) ≤ _; omega) (by show _ + (gb - _) ≤ _; omega) (fun q => by have := h3 q; show ba + (w_n w + 1) = _; omega)
  have e4 : trv ba xa (.ref (100 + w_n w)) = .ref H.size := by show Value.ref (sgm ba xa (100 + w_n w)) = _; rw [sgm, if_neg (by omega), hz, Nat.add_sub_cancel_left]
  rw [List.map_cons, e4] at this
  obtain ⟨t, b1, b2⟩ := this _ (by rw [← hH1, ← hT]; rfl) X'
  refine ⟨t, st t ?_, b2⟩
  rw [hT]
  exact b1
theorem so_clone {idx : Nat} (hd : decode (m_c k) pc = .ok (.invokevirtual idx, 3)) (hx : x = 0 ∨ x = 2) (hlk : Cond.methodLink (m_o k) idx ⟨m_ad x, "clone", "()Ljava/lang/Object;"⟩ ∈ lw_tbl) (hsm : Cond.sameMethod (m_ad x) "java/lang/Object" "clone" "()Ljava/lang/Object;" ∈ lw_tbl) (hna : Cond.native objClone ∈ lw_tbl) (him : Cond.instanceMethod objClone ∈ lw_tbl)
    (hse : Cond.selects (m_ad x) ⟨m_ad x, "clone", "()Ljava/lang/Object;"⟩ objClone ∈ lw_tbl) (hca : Cond.castable (m_ad x) "java/lang/Cloneable" ∈ lw_tbl) (hrm : 1 ≤ m_fr k ∧ 26 ≤ m_lo k) (hK : ∀ L st w g, K L st w g → RT k (pc + 3) L st w g Q) : ∀ L st w g, stW k J Q (pc, .invokevirtual idx, x, y, 6, u, v) K L st w g → RT k pc L st w g Q := by
  intro L st w g h
  simp only [stW] at h
  split at h
  · rename_i a r
    obtain ⟨hsh, hfit, hr, hg1, hg2, h⟩ := h
    obtain ⟨ga, gb, md⟩ := g
    cases md with
    | true => exact co_clone hd hx hlk hsm hna him hse hca hrm hsh hfit hr hg1 hg2 (hK _ _ _ _ h)
    | false => exact RT.sync fun q hq => co_clone (w := s_K w q) hd hx hlk hsm hna him hse hca hrm hsh hfit hr hg1 hg2 ((hK _ _ _ _ (h q hq)).gas (Nat.le_refl _) (Nat.le_refl _) rfl)
  · exact h.elim
theorem so_lreturn (hd : decode (m_c k) pc = .ok (.lreturn, 1)) (hr : m_r k = some .long) : ∀ L st w g, stW k J Q (pc, .lreturn, x, y, z, u, v) K L st w g → RT k pc L st w g Q := by
  intro L st w g h
  simp only [stW] at h
  split at h
  · rename_i a
    intro p l e R s m args below meth c ba D aC xa Qr C H locs cells slots ls hM hS hl h1 h2 h3
    exact C.2.2.1 w (some (.long a)) H locs cells slots pc ls h hM hS (by omega) (by omega) ⟨hr, hd⟩
  · exact h.elim
theorem so_freturn (hd : decode (m_c k) pc = .ok (.freturn, 1)) (hr : m_r k = some .float) : ∀ L st w g, stW k J Q (pc, .freturn, x, y, z, u, v) K L st w g → RT k pc L st w g Q := by
  intro L st w g h
  simp only [stW] at h
  split at h
  · rename_i a
    intro p l e R s m args below meth c ba D aC xa Qr C H locs cells slots ls hM hS hl h1 h2 h3
    exact C.2.2.1 w (some (.float a)) H locs cells slots pc ls h hM hS (by omega) (by omega) ⟨hr, hd⟩
  · exact h.elim
theorem so_return (hd : decode (m_c k) pc = .ok (.return_, 1)) (hr : m_r k = none) : ∀ L st w g, stW k J Q (pc, .return_, x, y, z, u, v) K L st w g → RT k pc L st w g Q := by
  intro L st w g h
  simp only [stW] at h
  split at h
  · intro p l e R s m args below meth c ba D aC xa Qr C H locs cells slots ls hM hS hl h1 h2 h3
    exact C.2.2.1 w none H locs cells slots pc ls h hM hS (by omega) (by omega) ⟨hr, hd⟩
  · exact h.elim
theorem str_at {a : Nat} (h1 : 2 ≤ a) (h2 : a < 18) : ∃ q, m_str[a - 2]? = some q := ⟨m_str[a - 2]'(by show a - 2 < 16; omega), List.getElem?_eq_getElem _⟩
theorem str_sg {ba : Nat} {xa : Nat → Nat} {a : Nat} (h1 : 2 ≤ a) (h2 : a < 18) : trv ba xa (.ref a) = .ref (xa (2 + (a - 2))) := by
  show Value.ref (sgm ba xa a) = _
  rw [sgm, if_pos (by omega), show 2 + (a - 2) = a by omega]
set_option maxHeartbeats 4000000 in
theorem so_slen {idx : Nat} (hd : decode (m_c k) pc = .ok (.invokevirtual idx, 3)) (hlk : Cond.methodLink (m_o k) idx yJ0_length_8abf5 ∈ lw_tbl) (hrm : 4 ≤ m_fr k ∧ 106 ≤ m_lo k) (hK : ∀ L st w g, K L st w g → RT k (pc + 3) L st w g Q) : ∀ L st w g, stW k J Q (pc, .invokevirtual idx, x, y, 3, u, v) K L st w g → RT k pc L st w g Q := by
  intro L st w g h
  simp only [stW] at h
  split at h
  · rename_i a r
    obtain ⟨ha1, ha2, hr, h⟩ := h
    intro p l e R s m args below meth c ba D aC xa Qr C H locs cells slots ls hM hS hl h1 h2 h3
    obtain ⟨q, hj⟩ := str_at ha1 ha2
    have hRO := C.2.1.2.2.2.2.1
    have hfr := C.2.1.1
    have hlo := C.2.1.2.1
    have hgi : GoodIn lw_T (wsV (m_o k) idx RJ0 yJ0_length_8abf5 (wj yJ0_length_8abf5 cJ0_length_8abf5 1 (some .int))) := gi_T fun w hw => by
      simp only [wsV, List.cons_append, List.nil_append, List.mem_cons] at hw
      rcases hw with rfl | rfl | rfl | rfl | hw
      · exact T_mem hlk rfl
      · exact T_mem (by decide +kernel) rfl
      · exact T_mem (by decide +kernel) rfl
      · exact T_mem (by decide +kernel) rfl
      · exact wj_in (by decide +kernel) _ hw
    obtain ⟨va, s0, s1, s2, s3⟩ := hRO.2.2.2.2.2.1 (a - 2) q hj
    obtain ⟨cell, g1, g2, g3, -⟩ := s0.kept hS.2.1
    rw [List.map_cons, str_sg ha1 ha2]
    refine va_calli (va_runV (As := []) (rest := r.map (trv ba xa)) ⟨C.1.1, C.1.2.1, C.1.2.2.1, C.1.2.2.2.1, C.1.2.2.2.2.1⟩ (c_length (ba := ba) (xa := xa) l hj) (cwV 0 C.1.2.2.2.2.1 hgi rfl rfl rfl (by decide +kernel) ⟨by show 1 + 1 ≤ _; omega, by show 8 + (1 + 11) + 20 ≤ _; omega⟩) ⟨sB.blind, ⟨cell, g1, g2, g3⟩, fun U hU hW => ⟨rfl, by show RO ba xa U U.heap; rw [hU]; exact (hRO.kept hS.2.1).warm hW⟩⟩ rfl rfl hl.1.1 rfl (lv_room (cat_4 r hr)) hd ⟨by omega, by omega⟩) hS (fun q _ h => h.elim) (fun q h => h.elim) (fun r' u' t H1 locs1 ht hvm hw hB hz1 hk1 hS1 => ?_)
    subst hw
    exact hK _ _ _ _ h p l e R s m args below meth c ba D aC xa Qr C H1 locs1 _ _ ls (hM.kept hz1 (fun q hq => hk1 q hq (fun z => z))) hS1 hl (by omega) (by omega) (fun q => by have := h3 q; omega)
  · exact h.elim
set_option maxHeartbeats 4000000 in
theorem so_schr {idx : Nat} (hd : decode (m_c k) pc = .ok (.invokevirtual idx, 3)) (hlk : Cond.methodLink (m_o k) idx yJ0_charAt_5068e ∈ lw_tbl) (hrm : 4 ≤ m_fr k ∧ 106 ≤ m_lo k) (hK : ∀ L st w g, K L st w g → RT k (pc + 3) L st w g Q) : ∀ L st w g, stW k J Q (pc, .invokevirtual idx, x, y, 4, u, v) K L st w g → RT k pc L st w g Q := by
  intro L st w g h
  simp only [stW] at h
  split at h
  · rename_i b a r
    obtain ⟨ha1, ha2, hin, hr, h⟩ := h
    intro p l e R s m args below meth c ba D aC xa Qr C H locs cells slots ls hM hS hl h1 h2 h3
    have h16 : a - 2 < 16 := (show ∀ n : Nat, n < 18 → n - 2 < 16 from fun n h => by omega) a ha2
    obtain ⟨q, hj⟩ := str_at ha1 ha2
    have hRO := C.2.1.2.2.2.2.1
    have hfr := C.2.1.1
    have hlo := C.2.1.2.1
    have hgi : GoodIn lw_T (wsV (m_o k) idx RJ0 yJ0_charAt_5068e (wj yJ0_charAt_5068e cJ0_charAt_5068e 2 (some .char))) := gi_T fun w hw => by
      simp only [wsV, List.cons_append, List.nil_append, List.mem_cons] at hw
      rcases hw with rfl | rfl | rfl | rfl | hw
      · exact T_mem hlk rfl
      · exact T_mem (by decide +kernel) rfl
      · exact T_mem (by decide +kernel) rfl
      · exact T_mem (by decide +kernel) rfl
      · exact wj_in (by decide +kernel) _ hw
    obtain ⟨va, s0, s1, s2, s3⟩ := hRO.2.2.2.2.2.1 (a - 2) q hj
    obtain ⟨cell, g1, g2, g3, -⟩ := s0.kept hS.2.1
    rw [List.map_cons, List.map_cons, str_sg ha1 ha2]
    refine va_calli (va_runV (As := [.int b]) (rest := r.map (trv ba xa)) ⟨C.1.1, C.1.2.1, C.1.2.2.1, C.1.2.2.2.1, C.1.2.2.2.2.1⟩ (c_chr (ba := ba) (xa := xa) l hj h16 hin) (cwV 1 C.1.2.2.2.2.1 hgi rfl rfl rfl (by decide +kernel) ⟨by show 3 + 1 ≤ _; omega, by show 8 + (2 + 11) + 85 ≤ _; omega⟩) ⟨sB.blind, ⟨cell, g1, g2, g3⟩, fun U hU hW => ⟨rfl, by show RO ba xa U U.heap; rw [hU]; exact (hRO.kept hS.2.1).warm hW⟩⟩ rfl rfl hl.1.1 rfl (lv_room (cat_4 r hr)) hd ⟨by omega, by omega⟩) hS (fun q _ h => h.elim) (fun q h => h.elim) (fun r' u' t H1 locs1 ht hvm hw hB hz1 hk1 hS1 => ?_)
    subst hw
    exact hK _ _ _ _ h p l e R s m args below meth c ba D aC xa Qr C H1 locs1 _ _ ls (hM.kept hz1 (fun q hq => hk1 q hq (fun z => z))) hS1 hl (by omega) (by omega) (fun q => by have := h3 q; omega)
  · exact h.elim
theorem cast_in : ∀ E, E < 4 → Cond.castable (m_E E) (m_E E) ∈ lw_tbl := by decide +kernel
set_option maxHeartbeats 4000000 in
/-- a wrapper's handler answers -1000 -/
theorem catch_go {p : Program} {l : Launch} {e : Env} {R : Room} {s : State} {m : MethodId} {args : Array Value} {below : List Frame} {meth : Method} {c : Code} {ba : Nat} {D : va_G} {aC xa : Nat → Nat} {Qr : State → Prop} (C : Cx k p l e R s m args below meth c ba D aC xa Q Qr) {H : Heap} {locs : List Loc} {cells slots : Nat} {ls : Array Slot} {L : List Value} {w' : mW} {q : Addr} {ce : Cell} {rest : List Value}
    (hB : hdB k pc = true) (hq : Q w' (.inl (some (.int (Int32.ofInt (-1000)))))) (hM : Sim ba xa aC D w' s H) (hS : va_S (aA ba) s.heap H locs) (hl : lrl ba xa (m_l k) ls L) (h1 : cells ≤ R.cells) (h2 : slots ≤ R.slots) (hce : H[q]? = some ce) (hcv : ce.vm = .none) (hcl : s.vm.findClass (m_E 0) = some ce.cls) :
    vx_W p l e R s m args below meth c H locs cells slots Qr (F0 m pc ls rest) q := by
  simp only [hdB, Bool.and_eq_true, decide_eq_true_eq] at hB
  obtain ⟨hr, hB⟩ := hB
  have htb := C.2.1.2.2.2.2.2
  split at hB
  · rename_i f t h ct hhk
    simp only [Bool.and_eq_true, decide_eq_true_eq, List.any_eq_true, List.mem_range] at hB
    obtain ⟨⟨⟨c1, c2⟩, c3⟩, j, hj, ⟨⟨a1, b1⟩, b2⟩, b3⟩ := hB
    have hsplit : c.exceptionTable.toList = [] ++ (⟨f, t, h, ct⟩ : ExceptionTableEntry) :: [] := by rw [htb, hhk]; rfl
    have hRO := C.2.1.2.2.2.2.1
    refine vx_catch C.1.2.2.2.1 _ _ _ hsplit (fun z hz => by cases hz) ?_ c2 (T_at C.1.2.2.2.2.1 c3 rfl) ((hRO.2.2.2.2.2.2.2.2.1 _ (List.mem_filter.mpr ⟨cast_in 0 (by omega), rfl⟩)).use rfl) hce hcv hcl ?_
    · simp only [covers, Bool.and_eq_true, decide_eq_true_eq]
      exact c1
    · refine lv_astore_n C.1.1 C.1.2.1 b1 (by simp [Fin.ofNat]; omega : (Fin.ofNat 4 j).val = j) hl.1 a1 rfl (fun ls' _ => ?_)
      refine lv_sipush C.1.1 C.1.2.1 b2 (show (Int16.ofInt (-1000)).toInt32 = Int32.ofInt (-1000) by decide) ?_
      exact C.2.2.1 w' (some (.int (Int32.ofInt (-1000)))) H locs cells slots _ _ hq hM hS h1 h2 ⟨.int, hr, rfl, b3⟩
  · cases hB
set_option maxHeartbeats 4000000 in
theorem so_invV {idx : Nat} (hd : decode (m_c k) pc = .ok (.invokevirtual idx, 3)) (h1 : c_rm k x = true) (h2 : c_mt x (y - 1) = true) (hy1 : 1 ≤ y) (hlk : Cond.methodLink (m_o k) idx (m_y x) ∈ lw_tbl) (him : Cond.instanceMethod (m_y x) ∈ lw_tbl) (hse : Cond.selects (m_y x).cls (m_y x) (m_y x) ∈ lw_tbl) (hcl : (m_cl (z - 10)).1 = (m_y x).cls) (hz11 : z - 10 < 13) (hhx : m_hh x = []) (hu : u = m_gc x ∧ v = m_gs x) (hal : m_al x = false) (hh : m_hh k = [] ∨ hdB k pc = true) (hz3 : z ≠ 3 ∧ z ≠ 6 ∧ z ≠ 7 ∧ z ≠ 8 ∧ z ≠ 9 ∧ z ≠ 21) (hz4 : z ≠ 4) (hK : ∀ L st w g, K L st w g → RT k (pc + 3) L st w g Q) : ∀ L st w g, stW k J Q (pc, .invokevirtual idx, x, y, z, u, v) K L st w g → RT k pc L st w g Q := by
  intro L st w g h
  obtain ⟨rfl, rfl⟩ := hu
  obtain ⟨n3, n6, n7, n8, n9, n21⟩ := hz3
  have h' : match (generalizing := false) (st.take y).reverse with
        | .ref a :: b => w_sh w a = (0, z - 10) ∧ y ≤ st.length ∧ v_ct (st.drop y) ≤ 8 ∧ m_gc x ≤ g.1 ∧ m_gs x ≤ g.2.1 ∧ CT x (.ref a :: b) w (fun w' o => match o with
          | .inl a => (g.2.2 = true → w_n w' = w_n w + m_gc x) ∧ K L (a.toList ++ st.drop y) w' (g.1 - m_gc x, g.2.1 - m_gs x, g.2.2)
          | .inr E => match m_hh k with | [] => Q w' (.inr E) | _ => E = 0 ∧ Q w' (.inl (some (.int (Int32.ofInt (-1000))))))
        | _ => False := by
    simp only [stW] at h
    first | exact h | split at h
    all_goals first | exact absurd rfl n3 | exact absurd rfl hz4 | exact absurd rfl n6 | exact absurd rfl n7 | exact absurd rfl n8 | exact absurd rfl n9 | exact absurd rfl n21 | exact h
  clear h
  revert h'
  intro h
  split at h
  · rename_i b as hst
    obtain ⟨hsh, hy, hr, hg1, hg2, hCT⟩ := h
    intro p l e R s m args below meth c ba D aC xa Qr C H locs cells slots ls hM hS hl g1 g2 g3
    have hlen : as.length = y - 1 := by have := congrArg List.length hst; simp at this; omega
    have hst2 := tk_dr st y hst
    rw [hst2, List.reverse_cons, List.append_assoc]
    refine call_V C hM hS hl.1.1 hd h1 h2 hlen hlk him hse hhx (by rw [← hcl]; exact recv_at (ci := z - 10) hM C.2.1.2.2.1 hsh (cl_at hz11)) hr (by omega) (by omega) (fun q => by rw [hal] at q; cases q) hCT (fun w' v H1 locs1 hq hM1 hS1 => ?_) (fun w' E q ce H1 locs1 hq hM1 hS1 hE hce hcv hcl' => ?_)
    · obtain ⟨hq1, hq2⟩ := hq
      have := hK _ _ _ _ hq2 p l e R s m args below meth c ba D aC xa Qr C H1 locs1 (cells + m_gc x) (slots + m_gs x) ls hM1 hS1 hl (by show _ + (g.1 - m_gc x) ≤ _; omega) (by show _ + (g.2.1 - m_gs x) ≤ _; omega) (fun q => by rw [hq1 q]; have := g3 q; omega)
      have e1 : (v.toList ++ st.drop y).map (trv ba xa) = (v.map (trv ba xa)).toList ++ (st.drop y).map (trv ba xa) := by cases v <;> simp
      rw [e1] at this
      exact this
    · cases hhk : m_hh k with
      | nil =>
        simp only [hhk] at hq
        exact C.2.2.2.1 w' E q ce H1 locs1 _ _ _ _ _ hq hM1 hS1 (by omega) (by omega) hE hce hcv hcl' hhk
      | cons a b =>
        have hB : hdB k pc = true := by
          rcases hh with hh | hh
          · rw [hhk] at hh; cases hh
          · exact hh
        have hq' : E = 0 ∧ Q w' (.inl (some (.int (Int32.ofInt (-1000))))) := by simpa only [hhk] using hq
        obtain ⟨rfl, hq'⟩ := hq'
        exact catch_go C hB hq' hM1 hS1 hl (by omega) (by omega) hce hcv hcl'
  · exact h.elim
set_option maxHeartbeats 4000000 in
/-- String's methods, on our texts and on the constants -/
theorem so_invT {idx : Nat} (hd : decode (m_c k) pc = .ok (.invokevirtual idx, 3)) (h1 : c_rm k x = true) (h2 : c_mt x (y - 1) = true) (hy1 : 1 ≤ y) (hlk : Cond.methodLink (m_o k) idx (m_y x) ∈ lw_tbl) (him : Cond.instanceMethod (m_y x) ∈ lw_tbl) (hse : Cond.selects (m_y x).cls (m_y x) (m_y x) ∈ lw_tbl) (hcl : (m_y x).cls = RJ0) (hhx : m_hh x = []) (hu : u = m_gc x ∧ v = m_gs x) (hal : m_al x = false) (hK : ∀ L st w g, K L st w g → RT k (pc + 3) L st w g Q) : ∀ L st w g, stW k J Q (pc, .invokevirtual idx, x, y, 21, u, v) K L st w g → RT k pc L st w g Q := by
  intro L st w g h
  simp only [stW] at h
  split at h
  · rename_i b as hst
    obtain ⟨hsh, hy, hr, hg1, hg2, hCT⟩ := h
    have hlen : as.length = y - 1 := by have := congrArg List.length hst; simp at this; omega
    have hst2 := tk_dr st y hst
    rw [← hst] at hCT
    refine so_invX (yy := y) hu (fun Q' p l e R s m args below meth c ba D aC xa Qr C H locs cells slots ls hM hS hls g1 g2 hC hQX kk => ?_) hg1 hg2 hCT hK
    rw [hst] at hC
    have e9 : st.map (trv ba xa) = (as.reverse ++ .ref b :: st.drop y).map (trv ba xa) := by have e := hst2; rw [List.reverse_cons, List.append_assoc] at e; exact congrArg (List.map (trv ba xa)) e
    rw [e9]
    refine call_V C hM hS hls hd h1 h2 hlen hlk him hse hhx ?_ hr g1 g2 (fun q => by rw [hal] at q; cases q) hC kk (fun w' E q ce H1 locs1 hq => (hQX _ _ hq).elim)
    rw [hcl]
    rcases hsh with hsh | hsh
    · exact recv_at (ci := 11) hM C.2.1.2.2.1 hsh (cl_at (by omega))
    · exact recv_str C.2.1.2.2.2.2.1 hS hsh
  · exact h.elim
theorem sb_inst : Cond.instantiable RJ4 4 ∈ lw_tbl := by decide +kernel
theorem len_sel : Cond.selects RJ4 yJ5_length_8abf5 yJ4_length_8abf5 ∈ lw_tbl := by decide +kernel
theorem len_same : Cond.sameMethod RJ5 RJ5 yJ5_length_8abf5.name yJ5_length_8abf5.desc ∈ lw_tbl := by decide +kernel
theorem len_inst : Cond.instanceMethod yJ5_length_8abf5 ∈ lw_tbl := by decide +kernel
theorem len_code : Cond.code yJ5_length_8abf5 (m_c n_J5_length_8abf5) (m_l n_J5_length_8abf5) (m_r n_J5_length_8abf5) ∈ lw_tbl := by decide +kernel
theorem c_mt_p {x n : Nat} (h : c_mt x n = true) : (parseMethodDescriptor (m_y x).desc).map (fun d => d.parameters.length) = some (n + 1 - 1) := by
  simp only [c_mt, Bool.and_eq_true, Bool.or_eq_true, decide_eq_true_eq] at h
  exact h.1.1.1.2.2.2
theorem c_mt_c {x n : Nat} (h : c_mt x n = true) (hh : m_hh x = []) : Cond.code (m_y x) (m_c x) (m_l x) (m_r x) ∈ lw_tbl := by
  simp only [c_mt, Bool.and_eq_true, Bool.or_eq_true, decide_eq_true_eq] at h
  have := h.1.1.2
  rw [m_w, hh] at this
  exact this
set_option maxHeartbeats 8000000 in
/-- A CHECKED ENTRY: what it asks is enough -/
theorem st_ok {q : PI} {nx : Nat} (hv : vI k q nx = true) (hK : ∀ L st w g, K L st w g → RT k nx L st w g Q) (hJ : ∀ (t : Int) L st w g, 0 ≤ t → J t L st w g → RT k t.toNat L st w g Q) : ∀ L st w g, stW k J Q q K L st w g → RT k q.1 L st w g Q := by
  obtain ⟨pc, i, x, y, z, u, v⟩ := q
  simp only [vI, Bool.and_eq_true, decide_eq_true_eq] at hv
  obtain ⟨⟨rfl, hd⟩, hx⟩ := hv
  have hJx : ∀ L st w g, J (x : Int) L st w g → RT k x L st w g Q := fun L st w g h => by
    have := hJ (x : Int) L st w g (by omega) h
    rwa [Int.toNat_natCast] at this
  cases i with
  | iload n => exact so_iload hd hK
  | iload_n n => exact so_iload_n hd hK
  | aload n => exact so_aload hd hK
  | aload_n n => exact so_aload_n hd hK
  | lload n => exact so_lload hd hK
  | lload_n n => exact so_lload_n hd hK
  | dload n => exact so_dload hd hK
  | istore n => exact so_istore hd hK
  | istore_n n => exact so_istore_n hd hK
  | astore n => exact so_astore hd hK
  | astore_n n => exact so_astore_n hd hK
  | lstore n => exact so_lstore hd hK
  | lstore_n n => exact so_lstore_n hd hK
  | dstore n => exact so_dstore hd hK
  | iinc n d => exact so_iinc hd hK
  | iconst d => exact so_iconst hd hK
  | bipush d => exact so_bipush hd (by simpa [xI] using hx) hK
  | sipush d => exact so_sipush hd (by simpa [xI] using hx) hK
  | lconst d => exact so_lconst hd hK
  | fconst d => exact so_fconst hd (by simpa [xI] using hx) hK
  | ldc d =>
    refine so_ldc hd ?_ hK
    by_cases hy : y = 0
    · subst hy; exact Or.inl ⟨rfl, by simpa [xI] using hx⟩
    · have hx' : (2 ≤ x ∧ x < 18) ∧ (m_str[x - 2]?).map (fun q => (q.1, q.2.1)) = some (m_o k, d) := by
        simp only [xI] at hx
        simpa using hx
      obtain ⟨⟨a1, a2⟩, a3⟩ := hx'
      obtain ⟨q, b1, b2⟩ := Option.map_eq_some_iff.mp a3
      obtain ⟨q1, q2, q3⟩ := q
      cases b2
      exact Or.inr ⟨hy, a1, q3, b1⟩
  | ldc_w d =>
    refine so_ldc_w hd ?_ hK
    by_cases hy : y = 0
    · subst hy; exact Or.inl ⟨rfl, by simpa [xI] using hx⟩
    · have hx' : (2 ≤ x ∧ x < 18) ∧ (m_str[x - 2]?).map (fun q => (q.1, q.2.1)) = some (m_o k, d) := by
        simp only [xI] at hx
        simpa using hx
      obtain ⟨⟨a1, a2⟩, a3⟩ := hx'
      obtain ⟨q, b1, b2⟩ := Option.map_eq_some_iff.mp a3
      obtain ⟨q1, q2, q3⟩ := q
      cases b2
      exact Or.inr ⟨hy, a1, q3, b1⟩
  | aconst_null => exact so_null hd hK
  | lneg => exact so_lneg hd hK
  | fcmp op => exact so_fcmp hd hK
  | i2c => exact so_i2c hd hK
  | dup_x1 => exact so_dup_x1 hd hK
  | ifnonnull off => exact so_ifnonnull hd (by simpa [xI] using hx) hJx
  | checkcast idx =>
    simp only [xI, Bool.and_eq_true, decide_eq_true_eq] at hx
    exact so_checkcast hd hx.1 hx.2 hK
  | ldc2_w d => exact so_ldc2_w hd (by simpa [xI] using hx) hK
  | iadd => exact so_iadd hd hK
  | isub => exact so_isub hd hK
  | imul => exact so_imul hd hK
  | idiv => exact so_idiv hd hK
  | irem => exact so_irem hd hK
  | iand => exact so_iand hd hK
  | ior => exact so_ior hd hK
  | ixor => exact so_ixor hd hK
  | ishl => exact so_ishl hd hK
  | ishr => exact so_ishr hd hK
  | iushr => exact so_iushr hd hK
  | ineg => exact so_ineg hd hK
  | ladd => exact so_ladd hd hK
  | lsub => exact so_lsub hd hK
  | lmul => exact so_lmul hd hK
  | ldiv => exact so_ldiv hd hK
  | lrem => exact so_lrem hd hK
  | lxor => exact so_lxor hd hK
  | lcmp => exact so_lcmp hd hK
  | dcmp op => exact so_dcmp hd hK
  | fdiv => exact so_fdiv hd hK
  | i2l => exact so_i2l hd hK
  | i2f => exact so_i2f hd hK
  | i2b => exact so_i2b hd hK
  | l2i => exact so_l2i hd hK
  | f2d => exact so_f2d hd hK
  | dup => exact so_dup hd hK
  | dup2 => exact so_dup2 hd hK
  | pop => exact so_pop hd hK
  | ifCond c off => exact so_ifCond hd (by simpa [xI] using hx) hK hJx
  | if_icmp c off => exact so_if_icmp hd (by simpa [xI] using hx) hK hJx
  | goto off => exact so_goto hd (by simpa [xI] using hx) hJx
  | tableswitch d lo hi offs =>
    simp only [xI, Bool.and_eq_true, decide_eq_true_eq, List.all_eq_true] at hx
    exact so_tsw hd hx.1.1 hx.1.2 hx.2 hJ
  | getfield idx =>
    simp only [xI, Bool.and_eq_true, decide_eq_true_eq] at hx
    obtain ⟨⟨⟨⟨a1, a2⟩, a3⟩, a4⟩, a5⟩ := hx
    refine so_getfield hd ⟨a1, a2, ?_⟩ ?_ hK
    · split at a3
      · obtain ⟨r1, r2⟩ := of_decide_eq_true a3; exact Or.inl ⟨rfl, r1, r2⟩
      · obtain ⟨r1, r2⟩ := of_decide_eq_true a3; exact Or.inr (Or.inl ⟨rfl, r1, r2⟩)
      · have r1 : kd (m_ty x y) = z := of_decide_eq_true a3
        have := kd_ty x a1 y a2
        exact Or.inr (Or.inr ⟨by omega, r1⟩)
    · rw [on_ok k a5]
      split at a4
      · exact Or.inl (flT_ok _ (of_decide_eq_true a4))
      · simp only [Bool.and_eq_true, decide_eq_true_eq] at a4
        exact Or.inr ⟨a4.1, fnT_ok _ a4.2⟩
  | putfield idx =>
    simp only [xI, Bool.and_eq_true, decide_eq_true_eq] at hx
    obtain ⟨⟨⟨⟨⟨a1, a2⟩, a3⟩, a6⟩, a4⟩, a5⟩ := hx
    refine so_putfield hd a1 a2 ?_ ?_ ?_ hK
    · rw [on_ok k a6]
      split at a3
      · exact Or.inl (flT_ok _ (of_decide_eq_true a3))
      · simp only [Bool.and_eq_true, decide_eq_true_eq] at a3
        exact Or.inr ⟨a3.1, fnT_ok _ a3.2⟩
    · match z, a4 with
      | 0, a4 => exact Or.inl ⟨rfl, of_decide_eq_true a4⟩
      | 1, a4 => exact Or.inr (Or.inl ⟨rfl, of_decide_eq_true a4⟩)
      | 2, a4 => exact Or.inr (Or.inr (Or.inl ⟨rfl, of_decide_eq_true a4⟩))
      | n + 3, a4 => exact Or.inr (Or.inr (Or.inr ⟨by omega, of_decide_eq_true a4⟩))
    · intro hf
      rw [hf] at a5
      simpa using a5
  | getstatic idx => exact so_getstatic hd hx hK
  | iaload => exact so_iaload hd hK
  | baload => exact so_baload hd (by simpa [xI] using hx) hK
  | caload => exact so_caload hd hK
  | laload => exact so_laload hd hK
  | aaload => exact so_aaload hd (by simpa [xI] using hx) hK
  | iastore => exact so_iastore hd hK
  | bastore => exact so_bastore hd hK
  | castore => exact so_castore hd hK
  | lastore => exact so_lastore hd hK
  | aastore => exact so_aastore hd (by simpa [xI] using hx) hK
  | arraylength =>
    by_cases hz : z = 4
    · subst hz; exact so_alen4 hd hK
    · refine so_alen hd hz ?_ hK
      simp only [xI] at hx
      first | exact of_decide_eq_true hx | split at hx
      all_goals first | exact absurd rfl hz | exact of_decide_eq_true hx
  | newarray t =>
    simp only [xI, Bool.and_eq_true, decide_eq_true_eq] at hx
    exact so_newarray hd hx.1.1 hx.1.2 hx.2 hK
  | anewarray idx => exact so_anewarray hd (by simpa [xI] using hx) hK
  | new idx =>
    refine so_new hd ?_ hK
    by_cases hz : z = 0
    · subst hz
      simp only [xI, Bool.and_eq_true, decide_eq_true_eq] at hx
      exact Or.inl ⟨rfl, hx.1.1.1, hx.1.1.2, hx.1.2, hx.2⟩
    · simp only [xI] at hx
      exact Or.inr ⟨hz, thI_of hx⟩
  | invokevirtual idx =>
    have hz : z = 3 ∨ z = 4 ∨ z = 6 ∨ z = 7 ∨ z = 8 ∨ z = 9 ∨ z = 21 ∨ (z ≠ 3 ∧ z ≠ 4 ∧ z ≠ 6 ∧ z ≠ 7 ∧ z ≠ 8 ∧ z ≠ 9 ∧ z ≠ 21) := by omega
    rcases hz with rfl | rfl | rfl | rfl | rfl | rfl | rfl | ⟨h3, h4, h6, h7, h8, h9, h21⟩
    · simp only [xI, Bool.and_eq_true, decide_eq_true_eq] at hx
      exact so_slen hd hx.1 hx.2 hK
    · simp only [xI, Bool.and_eq_true, decide_eq_true_eq] at hx
      exact so_schr hd hx.1 hx.2 hK
    · simp only [xI, Bool.and_eq_true, decide_eq_true_eq] at hx
      obtain ⟨⟨⟨⟨⟨⟨⟨a1, a2⟩, a3⟩, a4⟩, a5⟩, a6⟩, a7⟩, a8⟩ := hx
      exact so_clone hd a1 a2 a3 a4 a5 a6 a7 a8 hK
    · simp only [xI, Bool.and_eq_true, decide_eq_true_eq] at hx
      obtain ⟨⟨⟨⟨⟨⟨⟨b1, b2⟩, b3⟩, b4⟩, b7⟩, b8⟩, b9, b10⟩, ⟨c1, c2⟩, c3⟩ := hx
      have hB := mB_ok x b10
      simp only [mB, b3, Bool.and_eq_true, decide_eq_true_eq, Bool.not_eq_true'] at hB
      have hlk : Cond.methodLink (m_o k) idx (m_y x) ∈ lw_tbl := by rw [on_ok k b9]; exact mlT_ok _ b4
      have hmt := c_mt_p hB.1
      exact so_invU (xn := m_y x) (Or.inl rfl) hd b1 (by rw [b2]; exact hB.1) (by omega) hlk hB.2.1.1 c1 (fun args s hts => T_at hts c2 rfl) c3 ⟨hB.2.1.1, _, _, _, c_mt_c hB.1 b7⟩ (by rw [b2]; exact hmt) b7 b8 hB.2.2 hK
    · simp only [xI, Bool.and_eq_true, decide_eq_true_eq] at hx
      obtain ⟨⟨⟨⟨⟨⟨⟨b1, b2⟩, b3⟩, b4⟩, b7⟩, b8⟩, b9, b10⟩, ⟨c1, c2⟩, c3⟩ := hx
      have hB := mB_ok x b10
      simp only [mB, b3, Bool.and_eq_true, decide_eq_true_eq, Bool.not_eq_true'] at hB
      have hlk : Cond.methodLink (m_o k) idx (m_y x) ∈ lw_tbl := by rw [on_ok k b9]; exact mlT_ok _ b4
      have hmt := c_mt_p hB.1
      exact so_invU (xn := m_y x) (Or.inr (Or.inl rfl)) hd b1 (by rw [b2]; exact hB.1) (by omega) hlk hB.2.1.1 c1 (fun args s hts => T_x hts c2) c3 ⟨hB.2.1.1, _, _, _, c_mt_c hB.1 b7⟩ (by rw [b2]; exact hmt) b7 b8 hB.2.2 hK
    · simp only [xI, Bool.and_eq_true, decide_eq_true_eq] at hx
      obtain ⟨⟨⟨⟨⟨⟨b1, b2⟩, b3⟩, b7⟩, b8⟩, b9, b10⟩, c1, c2⟩ := hx
      have hB := mB_ok x b10
      simp only [mB, b3, Bool.and_eq_true, decide_eq_true_eq, Bool.not_eq_true'] at hB
      have hmt := c_mt_p hB.1
      have e1 : m_np x = 0 := by rw [c1]; decide +kernel
      have e2 : m_y x = yJ4_length_8abf5 := by rw [c1]; decide +kernel
      exact so_invU (xn := yJ5_length_8abf5) (Or.inr (Or.inr rfl)) hd b1 (by rw [b2]; exact hB.1) (by omega) c2 hB.2.1.1 rfl (fun args s hts => by rw [e2]; exact T_at hts len_sel rfl) len_same ⟨len_inst, _, _, _, len_code⟩ (by rw [b2, e1]; decide) b7 b8 hB.2.2 hK
    · simp only [xI, Bool.and_eq_true, decide_eq_true_eq] at hx
      obtain ⟨⟨⟨⟨⟨⟨⟨b1, b2⟩, b3⟩, b4⟩, b5⟩, b7⟩, b8⟩, b9, b10⟩ := hx
      have hB := mB_ok x b10
      have hno : ¬ m_on x = 14 := by omega
      simp only [mB, b3, hno, Bool.and_eq_true, Bool.or_eq_true, decide_eq_true_eq, Bool.not_eq_true', false_or] at hB
      have hlk : Cond.methodLink (m_o k) idx (m_y x) ∈ lw_tbl := by rw [on_ok k b9]; exact mlT_ok _ b4
      exact so_invT hd b1 (by rw [b2]; exact hB.1) (by omega) hlk hB.2.1.1 hB.2.1.2 (by show m_o x = RJ0; rw [on_ok x (by omega), ← b5]; rfl) b7 b8 hB.2.2 hK
    · have hx' : (((((((((c_rm k x = true ∧ y = m_np x + 1) ∧ m_ki x = 1) ∧ (m_on k, idx, x) ∈ mlT) ∧ z - 10 = m_on x) ∧ z - 10 < 13) ∧ m_hh x = []) ∧ u = m_gc x ∧ v = m_gs x) ∧ k < 224 ∧ x < 223) ∧ (m_hh k = [] ∨ hdB k pc = true)) := by
        have h9 : (c_rm k x && decide (y = m_np x + 1) && decide (m_ki x = 1) && decide ((m_on k, idx, x) ∈ mlT) && decide (z - 10 = m_on x) && decide (z - 10 < 13) && decide (m_hh x = []) && decide (u = m_gc x ∧ v = m_gs x) && decide (k < 224 ∧ x < 223) && (decide (m_hh k = []) || hdB k pc)) = true := by
          simp only [xI] at hx
          first | exact hx | split at hx
          all_goals first | exact absurd rfl h3 | exact absurd rfl h4 | exact absurd rfl h6 | exact absurd rfl h7 | exact absurd rfl h8 | exact absurd rfl h9 | exact absurd rfl h21 | exact absurd rfl h1 | exact absurd rfl h2 | exact hx
        simpa only [Bool.and_eq_true, Bool.or_eq_true, decide_eq_true_eq, Bool.not_eq_true'] using h9
      obtain ⟨⟨⟨⟨⟨⟨⟨⟨⟨b1, b2⟩, b3⟩, b4⟩, b5⟩, b6⟩, b7⟩, b8⟩, b9, b10⟩, b11⟩ := hx'
      have hB := mB_ok x b10
      have hno : ¬ m_on x = 14 := by omega
      simp only [mB, b3, hno, Bool.and_eq_true, Bool.or_eq_true, decide_eq_true_eq, Bool.not_eq_true', false_or] at hB
      have hlk : Cond.methodLink (m_o k) idx (m_y x) ∈ lw_tbl := by rw [on_ok k b9]; exact mlT_ok _ b4
      exact so_invV hd b1 (by rw [b2]; exact hB.1) (by omega) hlk hB.2.1.1 hB.2.1.2 (by rw [cn_ok _ b6, b5]; exact (on_ok x (by omega)).symm) b6 b7 b8 hB.2.2 b11 ⟨h3, h6, h7, h8, h9, h21⟩ h4 hK
  | invokespecial idx =>
    have hz : z = 1 ∨ z = 6 ∨ z = 7 ∨ (z ≠ 1 ∧ z ≠ 6 ∧ z ≠ 7) := by omega
    rcases hz with rfl | rfl | rfl | ⟨h1, h6, h7⟩
    · simp only [xI, Bool.and_eq_true, decide_eq_true_eq] at hx
      exact so_objInit hd hx.1.1.1 hx.1.1.2 hx.1.2 hx.2 hK
    · simp only [xI, Bool.and_eq_true, decide_eq_true_eq] at hx
      obtain ⟨⟨⟨⟨⟨⟨⟨⟨b1, b2⟩, b3⟩, b4⟩, b5⟩, b6⟩, b7⟩, b8, b9⟩, b10⟩ := hx
      have hB := mB_ok x b9
      simp only [mB, b3, Bool.and_eq_true, decide_eq_true_eq] at hB
      exact so_invJ hd b1 (by rw [b2]; exact hB.1) (by omega) (by rw [on_ok k b8]; exact mlT_ok _ b4) hB.2.1 hB.2.2 b5 b6 b7 b10 hK
    · simp only [xI, Bool.and_eq_true, decide_eq_true_eq] at hx
      obtain ⟨⟨⟨⟨⟨⟨⟨b1, b2⟩, b3⟩, b4⟩, b7⟩, b8⟩, b9, b10⟩, ⟨⟨⟨c1, c2⟩, c3⟩, c4⟩, c5⟩ := hx
      have hB := mB_ok x b10
      simp only [mB, b3, Bool.and_eq_true, decide_eq_true_eq, Bool.not_eq_true'] at hB
      exact so_invP hd b1 (by rw [b2]; exact hB.1) (by omega) (by rw [on_ok k b9]; exact mlT_ok _ b4) hB.2.1.1 (by rw [c2]; exact c3) (by rw [c1, c2]; exact c4) c5 b7 b8 hB.2.2 hK
    · have hx' : (((((((c_rm k x = true ∧ y = m_np x + 1) ∧ m_ki x = 2) ∧ ((m_on k, idx, x) ∈ mlT ∨ (m_on k, idx, x) ∈ mnT.map (fun e => (e.1, e.2.1, e.2.2.1)))) ∧ m_r x = none) ∧ m_hh x = []) ∧ u = m_gc x ∧ v = m_gs x) ∧ k < 224 ∧ x < 223) := by
        have h9 : (c_rm k x && decide (y = m_np x + 1) && decide (m_ki x = 2) && (decide ((m_on k, idx, x) ∈ mlT) || decide ((m_on k, idx, x) ∈ mnT.map (fun e => (e.1, e.2.1, e.2.2.1)))) && decide (m_r x = none) && decide (m_hh x = []) && decide (u = m_gc x ∧ v = m_gs x) && decide (k < 224 ∧ x < 223)) = true := by
          simp only [xI] at hx
          first | exact hx | split at hx
          all_goals first | exact absurd rfl h3 | exact absurd rfl h4 | exact absurd rfl h6 | exact absurd rfl h7 | exact absurd rfl h8 | exact absurd rfl h9 | exact absurd rfl h21 | exact absurd rfl h1 | exact absurd rfl h2 | exact hx
        simpa only [Bool.and_eq_true, Bool.or_eq_true, decide_eq_true_eq] using h9
      obtain ⟨⟨⟨⟨⟨⟨⟨b1, b2⟩, b3⟩, b4⟩, b5⟩, b6⟩, b7⟩, b8, b9⟩ := hx'
      have hB := mB_ok x b9
      simp only [mB, b3, Bool.and_eq_true, decide_eq_true_eq] at hB
      refine so_invI hd b1 (by rw [b2]; exact hB.1) (by omega) ?_ hB.2.1 hB.2.2 b5 b6 b7 h1 h6 h7 hK
      rw [on_ok k b8]
      exact b4.imp (fun h => mlT_ok _ h) (fun h => mnT_ok h)
  | invokestatic idx =>
    have hz : z = 2 ∨ z = 8 ∨ (z ≠ 2 ∧ z ≠ 8) := by omega
    rcases hz with rfl | rfl | ⟨h2, h8⟩
    · simp only [xI, Bool.and_eq_true, decide_eq_true_eq] at hx
      obtain ⟨⟨⟨⟨⟨a0, a1⟩, a2⟩, a3⟩, a4⟩, a5⟩ := hx
      rcases a0 with rfl | rfl
      · exact so_copy hd a1 a2 a3 a4 a5 hK
      · exact so_copyB hd a1 a2 a3 a4 a5 hK
    · simp only [xI, Bool.and_eq_true, decide_eq_true_eq] at hx
      obtain ⟨⟨⟨⟨⟨⟨b1, b2⟩, b3⟩, b4⟩, b6⟩, b7⟩, b8, b9⟩ := hx
      have hB := mB_ok x b9
      simp only [mB, b3, Bool.and_eq_true, decide_eq_true_eq, Bool.not_eq_true'] at hB
      exact so_invN hd b1 (by rw [b2]; exact hB.1) (by rw [on_ok k b8]; exact mnT_ok b4) hB.2.1 b6 b7 hB.2.2 hK
    · have hx' : (((((c_rm k x = true ∧ y = m_np x) ∧ m_ki x = 0) ∧ (m_on k, idx, x) ∈ mlT) ∧ u = m_gc x ∧ v = m_gs x) ∧ k < 224 ∧ x < 223) := by
        have h9 : (c_rm k x && decide (y = m_np x) && decide (m_ki x = 0) && decide ((m_on k, idx, x) ∈ mlT) && decide (u = m_gc x ∧ v = m_gs x) && decide (k < 224 ∧ x < 223)) = true := by
          simp only [xI] at hx
          first | exact hx | split at hx
          all_goals first | exact absurd rfl h3 | exact absurd rfl h4 | exact absurd rfl h6 | exact absurd rfl h7 | exact absurd rfl h8 | exact absurd rfl h9 | exact absurd rfl h21 | exact absurd rfl h1 | exact absurd rfl h2 | exact hx
        simpa only [Bool.and_eq_true, decide_eq_true_eq, Bool.not_eq_true'] using h9
      obtain ⟨⟨⟨⟨⟨b1, b2⟩, b3⟩, b4⟩, b5⟩, b6, b7⟩ := hx'
      have hB := mB_ok x b7
      simp only [mB, b3, Bool.and_eq_true, decide_eq_true_eq, Bool.not_eq_true'] at hB
      exact so_invS hd b1 (by rw [b2]; exact hB.1) (by rw [on_ok k b6]; exact mlT_ok _ b4) hB.2.1 b5 hB.2.2 h2 h8 hK
  | ireturn => exact so_ireturn hd (by simpa [xI, or_assoc] using hx)
  | lreturn => exact so_lreturn hd (by simpa [xI] using hx)
  | freturn => exact so_freturn hd (by simpa [xI] using hx)
  | areturn =>
    refine so_areturn hd ?_
    simp only [xI] at hx
    cases hr : m_r k with
    | none => rw [hr] at hx; cases hx
    | some rt =>
      rw [hr] at hx
      cases rt with
      | object n => exact ⟨_, rfl, Or.inl ⟨_, rfl⟩⟩
      | array t => exact ⟨_, rfl, Or.inr ⟨_, rfl⟩⟩
      | _ => cases hx
  | return_ => exact so_return hd (by simpa [xI] using hx)
  | _ => intro L st w g h; simp only [stW] at h
end ROWS14
/-- a stretch of code, entry by entry, is the method's -/
def vS (k : Nat) : List PI → Nat → Bool
  | [], _ => true
  | q :: l, fin => vI k q (match l with | [] => fin | r :: _ => r.1) && vS k l fin
def pc0 (l : List PI) (fin : Nat) : Nat := match l with | [] => fin | r :: _ => r.1
/-- A STRETCH OF CODE: what it asks is enough -/
theorem wp_ok {k : Nat} {J : Int → mK} {Q : mW → mO → Prop} {fin : Nat} (hJ : ∀ (t : Int) L st w g, 0 ≤ t → J t L st w g → RT k t.toNat L st w g Q) : ∀ (l : List PI), vS k l fin = true → ∀ L st w g, wpS k J Q l fin L st w g → RT k (pc0 l fin) L st w g Q
  | [], _, L, st, w, g, h => by
    have := hJ (fin : Int) L st w g (by omega) h
    rwa [Int.toNat_natCast] at this
  | q :: l, hv, L, st, w, g, h => by
    simp only [vS, Bool.and_eq_true] at hv
    exact st_ok (nx := pc0 l fin) hv.1 (fun L st w g h => wp_ok hJ l hv.2 L st w g h) hJ L st w g h
