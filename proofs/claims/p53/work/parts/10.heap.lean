theorem va_S.tr {A : Nat → Prop} {H0 H H1 : Heap} {locs locs1 : List Loc} (h : va_S A H0 H locs) (h1 : va_S A H H1 locs1) : va_S A H0 H1 locs1 :=
  ⟨Nat.le_trans h.1 h1.1, fun q a b => (h1.2.1 q (Nat.lt_of_lt_of_le a h.1) b).trans (h.2.1 q a b), h1.2.2⟩
theorem va_S.at {A : Nat → Prop} {H0 H : Heap} {locs : List Loc} (h : va_S A H0 H locs) : va_S A H H locs := ⟨Nat.le_refl _, fun _ _ _ => rfl, h.2.2⟩
section ROWS10
variable {k pc : Nat} {J : Int → mK} {Q : mW → mO → Prop} {K : mK} {x y z u v : Nat}
set_option maxHeartbeats 4000000 in
theorem so_getfield {idx : Nat} (hd : decode (m_c k) pc = .ok (.getfield idx, 3)) (hv : x < 13 ∧ y < (m_cl x).2.2 ∧ (z = 4 ∧ x = 11 ∧ y = 0 ∨ z = 5 ∧ x = 11 ∧ y = 1 ∨ z < 3 ∧ kd (m_ty x y) = z)) (hlk : Cond.fieldLink (m_o k) idx ((m_cl x).2.1 y).1 ((m_cl x).2.1 y).2.1 ((m_cl x).2.1 y).2.2.1 ∈ lw_tbl ∨ z < 3 ∧ Cond.fieldLinkNest (m_o k) idx ((m_cl x).2.1 y).1 ((m_cl x).2.1 y).2.1 ((m_cl x).2.1 y).2.2.1 "CrankCalculatorLaw" ∈ lw_tbl) (hK : ∀ L st w g, K L st w g → RT k (pc + 3) L st w g Q) : ∀ L st w g, stW k J Q (pc, .getfield idx, x, y, z, u, v) K L st w g → RT k pc L st w g Q := by
  intro L st w g h
  obtain ⟨hx, hy, hz⟩ := hv
  have key : ∀ {a : Nat} {r : List Value} (p : Program) (l : Launch) (e : Env) (R : Room) (s : State) (m : MethodId) (args : Array Value) (below : List Frame) (meth : Method) (c : Code) (ba : Nat) (D : va_G) (aC xa : Nat → Nat) (Qr : State → Prop) (C : Cx k p l e R s m args below meth c ba D aC xa Q Qr) (H : Heap) (locs : List Loc) (cells slots : Nat) (ls : Array Slot) (hM : Sim ba xa aC D w s H) (hsh : w_sh w a = (0, x)) (vv : Value), fld ba xa w x a y = vv → W p l e R s m args below meth c H locs cells slots Qr (F0 m (pc + 3) ls (vv :: r.map (trv ba xa))) → W p l e R s m args below meth c H locs cells slots Qr (F0 m pc ls ((Value.ref a :: r).map (trv ba xa))) := by
    intro a r p l e R s m args below meth c ba D aC xa Qr C H locs cells slots ls hM hsh vv hvv kk
    have he := hM.obj hsh
    rcases hlk with hlk | ⟨-, hlk⟩
    · exact va_get C.1.1 C.1.2.1 C.1.2.2.2.2.1 (F_in x hx) C.1.2.2.2.1 C.2.1.2.2.1 hM.1 (ix w a) he (cl_at hx) y hy (T_at C.1.2.2.2.2.1 hlk rfl) (fun _ q => q) (by rw [flds_at hy, hvv]) hd kk
    · exact va_getN C.1.1 C.1.2.1 C.1.2.2.2.2.1 (F_in x hx) C.1.2.2.2.1 C.2.1.2.2.1 hM.1 (ix w a) he (cl_at hx) y hy ((C.2.1.2.2.2.2.1.2.2.2.2.2.2.2.2.1 _ (List.mem_filter.mpr ⟨hlk, rfl⟩)).use rfl) (fun _ q => q) (by rw [flds_at hy, hvv]) hd kk
  rcases hz with ⟨rfl, rfl, rfl⟩ | ⟨rfl, rfl, rfl⟩ | ⟨hz3, hz⟩
  · simp only [stW] at h
    split at h
    · rename_i a0 r
      obtain ⟨a, ha0⟩ : ∃ n : Nat, n = a0 := ⟨a0, rfl⟩
      subst ha0
      obtain ⟨hc, hw⟩ := h
      simp only [Nat.lt_eq, Nat.le_eq] at hc hw
      intro p l e R s m args below meth c ba D aC xa Qr C H locs cells slots ls hM hS hl h1 h2 h3
      by_cases ha : @LT.lt Nat instLTNat a 100
      · obtain ⟨ha1, ha2, h⟩ := hc ha
        have hl16 : m_str.length = 16 := rfl
        have hj : m_str[a - 2]? = some (m_str[a - 2]'(by omega)) := List.getElem?_eq_getElem (by omega)
        have hRO := C.2.1.2.2.2.2.1
        have hf := (hRO.2.2.2.2.2.2.2.2.2.2.2.1 (a - 2) _ hj).1
        rw [show 2 + (a - 2) = a by omega, show 52 + (a - 2) = a + 50 by omega] at hf
        have hlk' := hlk.resolve_right (fun q => by omega)
        have := hK _ _ _ _ h p l e R s m args below meth c ba D aC xa Qr C H locs cells slots ls hM hS hl h1 h2 h3
        rw [List.map_cons, show trv ba xa (.ref (a + 50)) = .ref (xa (a + 50)) by simp [trv, sgm, show a + 50 < 100 by omega]] at this
        rw [List.map_cons, show trv ba xa (.ref a) = .ref (xa a) by simp [trv, sgm, show a < 100 by omega]]
        exact vk_getf C.1.1 C.1.2.1 hf hS C.1.2.2.2.1 (T_at C.1.2.2.2.2.1 hlk' rfl) (fun _ q => q) hd this
      · obtain ⟨hsh, h⟩ := hw (by omega)
        refine key p l e R s m args below meth c ba D aC xa Qr C H locs cells slots ls hM hsh _ (fld_2 rfl) ?_
        have := hK _ _ _ _ h p l e R s m args below meth c ba D aC xa Qr C H locs cells slots ls hM hS hl h1 h2 h3
        rw [List.map_cons, tr_rf] at this
        exact this
    · exact h.elim
  · simp only [stW] at h
    split at h
    · rename_i a0 r
      obtain ⟨a, ha0⟩ : ∃ n : Nat, n = a0 := ⟨a0, rfl⟩
      subst ha0
      obtain ⟨hc, hw⟩ := h
      simp only [Nat.lt_eq, Nat.le_eq] at hc hw
      intro p l e R s m args below meth c ba D aC xa Qr C H locs cells slots ls hM hS hl h1 h2 h3
      by_cases ha : @LT.lt Nat instLTNat a 100
      · obtain ⟨ha1, ha2, h⟩ := hc ha
        have hl16 : m_str.length = 16 := rfl
        have hj : m_str[a - 2]? = some (m_str[a - 2]'(by omega)) := List.getElem?_eq_getElem (by omega)
        have hRO := C.2.1.2.2.2.2.1
        obtain ⟨va, -, s1, -, -⟩ := hRO.2.2.2.2.2.1 (a - 2) _ hj
        rw [show 2 + (a - 2) = a by omega] at s1
        have hlk' := hlk.resolve_right (fun q => by omega)
        have := hK _ _ _ _ h p l e R s m args below meth c ba D aC xa Qr C H locs cells slots ls hM hS hl h1 h2 h3
        rw [List.map_cons, show trv ba xa (.ref a) = .ref (xa a) by simp [trv, sgm, show a < 100 by omega]]
        exact vk_getf C.1.1 C.1.2.1 s1 hS C.1.2.2.2.1 (T_at C.1.2.2.2.2.1 hlk' rfl) (fun _ q => q) hd this
      · obtain ⟨hsh, h⟩ := hw (by omega)
        exact key p l e R s m args below meth c ba D aC xa Qr C H locs cells slots ls hM hsh _ (fld_0 rfl) (hK _ _ _ _ h p l e R s m args below meth c ba D aC xa Qr C H locs cells slots ls hM hS hl h1 h2 h3)
    · exact h.elim
  · rcases (show z = 0 ∨ z = 1 ∨ z = 2 by omega) with rfl | rfl | rfl <;> simp only [stW] at h
    · split at h
      · obtain ⟨hsh, h⟩ := h
        intro p l e R s m args below meth c ba D aC xa Qr C H locs cells slots ls hM hS hl h1 h2 h3
        exact key p l e R s m args below meth c ba D aC xa Qr C H locs cells slots ls hM hsh _ (fld_0 hz) (hK _ _ _ _ h p l e R s m args below meth c ba D aC xa Qr C H locs cells slots ls hM hS hl h1 h2 h3)
      · exact h.elim
    · split at h
      · obtain ⟨hsh, h⟩ := h
        intro p l e R s m args below meth c ba D aC xa Qr C H locs cells slots ls hM hS hl h1 h2 h3
        exact key p l e R s m args below meth c ba D aC xa Qr C H locs cells slots ls hM hsh _ (fld_1 hz) (hK _ _ _ _ h p l e R s m args below meth c ba D aC xa Qr C H locs cells slots ls hM hS hl h1 h2 h3)
      · exact h.elim
    · split at h
      · obtain ⟨hsh, h⟩ := h
        intro p l e R s m args below meth c ba D aC xa Qr C H locs cells slots ls hM hS hl h1 h2 h3
        refine key p l e R s m args below meth c ba D aC xa Qr C H locs cells slots ls hM hsh _ (fld_2 hz) ?_
        have := hK _ _ _ _ h p l e R s m args below meth c ba D aC xa Qr C H locs cells slots ls hM hS hl h1 h2 h3
        rw [List.map_cons, tr_rf] at this
        exact this
      · exact h.elim
/-- a field is written, final or not -/
theorem put_go {p : Program} {l : Launch} {e : Env} {R : Room} {s : State} {m : MethodId} {args : Array Value} {below : List Frame} {meth : Method} {c : Code} {ba : Nat} {D : va_G} {aC xa : Nat → Nat} {Qr : State → Prop} {idx : Nat} (C : Cx k p l e R s m args below meth c ba D aC xa Q Qr) {H : Heap} {locs : List Loc} {cells slots : Nat} {ls : Array Slot} {w w' : mW} {a : Nat} {rest : List Value} {vv : Value}
    (hd : decode (m_c k) pc = .ok (.putfield idx, 3)) (hx : x < 13) (hy : y < (m_cl x).2.2) (hlk : Cond.fieldLink (m_o k) idx ((m_cl x).2.1 y).1 ((m_cl x).2.1 y).2.1 ((m_cl x).2.1 y).2.2.1 ∈ lw_tbl ∨ ((m_cl x).2.1 y).2.2.2 = false ∧ Cond.fieldLinkNest (m_o k) idx ((m_cl x).2.1 y).1 ((m_cl x).2.1 y).2.1 ((m_cl x).2.1 y).2.2.1 "CrankCalculatorLaw" ∈ lw_tbl) (hfin : ((m_cl x).2.1 y).2.2.2 = true → (m_y k).name = "<init>" ∧ ((m_cl x).2.1 y).1 = m_o k)
    (hM : Sim ba xa aC D w s H) (hS : va_S (aA ba) s.heap H locs) (hsh : w_sh w a = (0, x)) (hn : narrow (m_ty x y) vv = vv) (hfit : fits (m_ty x y) vv = true)
    (hsh' : w_sh w' = w_sh w) (hnn : w_n w' = w_n w) (hI : w_I w' 0 = w_I w 0) (hc : ∀ b, b ≠ a → cel ba xa aC w' b = cel ba xa aC w b) (hce : cel ba xa aC w' a = .inr (x, (flds ba xa w x a).set y vv))
    (kk : ∀ (H1 : Heap) (locs1 : List Loc), Sim ba xa aC D w' s H1 → va_S (aA ba) s.heap H1 locs1 → W p l e R s m args below meth c H1 locs1 cells slots Qr (F0 m (pc + 3) ls rest)) :
    W p l e R s m args below meth c H locs cells slots Qr (F0 m pc ls (vv :: .ref (sgm ba xa a) :: rest)) := by
  have he := hM.obj hsh
  have h100 : 100 ≤ a := (hM.in (a := a) (by rw [hsh]; simp)).1
  have hp := F_ty x hx y hy
  have hlen : y < (flds ba xa w x a).length := by simpa [flds] using hy
  have kk' : ∀ (H1 : Heap) (locs1 : List Loc), va_P D vwCl ((wld ba xa aC w).set (ix w a) (sgm ba xa a, .inr (x, (flds ba xa w x a).set y vv))) H1 → va_D (aA ba) ((wld ba xa aC w).set (ix w a) (sgm ba xa a, .inr (x, (flds ba xa w x a).set y vv))) → va_S (aA ba) H H1 locs1 → W p l e R s m args below meth c H1 locs1 cells slots Qr (F0 m (pc + 3) ls rest) := fun H1 locs1 hP1 _ hS1 =>
    kk H1 locs1 (hM.put h100 (by rw [hsh]; show 0 < 50; omega) hsh' hnn hI hc hce hP1 hS1.1 (fun q hq => hS1.2.1 q (Nat.lt_of_lt_of_le hq (Nat.le_trans C.2.1.2.2.2.1 hS.1)) (Nat.not_le.mpr hq))) (hS.tr hS1)
  rcases hlk with hlk | ⟨hf, hlk⟩
  · cases hf : ((m_cl x).2.1 y).2.2.2 with
    | false => exact va_put C.1.1 C.1.2.1 C.1.2.2.2.2.1 (F_in x hx) (m_ty x) (F_ty x hx) (F_nm x hx) C.1.2.2.2.1 C.2.1.2.2.1 hM.1 wld_D hS.at (ix w a) he (cl_at hx) y hy (T_at C.1.2.2.2.2.1 hlk rfl) (fun _ q => q) hf hp hn hfit hlen hd kk'
    | true => exact va_putF C.1.1 C.1.2.1 C.1.2.2.2.2.1 (F_in x hx) (m_ty x) (F_ty x hx) (F_nm x hx) C.1.2.2.2.1 C.2.1.2.2.1 hM.1 wld_D hS.at (ix w a) he (cl_at hx) y hy (T_at C.1.2.2.2.2.1 hlk rfl) (fun _ q => q) hf (by rw [← C.1.2.2.2.2.2.1]; exact (hfin hf).1) (hfin hf).2 hp hn hfit hlen hd kk'
  · exact va_putN C.1.1 C.1.2.1 C.1.2.2.2.2.1 (F_in x hx) (m_ty x) (F_ty x hx) (F_nm x hx) C.1.2.2.2.1 C.2.1.2.2.1 hM.1 wld_D hS.at (ix w a) he (cl_at hx) y hy ((C.2.1.2.2.2.2.1.2.2.2.2.2.2.2.2.1 _ (List.mem_filter.mpr ⟨hlk, rfl⟩)).use rfl) (fun _ q => q) hf hp hn hfit hlen hd kk'
theorem Sim.n0 {ba : Nat} {xa aC : Nat → Nat} {D : va_G} {w : mW} {s : State} {H : Heap} (hM : Sim ba xa aC D w s H) {a : Nat} (h : (w_sh w a).1 < 50) : a ≠ 0 := by
  have := (hM.in h).1; omega
theorem I0_A {w : mW} {a : Nat} {f : Nat → Int32} (h : a ≠ 0) : w_I (s_A w a f) 0 = w_I w 0 := by simp [w_I, s_A, Ne.symm h]
set_option maxHeartbeats 4000000 in
theorem so_putfield {idx : Nat} (hd : decode (m_c k) pc = .ok (.putfield idx, 3)) (hx : x < 13) (hy : y < (m_cl x).2.2) (hlk : Cond.fieldLink (m_o k) idx ((m_cl x).2.1 y).1 ((m_cl x).2.1 y).2.1 ((m_cl x).2.1 y).2.2.1 ∈ lw_tbl ∨ ((m_cl x).2.1 y).2.2.2 = false ∧ Cond.fieldLinkNest (m_o k) idx ((m_cl x).2.1 y).1 ((m_cl x).2.1 y).2.1 ((m_cl x).2.1 y).2.2.1 "CrankCalculatorLaw" ∈ lw_tbl) (hz : z = 0 ∧ m_ty x y = .int ∨ z = 1 ∧ m_ty x y = .long ∨ z = 2 ∧ kd (m_ty x y) = 2 ∨ 2 < z ∧ (m_ty x y = .boolean ∨ m_ty x y = .byte)) (hfin : ((m_cl x).2.1 y).2.2.2 = true → (m_y k).name = "<init>" ∧ ((m_cl x).2.1 y).1 = m_o k) (hK : ∀ L st w g, K L st w g → RT k (pc + 3) L st w g Q) : ∀ L st w g, stW k J Q (pc, .putfield idx, x, y, z, u, v) K L st w g → RT k pc L st w g Q := by
  intro L st w g h
  rcases hz with ⟨rfl, hty⟩ | ⟨rfl, hty⟩ | ⟨rfl, hty⟩ | ⟨hz, hty⟩ <;> simp only [stW] at h
  · split at h
    · rename_i b a r
      obtain ⟨hsh, h⟩ := h
      intro p l e R s m args below meth c ba D aC xa Qr C H locs cells slots ls hM hS hl h1 h2 h3
      refine put_go (w' := s_I w a y b) C hd hx hy hlk hfin hM hS hsh (by rw [hty]; rfl) (by rw [hty]; rfl) rfl rfl (I0_A (hM.n0 (a := a) (by rw [hsh]; simp))) (fun b' hb => cel_A hb) (cel_I0 hsh (by rw [hty]; rfl)) (fun H1 locs1 hM1 hS1 => hK _ _ _ _ h p l e R s m args below meth c ba D aC xa Qr C H1 locs1 cells slots ls hM1 hS1 hl h1 h2 h3)
    · exact h.elim
  · split at h
    · rename_i b a r
      obtain ⟨hsh, h⟩ := h
      intro p l e R s m args below meth c ba D aC xa Qr C H locs cells slots ls hM hS hl h1 h2 h3
      refine put_go (w' := s_J w a y b) C hd hx hy hlk hfin hM hS hsh (by rw [hty]; rfl) (by rw [hty]; rfl) rfl rfl rfl (fun b' hb => cel_J hb) (cel_J0 hsh (by rw [hty]; rfl)) (fun H1 locs1 hM1 hS1 => hK _ _ _ _ h p l e R s m args below meth c ba D aC xa Qr C H1 locs1 cells slots ls hM1 hS1 hl h1 h2 h3)
    · exact h.elim
  · split at h
    · rename_i b a r
      obtain ⟨hsh, h⟩ := h
      intro p l e R s m args below meth c ba D aC xa Qr C H locs cells slots ls hM hS hl h1 h2 h3
      have n1 : narrow (m_ty x y) (.ref (sgm ba xa b)) = .ref (sgm ba xa b) := by cases hh : m_ty x y <;> rw [hh] at hty <;> simp [kd] at hty <;> rfl
      have n2 : fits (m_ty x y) (.ref (sgm ba xa b)) = true := by cases hh : m_ty x y <;> rw [hh] at hty <;> simp [kd] at hty <;> rfl
      refine put_go (w' := s_R w a y (some b)) C hd hx hy hlk hfin hM hS hsh n1 n2 rfl rfl rfl (fun b' hb => cel_R hb) (cel_R0 hsh hty) (fun H1 locs1 hM1 hS1 => hK _ _ _ _ h p l e R s m args below meth c ba D aC xa Qr C H1 locs1 cells slots ls hM1 hS1 hl h1 h2 h3)
    · exact h.elim
  · split at h
    · omega
    · omega
    · omega
    · split at h
      · rename_i b a r
        obtain ⟨hsh, hb01, h⟩ := h
        intro p l e R s m args below meth c ba D aC xa Qr C H locs cells slots ls hM hS hl h1 h2 h3
        have n1 : narrow (m_ty x y) (.int b) = .int b := by rcases hty with hty | hty <;> rw [hty] <;> rcases hb01 with rfl | rfl <;> rfl
        have n2 : fits (m_ty x y) (.int b) = true := by rcases hty with hty | hty <;> rw [hty] <;> rcases hb01 with rfl | rfl <;> rfl
        refine put_go (w' := s_I w a y b) C hd hx hy hlk hfin hM hS hsh n1 n2 rfl rfl (I0_A (hM.n0 (a := a) (by rw [hsh]; simp))) (fun b' hb => cel_A hb) (cel_I0 hsh (by rcases hty with hty | hty <;> rw [hty] <;> rfl)) (fun H1 locs1 hM1 hS1 => hK _ _ _ _ h p l e R s m args below meth c ba D aC xa Qr C H1 locs1 cells slots ls hM1 hS1 hl h1 h2 h3)
      · exact h.elim
set_option maxHeartbeats 4000000 in
theorem so_getstatic {idx : Nat} (hd : decode (m_c k) pc = .ok (.getstatic idx, 3)) (hlk : xI k pc (.getstatic idx) x y z u v = true) (hK : ∀ L st w g, K L st w g → RT k (pc + 3) L st w g Q) : ∀ L st w g, stW k J Q (pc, .getstatic idx, x, y, z, u, v) K L st w g → RT k pc L st w g Q := by
  intro L st w g h
  have hcase : x = 1 ∨ x = 2 ∨ x = 3 ∨ x = 4 ∨ (x ≠ 1 ∧ x ≠ 2 ∧ x ≠ 3 ∧ x ≠ 4) := by omega
  rcases hcase with rfl | rfl | rfl | rfl | ⟨n1, n2, n3, n4⟩
  · simp only [xI, decide_eq_true_eq] at hlk
    simp only [stW] at h
    intro p l e R s m args below meth c ba D aC xa Qr C H locs cells slots ls hM hS hl h1 h2 h3
    have hRO := C.2.1.2.2.2.2.1
    have hN : (Cond.fieldLinkNest (m_o k) idx "CrankCalculator" "POWERS_OF_TEN" "[J" "CrankCalculator").before args s = true := (hRO.2.2.2.2.2.2.2.2.1 _ (List.mem_filter.mpr ⟨hlk, rfl⟩)).use rfl
    exact va_getsN C.1.1 C.1.2.1 hRO.1 hS C.1.2.2.2.1 hN (fun _ q => q) hd (hK _ _ _ _ h p l e R s m args below meth c ba D aC xa Qr C H locs cells slots ls hM hS hl h1 h2 h3)
  · simp only [xI, decide_eq_true_eq] at hlk
    simp only [stW] at h
    intro p l e R s m args below meth c ba D aC xa Qr C H locs cells slots ls hM hS hl h1 h2 h3
    exact va_gets C.1.1 C.1.2.1 C.2.1.2.2.2.2.1.2.2.2.2.2.2.1.1 hS C.1.2.2.2.1 (T_at C.1.2.2.2.2.1 hlk rfl) (fun _ q => q) hd (hK _ _ _ _ h p l e R s m args below meth c ba D aC xa Qr C H locs cells slots ls hM hS hl h1 h2 h3)
  · simp only [xI, decide_eq_true_eq] at hlk
    simp only [stW] at h
    intro p l e R s m args below meth c ba D aC xa Qr C H locs cells slots ls hM hS hl h1 h2 h3
    exact va_gets C.1.1 C.1.2.1 C.2.1.2.2.2.2.1.2.2.2.2.2.2.2.2.2.2.2.2.1.1 hS C.1.2.2.2.1 (T_at C.1.2.2.2.2.1 hlk rfl) (fun _ q => q) hd (hK _ _ _ _ h p l e R s m args below meth c ba D aC xa Qr C H locs cells slots ls hM hS hl h1 h2 h3)
  · simp only [xI, decide_eq_true_eq] at hlk
    simp only [stW] at h
    intro p l e R s m args below meth c ba D aC xa Qr C H locs cells slots ls hM hS hl h1 h2 h3
    exact va_gets C.1.1 C.1.2.1 C.2.1.2.2.2.2.1.2.2.2.2.2.2.2.2.2.2.2.2.2.1.1 hS C.1.2.2.2.1 (T_at C.1.2.2.2.2.1 hlk rfl) (fun _ q => q) hd (hK _ _ _ _ h p l e R s m args below meth c ba D aC xa Qr C H locs cells slots ls hM hS hl h1 h2 h3)
  · have hlk' : Cond.fieldLink (m_o k) idx "jdk/internal/util/Preconditions" "SIOOBE_FORMATTER" "Ljava/util/function/BiFunction;" ∈ lw_tbl := by
      simp only [xI] at hlk
      first | exact of_decide_eq_true hlk | split at hlk
      all_goals first | exact absurd rfl n1 | exact absurd rfl n2 | exact absurd rfl n3 | exact absurd rfl n4 | exact of_decide_eq_true hlk
    have h' : K L (.null :: st) w g ∧ K L (.ref 42 :: st) w g := by
      simp only [stW] at h
      first | exact h | split at h
      all_goals first | exact absurd rfl n1 | exact absurd rfl n2 | exact absurd rfl n3 | exact absurd rfl n4 | exact h
    intro p l e R s m args below meth c ba D aC xa Qr C H locs cells slots ls hM hS hl h1 h2 h3
    rcases C.2.1.2.2.2.2.1.2.2.2.2.2.2.2.2.2.2.2.2.2.2 with hz | hz
    · exact va_gets C.1.1 C.1.2.1 hz hS C.1.2.2.2.1 (T_at C.1.2.2.2.2.1 hlk' rfl) (fun _ q => q) hd (hK _ _ _ _ h'.1 p l e R s m args below meth c ba D aC xa Qr C H locs cells slots ls hM hS hl h1 h2 h3)
    · exact va_gets C.1.1 C.1.2.1 hz hS C.1.2.2.2.1 (T_at C.1.2.2.2.2.1 hlk' rfl) (fun _ q => q) hd (hK _ _ _ _ h'.2 p l e R s m args below meth c ba D aC xa Qr C H locs cells slots ls hM hS hl h1 h2 h3)
theorem tys_at (aC : Nat → Nat) {t : Nat} (h : t < 7) : (m_tys aC)[t]? = some (aC t, m_el t) := by
  rcases (show t = 0 ∨ t = 1 ∨ t = 2 ∨ t = 3 ∨ t = 4 ∨ t = 5 ∨ t = 6 by omega) with rfl | rfl | rfl | rfl | rfl | rfl | rfl <;> rfl
set_option maxHeartbeats 4000000 in
theorem so_iaload (hd : decode (m_c k) pc = .ok (.iaload, 1)) (hK : ∀ L st w g, K L st w g → RT k (pc + 1) L st w g Q) : ∀ L st w g, stW k J Q (pc, .iaload, x, y, z, u, v) K L st w g → RT k pc L st w g Q := by
  intro L st w g h
  simp only [stW] at h
  split at h
  · rename_i b a r
    split at h
    · obtain ⟨rfl, hin, h⟩ := h
      intro p l e R s m args below meth c ba D aC xa Qr C H locs cells slots ls hM hS hl h1 h2 h3
      obtain ⟨m1, m2, m3, m4, m6, m7, m8, m9⟩ := id hM
      exact va_sld C.1.1 C.1.2.1 m7 (Nat.lt_of_lt_of_le m9 (Nat.le_trans C.2.1.2.2.2.1 hS.1)) (Nat.not_le.mpr m9) hS.at hin hd (hK _ _ _ _ h p l e R s m args below meth c ba D aC xa Qr C H locs cells slots ls hM hS hl h1 h2 h3)
    · obtain ⟨hsh, hin, h⟩ := h
      intro p l e R s m args below meth c ba D aC xa Qr C H locs cells slots ls hM hS hl h1 h2 h3
      have he := hM.arr (t := 0) hsh (by omega)
      rw [arc_i (by omega)] at he
      exact va_iald C.1.1 C.1.2.1 C.2.1.2.2.1 hM.1 (ix w a) 0 he (tys_at aC (by omega)) hin hd (hK _ _ _ _ h p l e R s m args below meth c ba D aC xa Qr C H locs cells slots ls hM hS hl h1 h2 h3)
  · exact h.elim
set_option maxHeartbeats 4000000 in
theorem so_baload (hd : decode (m_c k) pc = .ok (.baload, 1)) (hx : x = 1 ∨ x = 2 ∨ x = 60) (hK : ∀ L st w g, K L st w g → RT k (pc + 1) L st w g Q) : ∀ L st w g, stW k J Q (pc, .baload, x, y, z, u, v) K L st w g → RT k pc L st w g Q := by
  intro L st w g h
  by_cases h60 : x = 60
  · subst h60
    simp only [stW] at h
    split at h
    · rename_i b a r
      obtain ⟨ha, hin, h⟩ := h
      intro p l e R s m args below meth c ba D aC xa Qr C H locs cells slots ls hM hS hl h1 h2 h3
      have hR2 := C.2.1.2.2.2.2.1.2.2.2.2.2.2.2.2.2.2
      have hin' : b.toNatClampNeg < 100 := Nat.not_le.mp fun q => hin (Or.inr q)
      have := hK _ _ _ _ h p l e R s m args below meth c ba D aC xa Qr C H locs cells slots ls hM hS hl h1 h2 h3
      rcases ha with rfl | rfl
      · exact va_tb C.1.1 C.1.2.1 hR2.2.2.1.2 hS hin rfl hd this
      · exact va_tb C.1.1 C.1.2.1 hR2.2.2.2.1.2 hS hin rfl hd this
    · exact h.elim
  have hx := (show x = 1 ∨ x = 2 by omega)
  have h' : match (generalizing := false) st with | .int b :: .ref a :: r => (w_sh w a).1 = x + 1 ∧ vp_in b (w_sh w a).2 ∧ K L (.int (w_I w a b.toNatClampNeg) :: r) w g | _ => False := by
    rcases hx with rfl | rfl <;> (simp only [stW] at h; exact h)
  clear h
  split at h'
  · rename_i b a r
    obtain ⟨hsh, hin, h⟩ := h'
    intro p l e R s m args below meth c ba D aC xa Qr C H locs cells slots ls hM hS hl h1 h2 h3
    have he := hM.arr (t := x) hsh (by omega)
    rw [arc_i (by omega)] at he
    rcases hx with rfl | rfl
    · exact va_zald C.1.1 C.1.2.1 C.2.1.2.2.1 hM.1 (ix w a) 1 he (tys_at aC (by omega)) hin hd (hK _ _ _ _ h p l e R s m args below meth c ba D aC xa Qr C H locs cells slots ls hM hS hl h1 h2 h3)
    · exact va_bald C.1.1 C.1.2.1 C.2.1.2.2.1 hM.1 (ix w a) 2 he (tys_at aC (by omega)) hin hd (hK _ _ _ _ h p l e R s m args below meth c ba D aC xa Qr C H locs cells slots ls hM hS hl h1 h2 h3)
  · exact h'.elim
set_option maxHeartbeats 4000000 in
theorem so_caload (hd : decode (m_c k) pc = .ok (.caload, 1)) (hK : ∀ L st w g, K L st w g → RT k (pc + 1) L st w g Q) : ∀ L st w g, stW k J Q (pc, .caload, x, y, z, u, v) K L st w g → RT k pc L st w g Q := by
  intro L st w g h
  exact absurd h (fun q => q)
set_option maxHeartbeats 4000000 in
theorem so_laload (hd : decode (m_c k) pc = .ok (.laload, 1)) (hK : ∀ L st w g, K L st w g → RT k (pc + 1) L st w g Q) : ∀ L st w g, stW k J Q (pc, .laload, x, y, z, u, v) K L st w g → RT k pc L st w g Q := by
  intro L st w g h
  simp only [stW] at h
  split at h
  · rename_i b a r
    split at h
    · obtain ⟨rfl, hin, h⟩ := h
      intro p l e R s m args below meth c ba D aC xa Qr C H locs cells slots ls hM hS hl h1 h2 h3
      exact va_tl C.1.1 C.1.2.1 C.2.1.2.2.2.2.1.2.1 hS hin rfl hd (hK _ _ _ _ h p l e R s m args below meth c ba D aC xa Qr C H locs cells slots ls hM hS hl h1 h2 h3)
    · obtain ⟨hsh, hin, h⟩ := h
      intro p l e R s m args below meth c ba D aC xa Qr C H locs cells slots ls hM hS hl h1 h2 h3
      have he := hM.arr (t := 4) hsh (by omega)
      rw [arc_l] at he
      exact va_lald C.1.1 C.1.2.1 C.2.1.2.2.1 hM.1 (ix w a) 4 he (tys_at aC (by omega)) hin hd (hK _ _ _ _ h p l e R s m args below meth c ba D aC xa Qr C H locs cells slots ls hM hS hl h1 h2 h3)
  · exact h.elim
set_option maxHeartbeats 4000000 in
theorem so_aaload (hd : decode (m_c k) pc = .ok (.aaload, 1)) (hx : x = 5 ∨ x = 6) (hK : ∀ L st w g, K L st w g → RT k (pc + 1) L st w g Q) : ∀ L st w g, stW k J Q (pc, .aaload, x, y, z, u, v) K L st w g → RT k pc L st w g Q := by
  intro L st w g h
  simp only [stW] at h
  split at h
  · rename_i b a r
    obtain ⟨hsh, hin, h⟩ := h
    intro p l e R s m args below meth c ba D aC xa Qr C H locs cells slots ls hM hS hl h1 h2 h3
    have he := hM.arr (t := x) hsh (by omega)
    have := hK _ _ _ _ h p l e R s m args below meth c ba D aC xa Qr C H locs cells slots ls hM hS hl h1 h2 h3
    rw [List.map_cons, tr_rf] at this
    have hlt : b.toNatClampNeg < (w_sh w a).2 := Nat.not_le.mp fun q => hin (Or.inr q)
    rcases hx with rfl | rfl
    · rw [arc_q] at he
      exact va_aldq C.1.1 C.1.2.1 C.2.1.2.2.1 hM.1 (ix w a) 5 he (tys_at aC (by omega)) hin hd this
    · rw [arc_g] at he
      exact W.aald (v := va_rf ((w_R w a b.toNatClampNeg).map (sgm ba xa))) (ty := .array .int) C.1.1 C.1.2.1 (hM.1 (ix w a) _ he) ((C.2.1.2.2.1.2 6 _ (tys_at aC (by omega))).1 (w_sh w a).2 (fun j => va_rf ((w_R w a j).map (sgm ba xa)))) rfl (fun q => by cases q) (by show ¬ (b < 0 ∨ (arrV _ _ _).slots.size ≤ _); rw [arrV_size]; exact hin) (by show (arrV _ _ _).slots[_]? = _; rw [arrV_read _ _ hlt]) rfl rfl hd this
  · exact h.elim
/-- behind a store into an array -/
theorem arr_go {p : Program} {l : Launch} {e : Env} {R : Room} {s : State} {m : MethodId} {args : Array Value} {below : List Frame} {meth : Method} {c : Code} {ba : Nat} {D : va_G} {aC xa : Nat → Nat} {Qr : State → Prop} (C : Cx k p l e R s m args below meth c ba D aC xa Q Qr) {H : Heap} {locs : List Loc} {cells slots : Nat} {g : JFrame} {w w' : mW} {a : Nat} {ee : va_E}
    (hM : Sim ba xa aC D w s H) (hS : va_S (aA ba) s.heap H locs) (h50 : (w_sh w a).1 < 50) (hsh' : w_sh w' = w_sh w) (hnn : w_n w' = w_n w) (hI : w_I w' 0 = w_I w 0) (hc : ∀ b, b ≠ a → cel ba xa aC w' b = cel ba xa aC w b) (hce : cel ba xa aC w' a = ee)
    (kk : ∀ (H1 : Heap) (locs1 : List Loc), Sim ba xa aC D w' s H1 → va_S (aA ba) s.heap H1 locs1 → W p l e R s m args below meth c H1 locs1 cells slots Qr g) :
    ∀ (H1 : Heap) (locs1 : List Loc), va_P D vwCl ((wld ba xa aC w).set (ix w a) (sgm ba xa a, ee)) H1 → va_D (aA ba) ((wld ba xa aC w).set (ix w a) (sgm ba xa a, ee)) → va_S (aA ba) H H1 locs1 → W p l e R s m args below meth c H1 locs1 cells slots Qr g := fun H1 locs1 hP1 _ hS1 =>
  kk H1 locs1 (hM.put (hM.in h50).1 h50 hsh' hnn hI hc hce hP1 hS1.1 (fun q hq => hS1.2.1 q (Nat.lt_of_lt_of_le hq (Nat.le_trans C.2.1.2.2.2.1 hS.1)) (Nat.not_le.mpr hq))) (hS.tr hS1)
set_option maxHeartbeats 4000000 in
theorem so_iastore (hd : decode (m_c k) pc = .ok (.iastore, 1)) (hK : ∀ L st w g, K L st w g → RT k (pc + 1) L st w g Q) : ∀ L st w g, stW k J Q (pc, .iastore, x, y, z, u, v) K L st w g → RT k pc L st w g Q := by
  intro L st w g h
  simp only [stW] at h
  split at h
  · rename_i d b a r
    obtain ⟨hsh, hin, h⟩ := h
    intro p l e R s m args below meth c ba D aC xa Qr C H locs cells slots ls hM hS hl h1 h2 h3
    have he := hM.arr (t := 0) hsh (by omega)
    rw [arc_i (by omega)] at he
    exact va_iast C.1.1 C.1.2.1 C.2.1.2.2.1 hM.1 wld_D hS.at (ix w a) 0 he (tys_at aC (by omega)) hin hd (arr_go (w' := s_I w a b.toNatClampNeg d) C hM hS (by omega) rfl rfl (I0_A (hM.n0 (by omega))) (fun b' hb => cel_A hb) (cel_Aa (t := 0) hsh (by omega)) (fun H1 locs1 hM1 hS1 => hK _ _ _ _ h p l e R s m args below meth c ba D aC xa Qr C H1 locs1 cells slots ls hM1 hS1 hl h1 h2 h3))
  · exact h.elim
set_option maxHeartbeats 4000000 in
theorem so_bastore (hd : decode (m_c k) pc = .ok (.bastore, 1)) (hK : ∀ L st w g, K L st w g → RT k (pc + 1) L st w g Q) : ∀ L st w g, stW k J Q (pc, .bastore, x, y, z, u, v) K L st w g → RT k pc L st w g Q := by
  intro L st w g h
  simp only [stW] at h
  split at h
  · rename_i d b a r
    split at h
    · obtain ⟨hsh, hin, h⟩ := h
      intro p l e R s m args below meth c ba D aC xa Qr C H locs cells slots ls hM hS hl h1 h2 h3
      have he := hM.arr (t := 1) hsh (by omega)
      rw [arc_i (by omega)] at he
      exact va_zast C.1.1 C.1.2.1 C.2.1.2.2.1 hM.1 wld_D hS.at (ix w a) 1 he (tys_at aC (by omega)) hin hd (arr_go (w' := s_I w a b.toNatClampNeg (vp_nar .boolean d)) C hM hS (by omega) rfl rfl (I0_A (hM.n0 (by omega))) (fun b' hb => cel_A hb) (cel_Aa (t := 1) hsh (by omega)) (fun H1 locs1 hM1 hS1 => hK _ _ _ _ h p l e R s m args below meth c ba D aC xa Qr C H1 locs1 cells slots ls hM1 hS1 hl h1 h2 h3))
    · obtain ⟨hsh, hin, h⟩ := h
      intro p l e R s m args below meth c ba D aC xa Qr C H locs cells slots ls hM hS hl h1 h2 h3
      have he := hM.arr (t := 2) hsh (by omega)
      rw [arc_i (by omega)] at he
      exact va_bast C.1.1 C.1.2.1 C.2.1.2.2.1 hM.1 wld_D hS.at (ix w a) 2 he (tys_at aC (by omega)) hin hd (arr_go (w' := s_I w a b.toNatClampNeg (vp_nar .byte d)) C hM hS (by omega) rfl rfl (I0_A (hM.n0 (by omega))) (fun b' hb => cel_A hb) (cel_Aa (t := 2) hsh (by omega)) (fun H1 locs1 hM1 hS1 => hK _ _ _ _ h p l e R s m args below meth c ba D aC xa Qr C H1 locs1 cells slots ls hM1 hS1 hl h1 h2 h3))
  · exact h.elim
set_option maxHeartbeats 4000000 in
theorem so_castore (hd : decode (m_c k) pc = .ok (.castore, 1)) (hK : ∀ L st w g, K L st w g → RT k (pc + 1) L st w g Q) : ∀ L st w g, stW k J Q (pc, .castore, x, y, z, u, v) K L st w g → RT k pc L st w g Q := by
  intro L st w g h
  exact absurd h (fun q => q)
set_option maxHeartbeats 4000000 in
theorem so_lastore (hd : decode (m_c k) pc = .ok (.lastore, 1)) (hK : ∀ L st w g, K L st w g → RT k (pc + 1) L st w g Q) : ∀ L st w g, stW k J Q (pc, .lastore, x, y, z, u, v) K L st w g → RT k pc L st w g Q := by
  intro L st w g h
  simp only [stW] at h
  split at h
  · rename_i d b a r
    obtain ⟨hsh, hin, h⟩ := h
    intro p l e R s m args below meth c ba D aC xa Qr C H locs cells slots ls hM hS hl h1 h2 h3
    have he := hM.arr (t := 4) hsh (by omega)
    rw [arc_l] at he
    exact va_last C.1.1 C.1.2.1 C.2.1.2.2.1 hM.1 wld_D hS.at (ix w a) 4 he (tys_at aC (by omega)) hin hd (arr_go (w' := s_J w a b.toNatClampNeg d) C hM hS (by omega) rfl rfl rfl (fun b' hb => cel_J hb) (cel_Ja hsh) (fun H1 locs1 hM1 hS1 => hK _ _ _ _ h p l e R s m args below meth c ba D aC xa Qr C H1 locs1 cells slots ls hM1 hS1 hl h1 h2 h3))
  · exact h.elim
set_option maxHeartbeats 4000000 in
theorem so_aastore (hd : decode (m_c k) pc = .ok (.aastore, 1)) (hx : x = 5 ∨ x = 6) (hK : ∀ L st w g, K L st w g → RT k (pc + 1) L st w g Q) : ∀ L st w g, stW k J Q (pc, .aastore, x, y, z, u, v) K L st w g → RT k pc L st w g Q := by
  intro L st w g h
  rcases hx with rfl | rfl <;> simp only [stW] at h <;> split at h
  · rename_i d b a r
    obtain ⟨hsh, hin, hsd, h⟩ := h
    intro p l e R s m args below meth c ba D aC xa Qr C H locs cells slots ls hM hS hl h1 h2 h3
    have he := hM.arr (t := 5) hsh (by omega)
    rw [arc_q] at he
    have hv := hM.obj hsd
    exact va_astq C.1.1 C.1.2.1 C.2.1.2.2.1 hM.1 wld_D hS.at (ix w a) 5 (ix w d) 2 (r := m_cl 2) he (tys_at aC (by omega)) hv (cl_at (by omega)) hin hd (arr_go (w' := s_R w a b.toNatClampNeg (some d)) C hM hS (by omega) rfl rfl rfl (fun b' hb => cel_R hb) (cel_Ra hsh) (fun H1 locs1 hM1 hS1 => hK _ _ _ _ h p l e R s m args below meth c ba D aC xa Qr C H1 locs1 cells slots ls hM1 hS1 hl h1 h2 h3))
  · exact h.elim
  · rename_i d b a r
    obtain ⟨hsh, hin, hsd, h⟩ := h
    intro p l e R s m args below meth c ba D aC xa Qr C H locs cells slots ls hM hS hl h1 h2 h3
    have he := hM.arr (t := 6) hsh (by omega)
    rw [arc_g] at he
    have hv := hM.arr (t := 0) hsd (by omega)
    rw [arc_i (by omega)] at hv
    obtain ⟨comp, cA, kA, f1, f2, f3, f4, f5⟩ := AI_spec (C.2.1.2.2.2.2.1.2.2.2.2.2.2.2.2.2.2.1 : va_AI s)
    have e6 : cA = aC 6 := Option.some.inj (f5.symm.trans (C.2.1.2.2.1.2 6 _ (tys_at aC (by omega))).2)
    have e0 : comp = aC 0 := Option.some.inj (f1.symm.trans (C.2.1.2.2.1.2 0 _ (tys_at aC (by omega))).2)
    subst e6; subst e0
    obtain ⟨-, k0, hk0, -⟩ := (C.2.1.2.2.1.2 0 _ (tys_at aC (by omega))).1 0 (fun _ => .null)
    have hlt : b.toNatClampNeg < (w_sh w a).2 := Nat.not_le.mp fun q => hin (Or.inr q)
    have h0 : ¬ b < 0 := fun q => hin (Or.inl q)
    have ha := hM.1 (ix w a) _ he
    refine W.aast C.1.1 C.1.2.1 ha (fun q h => by cases h) (fun h => by cases h) f3 f4 rfl hk0 ⟨h0, by show _ < (arrV _ _ _).slots.size; rw [arrV_size]; exact hlt⟩ (hM.1 (ix w d) _ hv) (fun q h => by cases h) hk0 (va_asg _ _) rfl rfl hd fun H1 e' z' oq => ?_
    have hkk := arr_go (w' := s_R w a b.toNatClampNeg (some d)) C hM hS (by omega) rfl rfl rfl (fun b' hb => cel_R hb) (cel_Rg hsh) (fun H1 locs1 hM1 hS1 => hK _ _ _ _ h p l e R s m args below meth c ba D aC xa Qr C H1 locs1 cells slots ls hM1 hS1 hl h1 h2 h3)
    refine hkk H1 _ (hM.1.set wld_D he ?_ oq) (wld_D.set he) (hS.at.put z' oq (wld_D.2 (ix w a) _ he))
    show H1[sgm ba xa a]? = some (vp_cell _ _)
    rw [e', vp_cell_q, vp_cell_q, arrV_store]
    congr 2
    funext q
    by_cases hq : q = b.toNatClampNeg
    · subst hq
      simp [updV, va_up, va_rf]
    · simp [updV, va_up, hq]
  · exact h.elim
set_option maxHeartbeats 4000000 in
theorem so_alen (hd : decode (m_c k) pc = .ok (.arraylength, 1)) (hz : z ≠ 4) (hx : x < 7 ∨ x = 49) (hK : ∀ L st w g, K L st w g → RT k (pc + 1) L st w g Q) : ∀ L st w g, stW k J Q (pc, .arraylength, x, y, z, u, v) K L st w g → RT k pc L st w g Q := by
  intro L st w g h
  have h' : match (generalizing := false) st with | .ref a :: r => (w_sh w a).1 = x + 1 ∧ K L (.int (Int32.ofNat (w_sh w a).2) :: r) w g | _ => False := by
    simp only [stW] at h
    first | exact h | split at h
    all_goals first | exact absurd rfl hz | exact h
  clear h
  split at h'
  · rename_i a r
    obtain ⟨hsh, h⟩ := h'
    intro p l e R s m args below meth c ba D aC xa Qr C H locs cells slots ls hM hS hl h1 h2 h3
    rcases hx with hx | rfl
    · have he := hM.arr (t := x) hsh (by omega)
      exact va_alen C.1.1 C.1.2.1 C.2.1.2.2.1 hM.1 (ix w a) x he (tys_at aC hx) rfl hd (hK _ _ _ _ h p l e R s m args below meth c ba D aC xa Qr C H locs cells slots ls hM hS hl h1 h2 h3)
    · obtain ⟨m1, m2, m3, m4, m6, m7, m8, m9⟩ := id hM
      obtain rfl := m6.2 a hsh
      exact va_slen C.1.1 C.1.2.1 m7 (Nat.lt_of_lt_of_le m9 (Nat.le_trans C.2.1.2.2.2.1 hS.1)) (Nat.not_le.mpr m9) hS.at hd (hK _ _ _ _ h p l e R s m args below meth c ba D aC xa Qr C H locs cells slots ls hM hS hl h1 h2 h3)
  · exact h'.elim
set_option maxHeartbeats 4000000 in
theorem so_alen4 (hd : decode (m_c k) pc = .ok (.arraylength, 1)) (hK : ∀ L st w g, K L st w g → RT k (pc + 1) L st w g Q) : ∀ L st w g, stW k J Q (pc, .arraylength, x, y, 4, u, v) K L st w g → RT k pc L st w g Q := by
  intro L st w g h
  simp only [stW] at h
  split at h
  · rename_i a0 r
    obtain ⟨a, ha0⟩ : ∃ n : Nat, n = a0 := ⟨a0, rfl⟩
    subst ha0
    obtain ⟨hc, hw⟩ := h
    simp only [Nat.lt_eq, Nat.le_eq] at hc hw
    intro p l e R s m args below meth c ba D aC xa Qr C H locs cells slots ls hM hS hl h1 h2 h3
    by_cases ha : @LT.lt Nat instLTNat a 100
    · obtain ⟨ha1, ha2, h⟩ := hc ha
      have hl16 : m_str.length = 16 := rfl
      have hj : m_str[a - 52]? = some (m_str[a - 52]'(by omega)) := List.getElem?_eq_getElem (by omega)
      have hf := (C.2.1.2.2.2.2.1.2.2.2.2.2.2.2.2.2.2.2.1 (a - 52) _ hj).2
      rw [show 52 + (a - 52) = a by omega] at hf
      have := hK _ _ _ _ h p l e R s m args below meth c ba D aC xa Qr C H locs cells slots ls hM hS hl h1 h2 h3
      rw [List.map_cons, show trv ba xa (.ref a) = .ref (xa a) by simp [trv, sgm, show a < 100 by omega]]
      exact va_tlen C.1.1 C.1.2.1 hf hS rfl hd this
    · obtain ⟨hsh, h⟩ := hw (by omega)
      have he := hM.arr (t := 2) hsh (by omega)
      exact va_alen C.1.1 C.1.2.1 C.2.1.2.2.1 hM.1 (ix w a) 2 he (tys_at aC (by omega)) rfl hd (hK _ _ _ _ h p l e R s m args below meth c ba D aC xa Qr C H locs cells slots ls hM hS hl h1 h2 h3)
  · exact h.elim
end ROWS10
