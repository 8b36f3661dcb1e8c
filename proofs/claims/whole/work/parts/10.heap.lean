theorem va_S.tr {A : Nat → Prop} {H0 H H1 : Heap} {locs locs1 : List Loc} (h : va_S A H0 H locs) (h1 : va_S A H H1 locs1) : va_S A H0 H1 locs1 :=
  ⟨Nat.le_trans h.1 h1.1, fun q a b => (h1.2.1 q (Nat.lt_of_lt_of_le a h.1) b).trans (h.2.1 q a b), h1.2.2⟩
theorem va_S.at {A : Nat → Prop} {H0 H : Heap} {locs : List Loc} (h : va_S A H0 H locs) : va_S A H H locs := ⟨Nat.le_refl _, fun _ _ _ => rfl, h.2.2⟩
section ROWS10
variable {k pc : Nat} {J : Int → mK} {Q : mW → mO → Prop} {K : mK} {x y z u v : Nat}
set_option maxHeartbeats 4000000 in
theorem so_getfield {idx : Nat} (hd : decode (m_c k) pc = .ok (.getfield idx, 3)) (hv : x < 11 ∧ y < (m_cl x).2.2 ∧ kd (m_ty x y) = z) (hlk : Cond.fieldLink (m_o k) idx ((m_cl x).2.1 y).1 ((m_cl x).2.1 y).2.1 ((m_cl x).2.1 y).2.2.1 ∈ lw_tbl) (hK : ∀ L st w g, K L st w g → RT k (pc + 3) L st w g Q) : ∀ L st w g, stW k J Q (pc, .getfield idx, x, y, z, u, v) K L st w g → RT k pc L st w g Q := by
  intro L st w g h
  simp only [stW] at h
  split at h
  · rename_i a r
    obtain ⟨hx, hy, hz⟩ := hv
    obtain ⟨hsh, h⟩ := h
    intro p l e R s m args below meth c ba D aC xa Qr C H locs cells slots ls hM hS hl h1 h2 h3
    have he := hM.obj hsh
    have key : ∀ vv : Value, fld ba xa w x a y = vv → W p l e R s m args below meth c H locs cells slots Qr (F0 m (pc + 3) ls (vv :: r.map (trv ba xa))) → W p l e R s m args below meth c H locs cells slots Qr (F0 m pc ls ((Value.ref a :: r).map (trv ba xa))) := fun vv hvv kk =>
      va_get C.1.1 C.1.2.1 C.1.2.2.2.2.1 (F_in x hx) C.1.2.2.2.1 C.2.1.2.2.1 hM.1 (a - 100) he (cl_at hx) y hy (T_at C.1.2.2.2.2.1 hlk rfl) (fun _ q => q) (by rw [flds_at hy, hvv]) hd kk
    split at h
    · exact key _ (fld_0 hz) (hK _ _ _ _ h p l e R s m args below meth c ba D aC xa Qr C H locs cells slots ls hM hS hl h1 h2 h3)
    · exact key _ (fld_1 hz) (hK _ _ _ _ h p l e R s m args below meth c ba D aC xa Qr C H locs cells slots ls hM hS hl h1 h2 h3)
    · rename_i z1 z2
      have q1 : z ≠ 0 := z1
      have q2 : z ≠ 1 := z2
      have hz2 : kd (m_ty x y) = 2 := by have := kd_ty x hx y hy; omega
      refine key _ (fld_2 hz2) ?_
      have := hK _ _ _ _ h p l e R s m args below meth c ba D aC xa Qr C H locs cells slots ls hM hS hl h1 h2 h3
      rw [List.map_cons, tr_rf] at this
      exact this
  · exact h.elim
/-- a field is written, final or not -/
theorem put_go {p : Program} {l : Launch} {e : Env} {R : Room} {s : State} {m : MethodId} {args : Array Value} {below : List Frame} {meth : Method} {c : Code} {ba : Nat} {D : va_G} {aC xa : Nat → Nat} {Qr : State → Prop} {idx : Nat} (C : Cx k p l e R s m args below meth c ba D aC xa Q Qr) {H : Heap} {locs : List Loc} {cells slots : Nat} {ls : Array Slot} {w w' : mW} {a : Nat} {rest : List Value} {vv : Value}
    (hd : decode (m_c k) pc = .ok (.putfield idx, 3)) (hx : x < 11) (hy : y < (m_cl x).2.2) (hlk : Cond.fieldLink (m_o k) idx ((m_cl x).2.1 y).1 ((m_cl x).2.1 y).2.1 ((m_cl x).2.1 y).2.2.1 ∈ lw_tbl) (hfin : ((m_cl x).2.1 y).2.2.2 = true → (m_y k).name = "<init>" ∧ ((m_cl x).2.1 y).1 = m_o k)
    (hM : Sim ba xa aC D w s H) (hS : va_S (aA ba) s.heap H locs) (hsh : w_sh w a = (0, x)) (hn : narrow (m_ty x y) vv = vv) (hfit : fits (m_ty x y) vv = true)
    (hsh' : w_sh w' = w_sh w) (hnn : w_n w' = w_n w) (hI : w_I w' 0 = w_I w 0) (hc : ∀ b, b ≠ a → cel ba xa aC w' b = cel ba xa aC w b) (hce : cel ba xa aC w' a = .inr (x, (flds ba xa w x a).set y vv))
    (kk : ∀ (H1 : Heap) (locs1 : List Loc), Sim ba xa aC D w' s H1 → va_S (aA ba) s.heap H1 locs1 → W p l e R s m args below meth c H1 locs1 cells slots Qr (F0 m (pc + 3) ls rest)) :
    W p l e R s m args below meth c H locs cells slots Qr (F0 m pc ls (vv :: .ref (sgm ba xa a) :: rest)) := by
  have he := hM.obj hsh
  have h100 : 100 ≤ a := (hM.in (a := a) (by rw [hsh]; simp)).1
  have hp := F_ty x hx y hy
  have hlen : y < (flds ba xa w x a).length := by simpa [flds] using hy
  have kk' : ∀ (H1 : Heap) (locs1 : List Loc), va_P D vwCl ((wld ba xa aC w).set (a - 100) (sgm ba xa a, .inr (x, (flds ba xa w x a).set y vv))) H1 → va_D (aA ba) ((wld ba xa aC w).set (a - 100) (sgm ba xa a, .inr (x, (flds ba xa w x a).set y vv))) → va_S (aA ba) H H1 locs1 → W p l e R s m args below meth c H1 locs1 cells slots Qr (F0 m (pc + 3) ls rest) := fun H1 locs1 hP1 _ hS1 =>
    kk H1 locs1 (hM.put h100 hsh' hnn hI hc hce hP1 hS1.1 (fun q hq => hS1.2.1 q (Nat.lt_of_lt_of_le hq (Nat.le_trans C.2.1.2.2.2.1 hS.1)) (Nat.not_le.mpr hq))) (hS.tr hS1)
  cases hf : ((m_cl x).2.1 y).2.2.2 with
  | false => exact va_put C.1.1 C.1.2.1 C.1.2.2.2.2.1 (F_in x hx) (m_ty x) (F_ty x hx) (F_nm x hx) C.1.2.2.2.1 C.2.1.2.2.1 hM.1 wld_D hS.at (a - 100) he (cl_at hx) y hy (T_at C.1.2.2.2.2.1 hlk rfl) (fun _ q => q) hf hp hn hfit hlen hd kk'
  | true => exact va_putF C.1.1 C.1.2.1 C.1.2.2.2.2.1 (F_in x hx) (m_ty x) (F_ty x hx) (F_nm x hx) C.1.2.2.2.1 C.2.1.2.2.1 hM.1 wld_D hS.at (a - 100) he (cl_at hx) y hy (T_at C.1.2.2.2.2.1 hlk rfl) (fun _ q => q) hf (by rw [← C.1.2.2.2.2.2.1]; exact (hfin hf).1) (hfin hf).2 hp hn hfit hlen hd kk'
theorem Sim.n0 {ba : Nat} {xa aC : Nat → Nat} {D : va_G} {w : mW} {s : State} {H : Heap} (hM : Sim ba xa aC D w s H) {a : Nat} (h : (w_sh w a).1 < 50) : a ≠ 0 := by
  have := (hM.in h).1; omega
theorem I0_A {w : mW} {a : Nat} {f : Nat → Int32} (h : a ≠ 0) : w_I (s_A w a f) 0 = w_I w 0 := by simp [w_I, s_A, Ne.symm h]
set_option maxHeartbeats 4000000 in
theorem so_putfield {idx : Nat} (hd : decode (m_c k) pc = .ok (.putfield idx, 3)) (hx : x < 11) (hy : y < (m_cl x).2.2) (hlk : Cond.fieldLink (m_o k) idx ((m_cl x).2.1 y).1 ((m_cl x).2.1 y).2.1 ((m_cl x).2.1 y).2.2.1 ∈ lw_tbl) (hz : z = 0 ∧ m_ty x y = .int ∨ z = 1 ∧ m_ty x y = .long ∨ z = 2 ∧ kd (m_ty x y) = 2 ∨ 2 < z ∧ m_ty x y = .boolean) (hfin : ((m_cl x).2.1 y).2.2.2 = true → (m_y k).name = "<init>" ∧ ((m_cl x).2.1 y).1 = m_o k) (hK : ∀ L st w g, K L st w g → RT k (pc + 3) L st w g Q) : ∀ L st w g, stW k J Q (pc, .putfield idx, x, y, z, u, v) K L st w g → RT k pc L st w g Q := by
  intro L st w g h
  rcases hz with ⟨rfl, hty⟩ | ⟨rfl, hty⟩ | ⟨rfl, hty⟩ | ⟨hz, hty⟩ <;> simp only [stW] at h
  · split at h
    · rename_i b a r
      obtain ⟨hsh, h⟩ := h
      intro p l e R s m args below meth c ba D aC xa Qr C H locs cells slots ls hM hS hl h1 h2 h3
      refine put_go (w' := s_I w a y b) C hd hx hy hlk hfin hM hS hsh (by rw [hty]; rfl) (by rw [hty]; rfl) rfl rfl (I0_A (hM.n0 (a := a) (by rw [hsh]; simp))) (fun b' hb => cel_A hb) (cel_I0 hsh (by rw [hty]; rfl)) (fun H1 locs1 hM1 hS1 => hK _ _ _ _ h p l e R s m args below meth c ba D aC xa Qr C H1 locs1 cells slots ls hM1 hS1 hl h1 h2 h3)
    · exact h.elim
  · split at h
    · rename_i b a r
      obtain ⟨hsh, h⟩ := h
      intro p l e R s m args below meth c ba D aC xa Qr C H locs cells slots ls hM hS hl h1 h2 h3
      refine put_go (w' := s_J w a y b) C hd hx hy hlk hfin hM hS hsh (by rw [hty]; rfl) (by rw [hty]; rfl) rfl rfl rfl (fun b' hb => cel_J hb) (cel_J0 hsh (by rw [hty]; rfl)) (fun H1 locs1 hM1 hS1 => hK _ _ _ _ h p l e R s m args below meth c ba D aC xa Qr C H1 locs1 cells slots ls hM1 hS1 hl h1 h2 h3)
    · exact h.elim
  · split at h
    · rename_i b a r
      obtain ⟨hsh, h⟩ := h
      intro p l e R s m args below meth c ba D aC xa Qr C H locs cells slots ls hM hS hl h1 h2 h3
      have n1 : narrow (m_ty x y) (.ref (sgm ba xa b)) = .ref (sgm ba xa b) := by cases hh : m_ty x y <;> rw [hh] at hty <;> simp [kd] at hty <;> rfl
      have n2 : fits (m_ty x y) (.ref (sgm ba xa b)) = true := by cases hh : m_ty x y <;> rw [hh] at hty <;> simp [kd] at hty <;> rfl
      refine put_go (w' := s_R w a y (some b)) C hd hx hy hlk hfin hM hS hsh n1 n2 rfl rfl rfl (fun b' hb => cel_R hb) (cel_R0 hsh hty) (fun H1 locs1 hM1 hS1 => hK _ _ _ _ h p l e R s m args below meth c ba D aC xa Qr C H1 locs1 cells slots ls hM1 hS1 hl h1 h2 h3)
    · exact h.elim
  · split at h
    · omega
    · omega
    · omega
    · split at h
      · rename_i b a r
        obtain ⟨hsh, hb01, h⟩ := h
        intro p l e R s m args below meth c ba D aC xa Qr C H locs cells slots ls hM hS hl h1 h2 h3
        have n1 : narrow (m_ty x y) (.int b) = .int b := by rw [hty]; rcases hb01 with rfl | rfl <;> rfl
        have n2 : fits (m_ty x y) (.int b) = true := by rw [hty]; rcases hb01 with rfl | rfl <;> rfl
        refine put_go (w' := s_I w a y b) C hd hx hy hlk hfin hM hS hsh n1 n2 rfl rfl (I0_A (hM.n0 (a := a) (by rw [hsh]; simp))) (fun b' hb => cel_A hb) (cel_I0 hsh (by rw [hty]; rfl)) (fun H1 locs1 hM1 hS1 => hK _ _ _ _ h p l e R s m args below meth c ba D aC xa Qr C H1 locs1 cells slots ls hM1 hS1 hl h1 h2 h3)
      · exact h.elim
theorem so_getstatic {idx : Nat} (hd : decode (m_c k) pc = .ok (.getstatic idx, 3)) (hlk : Cond.fieldLinkNest (m_o k) idx "CrankCalculator" "POWERS_OF_TEN" "[J" "CrankCalculator" ∈ lw_tbl) (hK : ∀ L st w g, K L st w g → RT k (pc + 3) L st w g Q) : ∀ L st w g, stW k J Q (pc, .getstatic idx, x, y, z, u, v) K L st w g → RT k pc L st w g Q := by
  intro L st w g h
  simp only [stW] at h
  intro p l e R s m args below meth c ba D aC xa Qr C H locs cells slots ls hM hS hl h1 h2 h3
  have hRO := C.2.1.2.2.2.2.1
  have hN : (Cond.fieldLinkNest (m_o k) idx "CrankCalculator" "POWERS_OF_TEN" "[J" "CrankCalculator").before args s = true := (hRO.2.2.2.2.2.2.2.2.1 _ (List.mem_filter.mpr ⟨hlk, rfl⟩)).use rfl
  exact va_getsN C.1.1 C.1.2.1 hRO.1 hS C.1.2.2.2.1 hN (fun _ q => q) hd (hK _ _ _ _ h p l e R s m args below meth c ba D aC xa Qr C H locs cells slots ls hM hS hl h1 h2 h3)
theorem tys_at (aC : Nat → Nat) {t : Nat} (h : t < 6) : (m_tys aC)[t]? = some (aC t, m_el t) := by
  rcases (show t = 0 ∨ t = 1 ∨ t = 2 ∨ t = 3 ∨ t = 4 ∨ t = 5 by omega) with rfl | rfl | rfl | rfl | rfl | rfl <;> rfl
set_option maxHeartbeats 4000000 in
theorem so_iaload (hd : decode (m_c k) pc = .ok (.iaload, 1)) (hK : ∀ L st w g, K L st w g → RT k (pc + 1) L st w g Q) : ∀ L st w g, stW k J Q (pc, .iaload, x, y, z, u, v) K L st w g → RT k pc L st w g Q := by
  intro L st w g h
  simp only [stW] at h
  split at h
  · rename_i b a r
    split at h
    · obtain ⟨rfl, hin, h⟩ := h
      intro p l e R s m args below meth c ba D aC xa Qr C H locs cells slots ls hM hS hl h1 h2 h3
      obtain ⟨m1, m2, m3, m4, m6, m7, m8, m9⟩ := id hM
      exact va_sld C.1.1 C.1.2.1 m7 (Nat.lt_of_lt_of_le m9 (Nat.le_trans C.2.1.2.2.2.1 hS.1)) (Nat.not_le.mpr m9) hS.at hin hd (hK _ _ _ _ h p l e R s m args below meth c ba D aC xa Qr C H locs cells slots ls hM hS hl h1 h2 h3)
    · obtain ⟨hsh, hin, h⟩ := h
      intro p l e R s m args below meth c ba D aC xa Qr C H locs cells slots ls hM hS hl h1 h2 h3
      have he := hM.arr (t := 0) hsh (by omega)
      rw [arc_i (by omega)] at he
      exact va_iald C.1.1 C.1.2.1 C.2.1.2.2.1 hM.1 (a - 100) 0 he (tys_at aC (by omega)) hin hd (hK _ _ _ _ h p l e R s m args below meth c ba D aC xa Qr C H locs cells slots ls hM hS hl h1 h2 h3)
  · exact h.elim
set_option maxHeartbeats 4000000 in
theorem so_baload (hd : decode (m_c k) pc = .ok (.baload, 1)) (hx : x = 1 ∨ x = 2) (hK : ∀ L st w g, K L st w g → RT k (pc + 1) L st w g Q) : ∀ L st w g, stW k J Q (pc, .baload, x, y, z, u, v) K L st w g → RT k pc L st w g Q := by
  intro L st w g h
  simp only [stW] at h
  split at h
  · rename_i b a r
    obtain ⟨hsh, hin, h⟩ := h
    intro p l e R s m args below meth c ba D aC xa Qr C H locs cells slots ls hM hS hl h1 h2 h3
    have he := hM.arr (t := x) hsh (by omega)
    rw [arc_i (by omega)] at he
    rcases hx with rfl | rfl
    · exact va_zald C.1.1 C.1.2.1 C.2.1.2.2.1 hM.1 (a - 100) 1 he (tys_at aC (by omega)) hin hd (hK _ _ _ _ h p l e R s m args below meth c ba D aC xa Qr C H locs cells slots ls hM hS hl h1 h2 h3)
    · exact va_bald C.1.1 C.1.2.1 C.2.1.2.2.1 hM.1 (a - 100) 2 he (tys_at aC (by omega)) hin hd (hK _ _ _ _ h p l e R s m args below meth c ba D aC xa Qr C H locs cells slots ls hM hS hl h1 h2 h3)
  · exact h.elim
set_option maxHeartbeats 4000000 in
theorem so_caload (hd : decode (m_c k) pc = .ok (.caload, 1)) (hK : ∀ L st w g, K L st w g → RT k (pc + 1) L st w g Q) : ∀ L st w g, stW k J Q (pc, .caload, x, y, z, u, v) K L st w g → RT k pc L st w g Q := by
  intro L st w g h
  simp only [stW] at h
  split at h
  · rename_i b a r
    obtain ⟨hsh, hin, h⟩ := h
    intro p l e R s m args below meth c ba D aC xa Qr C H locs cells slots ls hM hS hl h1 h2 h3
    have he := hM.arr (t := 3) hsh (by omega)
    rw [arc_i (by omega)] at he
    exact va_cald C.1.1 C.1.2.1 C.2.1.2.2.1 hM.1 (a - 100) 3 he (tys_at aC (by omega)) hin hd (hK _ _ _ _ h p l e R s m args below meth c ba D aC xa Qr C H locs cells slots ls hM hS hl h1 h2 h3)
  · exact h.elim
set_option maxHeartbeats 4000000 in
theorem so_laload (hd : decode (m_c k) pc = .ok (.laload, 1)) (hK : ∀ L st w g, K L st w g → RT k (pc + 1) L st w g Q) : ∀ L st w g, stW k J Q (pc, .laload, x, y, z, u, v) K L st w g → RT k pc L st w g Q := by
  intro L st w g h
  simp only [stW] at h
  split at h
  · rename_i b a r
    split at h
    · obtain ⟨rfl, hin, h⟩ := h
      intro p l e R s m args below meth c ba D aC xa Qr C H locs cells slots ls hM hS hl h1 h2 h3
      exact va_tl C.1.1 C.1.2.1 C.2.1.2.2.2.2.1.2.1 hS hin rfl hd (hK _ _ _ _ h p l e R s m args below meth c ba D aC xa Qr C H locs cells slots ls hM hS hl h1 h2 h3)
    · obtain ⟨hsh, hin, h⟩ := h
      intro p l e R s m args below meth c ba D aC xa Qr C H locs cells slots ls hM hS hl h1 h2 h3
      have he := hM.arr (t := 4) hsh (by omega)
      rw [arc_l] at he
      exact va_lald C.1.1 C.1.2.1 C.2.1.2.2.1 hM.1 (a - 100) 4 he (tys_at aC (by omega)) hin hd (hK _ _ _ _ h p l e R s m args below meth c ba D aC xa Qr C H locs cells slots ls hM hS hl h1 h2 h3)
  · exact h.elim
set_option maxHeartbeats 4000000 in
theorem so_aaload (hd : decode (m_c k) pc = .ok (.aaload, 1)) (hK : ∀ L st w g, K L st w g → RT k (pc + 1) L st w g Q) : ∀ L st w g, stW k J Q (pc, .aaload, x, y, z, u, v) K L st w g → RT k pc L st w g Q := by
  intro L st w g h
  simp only [stW] at h
  split at h
  · rename_i b a r
    obtain ⟨hsh, hin, h⟩ := h
    intro p l e R s m args below meth c ba D aC xa Qr C H locs cells slots ls hM hS hl h1 h2 h3
    have he := hM.arr (t := 5) hsh (by omega)
    rw [arc_q] at he
    have := hK _ _ _ _ h p l e R s m args below meth c ba D aC xa Qr C H locs cells slots ls hM hS hl h1 h2 h3
    rw [List.map_cons, tr_rf] at this
    exact va_aldq C.1.1 C.1.2.1 C.2.1.2.2.1 hM.1 (a - 100) 5 he (tys_at aC (by omega)) hin hd this
  · exact h.elim
/-- behind a store into an array -/
theorem arr_go {p : Program} {l : Launch} {e : Env} {R : Room} {s : State} {m : MethodId} {args : Array Value} {below : List Frame} {meth : Method} {c : Code} {ba : Nat} {D : va_G} {aC xa : Nat → Nat} {Qr : State → Prop} (C : Cx k p l e R s m args below meth c ba D aC xa Q Qr) {H : Heap} {locs : List Loc} {cells slots : Nat} {g : JFrame} {w w' : mW} {a : Nat} {ee : va_E}
    (hM : Sim ba xa aC D w s H) (hS : va_S (aA ba) s.heap H locs) (h50 : (w_sh w a).1 < 50) (hsh' : w_sh w' = w_sh w) (hnn : w_n w' = w_n w) (hI : w_I w' 0 = w_I w 0) (hc : ∀ b, b ≠ a → cel ba xa aC w' b = cel ba xa aC w b) (hce : cel ba xa aC w' a = ee)
    (kk : ∀ (H1 : Heap) (locs1 : List Loc), Sim ba xa aC D w' s H1 → va_S (aA ba) s.heap H1 locs1 → W p l e R s m args below meth c H1 locs1 cells slots Qr g) :
    ∀ (H1 : Heap) (locs1 : List Loc), va_P D vwCl ((wld ba xa aC w).set (a - 100) (sgm ba xa a, ee)) H1 → va_D (aA ba) ((wld ba xa aC w).set (a - 100) (sgm ba xa a, ee)) → va_S (aA ba) H H1 locs1 → W p l e R s m args below meth c H1 locs1 cells slots Qr g := fun H1 locs1 hP1 _ hS1 =>
  kk H1 locs1 (hM.put (hM.in h50).1 hsh' hnn hI hc hce hP1 hS1.1 (fun q hq => hS1.2.1 q (Nat.lt_of_lt_of_le hq (Nat.le_trans C.2.1.2.2.2.1 hS.1)) (Nat.not_le.mpr hq))) (hS.tr hS1)
set_option maxHeartbeats 4000000 in
theorem so_iastore (hd : decode (m_c k) pc = .ok (.iastore, 1)) (hK : ∀ L st w g, K L st w g → RT k (pc + 1) L st w g Q) : ∀ L st w g, stW k J Q (pc, .iastore, x, y, z, u, v) K L st w g → RT k pc L st w g Q := by
  intro L st w g h
  simp only [stW] at h
  split at h
  · rename_i d b a r
    obtain ⟨hsh, hin, h⟩ := h
    intro p l e R s m args below meth c ba D aC xa Qr C H locs cells slots ls hM hS hl h1 h2 h3
    have he := hM.arr (t := 0) hsh (by omega)
    rw [arc_i (by omega)] at he
    exact va_iast C.1.1 C.1.2.1 C.2.1.2.2.1 hM.1 wld_D hS.at (a - 100) 0 he (tys_at aC (by omega)) hin hd (arr_go (w' := s_I w a b.toNatClampNeg d) C hM hS (by omega) rfl rfl (I0_A (hM.n0 (by omega))) (fun b' hb => cel_A hb) (cel_Aa (t := 0) hsh (by omega)) (fun H1 locs1 hM1 hS1 => hK _ _ _ _ h p l e R s m args below meth c ba D aC xa Qr C H1 locs1 cells slots ls hM1 hS1 hl h1 h2 h3))
  · exact h.elim
set_option maxHeartbeats 4000000 in
theorem so_bastore (hd : decode (m_c k) pc = .ok (.bastore, 1)) (hK : ∀ L st w g, K L st w g → RT k (pc + 1) L st w g Q) : ∀ L st w g, stW k J Q (pc, .bastore, x, y, z, u, v) K L st w g → RT k pc L st w g Q := by
  intro L st w g h
  simp only [stW] at h
  split at h
  · rename_i d b a r
    split at h
    · obtain ⟨hsh, hin, h⟩ := h
      intro p l e R s m args below meth c ba D aC xa Qr C H locs cells slots ls hM hS hl h1 h2 h3
      have he := hM.arr (t := 1) hsh (by omega)
      rw [arc_i (by omega)] at he
      exact va_zast C.1.1 C.1.2.1 C.2.1.2.2.1 hM.1 wld_D hS.at (a - 100) 1 he (tys_at aC (by omega)) hin hd (arr_go (w' := s_I w a b.toNatClampNeg (vp_nar .boolean d)) C hM hS (by omega) rfl rfl (I0_A (hM.n0 (by omega))) (fun b' hb => cel_A hb) (cel_Aa (t := 1) hsh (by omega)) (fun H1 locs1 hM1 hS1 => hK _ _ _ _ h p l e R s m args below meth c ba D aC xa Qr C H1 locs1 cells slots ls hM1 hS1 hl h1 h2 h3))
    · obtain ⟨hsh, hin, h⟩ := h
      intro p l e R s m args below meth c ba D aC xa Qr C H locs cells slots ls hM hS hl h1 h2 h3
      have he := hM.arr (t := 2) hsh (by omega)
      rw [arc_i (by omega)] at he
      exact va_bast C.1.1 C.1.2.1 C.2.1.2.2.1 hM.1 wld_D hS.at (a - 100) 2 he (tys_at aC (by omega)) hin hd (arr_go (w' := s_I w a b.toNatClampNeg (vp_nar .byte d)) C hM hS (by omega) rfl rfl (I0_A (hM.n0 (by omega))) (fun b' hb => cel_A hb) (cel_Aa (t := 2) hsh (by omega)) (fun H1 locs1 hM1 hS1 => hK _ _ _ _ h p l e R s m args below meth c ba D aC xa Qr C H1 locs1 cells slots ls hM1 hS1 hl h1 h2 h3))
  · exact h.elim
set_option maxHeartbeats 4000000 in
theorem so_castore (hd : decode (m_c k) pc = .ok (.castore, 1)) (hK : ∀ L st w g, K L st w g → RT k (pc + 1) L st w g Q) : ∀ L st w g, stW k J Q (pc, .castore, x, y, z, u, v) K L st w g → RT k pc L st w g Q := by
  intro L st w g h
  simp only [stW] at h
  split at h
  · rename_i d b a r
    obtain ⟨hsh, hin, h⟩ := h
    intro p l e R s m args below meth c ba D aC xa Qr C H locs cells slots ls hM hS hl h1 h2 h3
    have he := hM.arr (t := 3) hsh (by omega)
    rw [arc_i (by omega)] at he
    exact va_cast C.1.1 C.1.2.1 C.2.1.2.2.1 hM.1 wld_D hS.at (a - 100) 3 he (tys_at aC (by omega)) hin hd (arr_go (w' := s_I w a b.toNatClampNeg (vp_nar .char d)) C hM hS (by omega) rfl rfl (I0_A (hM.n0 (by omega))) (fun b' hb => cel_A hb) (cel_Aa (t := 3) hsh (by omega)) (fun H1 locs1 hM1 hS1 => hK _ _ _ _ h p l e R s m args below meth c ba D aC xa Qr C H1 locs1 cells slots ls hM1 hS1 hl h1 h2 h3))
  · exact h.elim
set_option maxHeartbeats 4000000 in
theorem so_lastore (hd : decode (m_c k) pc = .ok (.lastore, 1)) (hK : ∀ L st w g, K L st w g → RT k (pc + 1) L st w g Q) : ∀ L st w g, stW k J Q (pc, .lastore, x, y, z, u, v) K L st w g → RT k pc L st w g Q := by
  intro L st w g h
  simp only [stW] at h
  split at h
  · rename_i d b a r
    obtain ⟨hsh, hin, h⟩ := h
    intro p l e R s m args below meth c ba D aC xa Qr C H locs cells slots ls hM hS hl h1 h2 h3
    have he := hM.arr (t := 4) hsh (by omega)
    rw [arc_l] at he
    exact va_last C.1.1 C.1.2.1 C.2.1.2.2.1 hM.1 wld_D hS.at (a - 100) 4 he (tys_at aC (by omega)) hin hd (arr_go (w' := s_J w a b.toNatClampNeg d) C hM hS (by omega) rfl rfl rfl (fun b' hb => cel_J hb) (cel_Ja hsh) (fun H1 locs1 hM1 hS1 => hK _ _ _ _ h p l e R s m args below meth c ba D aC xa Qr C H1 locs1 cells slots ls hM1 hS1 hl h1 h2 h3))
  · exact h.elim
set_option maxHeartbeats 4000000 in
theorem so_aastore (hd : decode (m_c k) pc = .ok (.aastore, 1)) (hK : ∀ L st w g, K L st w g → RT k (pc + 1) L st w g Q) : ∀ L st w g, stW k J Q (pc, .aastore, x, y, z, u, v) K L st w g → RT k pc L st w g Q := by
  intro L st w g h
  simp only [stW] at h
  split at h
  · rename_i d b a r
    obtain ⟨hsh, hin, hsd, h⟩ := h
    intro p l e R s m args below meth c ba D aC xa Qr C H locs cells slots ls hM hS hl h1 h2 h3
    have he := hM.arr (t := 5) hsh (by omega)
    rw [arc_q] at he
    have hv := hM.obj hsd
    exact va_astq C.1.1 C.1.2.1 C.2.1.2.2.1 hM.1 wld_D hS.at (a - 100) 5 (d - 100) 2 (r := m_cl 2) he (tys_at aC (by omega)) hv (cl_at (by omega)) hin hd (arr_go (w' := s_R w a b.toNatClampNeg (some d)) C hM hS (by omega) rfl rfl rfl (fun b' hb => cel_R hb) (cel_Ra hsh) (fun H1 locs1 hM1 hS1 => hK _ _ _ _ h p l e R s m args below meth c ba D aC xa Qr C H1 locs1 cells slots ls hM1 hS1 hl h1 h2 h3))
  · exact h.elim
set_option maxHeartbeats 4000000 in
theorem so_alen (hd : decode (m_c k) pc = .ok (.arraylength, 1)) (hx : x < 6 ∨ x = 49) (hK : ∀ L st w g, K L st w g → RT k (pc + 1) L st w g Q) : ∀ L st w g, stW k J Q (pc, .arraylength, x, y, z, u, v) K L st w g → RT k pc L st w g Q := by
  intro L st w g h
  simp only [stW] at h
  split at h
  · rename_i a r
    obtain ⟨hsh, h⟩ := h
    intro p l e R s m args below meth c ba D aC xa Qr C H locs cells slots ls hM hS hl h1 h2 h3
    rcases hx with hx | rfl
    · have he := hM.arr (t := x) hsh (by omega)
      exact va_alen C.1.1 C.1.2.1 C.2.1.2.2.1 hM.1 (a - 100) x he (tys_at aC hx) rfl hd (hK _ _ _ _ h p l e R s m args below meth c ba D aC xa Qr C H locs cells slots ls hM hS hl h1 h2 h3)
    · obtain ⟨m1, m2, m3, m4, m6, m7, m8, m9⟩ := id hM
      obtain rfl := m6.2 a hsh
      exact va_slen C.1.1 C.1.2.1 m7 (Nat.lt_of_lt_of_le m9 (Nat.le_trans C.2.1.2.2.2.1 hS.1)) (Nat.not_le.mpr m9) hS.at hd (hK _ _ _ _ h p l e R s m args below meth c ba D aC xa Qr C H locs cells slots ls hM hS hl h1 h2 h3)
  · exact h.elim
end ROWS10
