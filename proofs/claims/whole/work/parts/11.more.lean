section NEW11
variable {ba : Nat} {xa aC : Nat → Nat} {D : va_G} {w : mW} {s : State} {H H1 : Heap}
theorem cel_N {z : Nat × Nat} {b : Nat} (h : b ≠ 100 + w_n w) : cel ba xa aC (s_N w z) b = cel ba xa aC w b := by
  have e0 : w_sh (s_N w z) b = w_sh w b := by simp [w_sh, s_N, h]
  have e1 : w_I (s_N w z) b = w_I w b := by simp [w_I, s_N, h]
  have e2 : w_J (s_N w z) b = w_J w b := by simp [w_J, s_N, h]
  have e3 : w_R (s_N w z) b = w_R w b := by simp [w_R, s_N, h]
  have e : ∀ c, fld ba xa (s_N w z) c b = fld ba xa w c b := fun c => by funext j; unfold fld; rw [e1, e2, e3]
  simp only [cel, flds, arc, e0, e1, e2, e3, e]
/-- the world with one new cell -/
theorem Sim.new {z : Nat × Nat} {locs : List Loc} (hM : Sim ba xa aC D w s H) (hz : H.size = ba + w_n w) (hS : va_S (aA ba) s.heap H locs) (hz1 : H1.size = H.size + 1) (ho : ∀ q, q < H.size → H1[q]? = H[q]?) (h50 : z.1 < 50) (hat : va_at D vwCl (ba + w_n w, cel ba xa aC (s_N w z) (100 + w_n w)) H1) : Sim ba xa aC D (s_N w z) s H1 ∧ va_S (aA ba) s.heap H1 locs := by
  obtain ⟨m1, m2, m3, m4, m6, m7, m8, m9⟩ := hM
  have s0 : ∀ a, a ≠ 100 + w_n w → w_sh (s_N w z) a = w_sh w a := fun a h => by simp [w_sh, s_N, h]
  have s1 : w_sh (s_N w z) (100 + w_n w) = z := by simp [w_sh, s_N]
  have sn : w_n (s_N w z) = w_n w + 1 := rfl
  have sI : w_I (s_N w z) 0 = w_I w 0 := by simp [w_I, s_N]; intro h; omega
  refine ⟨⟨?_, fun a h => by rw [s0 a (by omega)]; exact m2 a h, fun a h => by rw [sn] at h; rw [s0 a (by omega)]; exact m3 a (by omega), by rw [sn]; omega, ⟨by rw [s0 0 (by omega)]; exact m6.1, fun a h => ?_⟩, ?_, by rw [s0 0 (by omega)]; exact m8, m9⟩, ⟨by have := hS.1; omega, fun q a b => (ho q (Nat.lt_of_lt_of_le a hS.1)).trans (hS.2.1 q a b), hS.2.2⟩⟩
  · intro k q hk
    simp only [wld, List.getElem?_map, Option.map_eq_some_iff] at hk
    obtain ⟨i, h1, rfl⟩ := hk
    have h2 := List.getElem?_eq_some_iff.mp h1
    obtain ⟨h3, h4⟩ := h2
    simp at h4 h3
    subst h4
    rw [sn] at h3
    by_cases hk : k = w_n w
    · subst hk; exact hat
    · rw [cel_N (by omega)]
      have e2 := wld_at (ba := ba) (xa := xa) (aC := aC) (w := w) (a := 100 + k) (by omega) (by omega)
      rw [Nat.add_sub_cancel_left] at e2
      have e3 : sgm ba xa (100 + k) = ba + k := by rw [sgm, if_neg (by omega)]; omega
      rw [e3] at e2
      exact (m1 k _ e2).kept (ho _ (by show ba + k < H.size; omega))
  · by_cases ha : a = 100 + w_n w
    · subst ha; rw [s1] at h; omega
    · rw [s0 a ha] at h; exact m6.2 a h
  · rw [s0 0 (by omega), sI]
    exact m7.kept (ho _ (by omega))
theorem cel_Na {t n : Nat} (ht : t < 6) : ∃ X, cel ba xa aC (s_N w (t + 1, n)) (100 + w_n w) = .inl (aC t, n, X) ∧ vp_cell (aC t) (n, X) = arrV (aC t) n (fun _ => defaultValue (m_el t)) := by
  have s1 : w_sh (s_N w (t + 1, n)) (100 + w_n w) = (t + 1, n) := by simp [w_sh, s_N]
  have e1 : w_I (s_N w (t + 1, n)) (100 + w_n w) = fun _ => 0 := by simp [w_I, s_N]
  have e2 : w_J (s_N w (t + 1, n)) (100 + w_n w) = fun _ => 0 := by simp [w_J, s_N]
  have e3 : w_R (s_N w (t + 1, n)) (100 + w_n w) = fun _ => none := by simp [w_R, s_N]
  refine ⟨arc ba xa (s_N w (t + 1, n)) (t + 1) (100 + w_n w), by rw [cel, s1]; simp, ?_⟩
  rcases (show t = 0 ∨ t = 1 ∨ t = 2 ∨ t = 3 ∨ t = 4 ∨ t = 5 by omega) with rfl | rfl | rfl | rfl | rfl | rfl
  · rw [arc_i (by omega), e1]; rfl
  · rw [arc_i (by omega), e1]; rfl
  · rw [arc_i (by omega), e1]; rfl
  · rw [arc_i (by omega), e1]; rfl
  · rw [arc_l, e2]; rfl
  · rw [arc_q, e3]; rfl
theorem fld_N {c j : Nat} (hc : c < 11) (hj : j < (m_cl c).2.2) : defaultValue (m_ty c j) = fld ba xa (s_N w (0, c)) c (100 + w_n w) j := by
  have e1 : w_I (s_N w (0, c)) (100 + w_n w) = fun _ => 0 := by simp [w_I, s_N]
  have e2 : w_J (s_N w (0, c)) (100 + w_n w) = fun _ => 0 := by simp [w_J, s_N]
  have e3 : w_R (s_N w (0, c)) (100 + w_n w) = fun _ => none := by simp [w_R, s_N]
  have h := kd_ty c hc j hj
  unfold fld
  rw [e1, e2, e3]
  cases hh : m_ty c j <;> rw [hh] at h <;> first | rfl | (simp [kd] at h; done)
end NEW11
section ROWS11
variable {k pc : Nat} {J : Int → mK} {Q : mW → mO → Prop} {K : mK} {x y z u v : Nat}
set_option maxHeartbeats 4000000 in
theorem so_newarray {t : ArrayType} (hd : decode (m_c k) pc = .ok (.newarray t, 2)) (hx : x < 5) (ht : newarray.typeOf t = m_el x) (hac : Cond.arrayClass (newarray.typeOf t) ∈ lw_tbl) (hK : ∀ L st w g, K L st w g → RT k (pc + 2) L st w g Q) : ∀ L st w g, stW k J Q (pc, .newarray t, x, y, z, u, v) K L st w g → RT k pc L st w g Q := by
  intro L st w g h
  simp only [stW] at h
  split at h
  · rename_i n r
    obtain ⟨hm, hn, hn6, hg1, hg2, h⟩ := h
    intro p l e R s m args below meth c ba D aC xa Qr C H locs cells slots ls hM hS hl h1 h2 h3
    refine W.sz fun hsz => ?_
    have hz : H.size = ba + w_n w := by have := h3 hm; have := hM.2.2.2.1; omega
    have hcb : componentBytes (newarray.typeOf t) ≤ 8 := by cases t <;> decide
    refine va_newaK C.1.1 C.1.2.1 (T_at C.1.2.2.2.2.1 hac rfl) rfl hd rfl hn rfl (by have := Nat.mul_le_mul hn6 hcb; omega) (by omega) (by omega) rfl fun H1 cA e1 z1 o1 hAr hNm => ?_
    have hcA : cA = aC x := by
      have hra := (C.2.1.2.2.1.2 x _ (tys_at aC (by omega))).2
      rw [ht] at hNm
      rcases (show x = 0 ∨ x = 1 ∨ x = 2 ∨ x = 3 ∨ x = 4 by omega) with rfl | rfl | rfl | rfl | rfl <;> exact Option.some.inj (hNm.symm.trans hra)
    subst hcA
    rw [ht] at e1
    obtain ⟨X, c1, c2⟩ := cel_Na (ba := ba) (xa := xa) (aC := aC) (w := w) (t := x) (n := n.toNatClampNeg) (by omega)
    obtain ⟨hM1, hS1⟩ := hM.new (z := (x + 1, n.toNatClampNeg)) hz hS z1 o1 (by show x + 1 < 50; omega) (by rw [c1]; show H1[ba + w_n w]? = some (vp_cell _ _); rw [c2, ← hz]; exact e1)
    have := hK _ _ _ _ h p l e R s m args below meth c ba D aC xa Qr C H1 locs (cells + 1) (slots + n.toNatClampNeg) ls hM1 hS1 hl (by show _ + (g.1 - 1) ≤ _; omega) (by show _ + (g.2.1 - _) ≤ _; omega) (fun q => by have := h3 q; show ba + (w_n w + 1) = _; omega)
    have e4 : trv ba xa (.ref (100 + w_n w)) = .ref H.size := by show Value.ref (sgm ba xa (100 + w_n w)) = _; rw [sgm, if_neg (by omega), hz, Nat.add_sub_cancel_left]
    rw [List.map_cons, e4] at this
    exact this
  · exact h.elim
set_option maxHeartbeats 4000000 in
theorem so_anewarray {idx : Nat} (hd : decode (m_c k) pc = .ok (.anewarray idx, 3)) (hcl : Cond.classLink (m_o k) idx RX2 ∈ lw_tbl) (hK : ∀ L st w g, K L st w g → RT k (pc + 3) L st w g Q) : ∀ L st w g, stW k J Q (pc, .anewarray idx, x, y, z, u, v) K L st w g → RT k pc L st w g Q := by
  intro L st w g h
  simp only [stW] at h
  split at h
  · rename_i n r
    obtain ⟨hm, hn, hn6, hg1, hg2, h⟩ := h
    intro p l e R s m args below meth c ba D aC xa Qr C H locs cells slots ls hM hS hl h1 h2 h3
    refine W.sz fun hsz => ?_
    have hz : H.size = ba + w_n w := by have := h3 hm; have := hM.2.2.2.1; omega
    refine W.anew C.1.1 C.1.2.1 C.1.2.2.2.1 (T_at C.1.2.2.2.2.1 hcl rfl) (va_AO.use C.2.1.2.2.2.2.1.2.2.2.2.2.2.2.2.2) rfl hd rfl hn (by omega) (by omega) (by omega) fun cA kA comp f1 f2 f3 f4 => ?_
    generalize hH1 : H.push ({ cls := cA, slots := Array.replicate n.toNatClampNeg .null, vm := .none } : Cell) = H1
    have z1 : H1.size = H.size + 1 := by rw [← hH1, Array.size_push]
    have e1 : H1[H.size]? = some (arrV cA n.toNatClampNeg (fun _ => .null)) := by rw [← hH1, Array.getElem?_push_size, ← arrV_new]
    have o1 : ∀ q : Nat, q < H.size → H1[q]? = H[q]? := fun q hq => by rw [← hH1, Array.getElem?_push, if_neg (Nat.ne_of_lt hq)]
    have hcA : cA = aC 5 := by
      obtain ⟨kB, cB, -, -, -, g4⟩ := (C.2.1.2.2.1.2 5 _ (tys_at aC (by omega))).2
      exact Option.some.inj (f1.symm.trans g4)
    subst hcA
    obtain ⟨X, c1, c2⟩ := cel_Na (ba := ba) (xa := xa) (aC := aC) (w := w) (t := 5) (n := n.toNatClampNeg) (by omega)
    obtain ⟨hM1, hS1⟩ := hM.new (z := (6, n.toNatClampNeg)) hz hS z1 o1 (by show 6 < 50; omega) (by rw [c1]; show H1[ba + w_n w]? = some (vp_cell _ _); rw [c2, ← hz]; exact e1)
    have := hK _ _ _ _ h p l e R s m args below meth c ba D aC xa Qr C H1 locs (cells + 1) (slots + n.toNatClampNeg) ls hM1 hS1 hl (by show _ + (g.1 - 1) ≤ _; omega) (by show _ + (g.2.1 - _) ≤ _; omega) (fun q => by have := h3 q; show ba + (w_n w + 1) = _; omega)
    have e4 : trv ba xa (.ref (100 + w_n w)) = .ref H.size := by show Value.ref (sgm ba xa (100 + w_n w)) = _; rw [sgm, if_neg (by omega), hz, Nat.add_sub_cancel_left]
    rw [List.map_cons, e4] at this
    exact this
  · exact h.elim
set_option maxHeartbeats 4000000 in
theorem so_new {idx : Nat} (hd : decode (m_c k) pc = .ok (.new idx, 3)) (hv : z = 0 ∧ x < 11 ∧ Cond.classLink (m_o k) idx (m_cl x).1 ∈ lw_tbl ∧ Cond.instantiable (m_cl x).1 (m_cl x).2.2 ∈ lw_tbl ∧ Cond.initialized (m_cl x).1 ∈ lw_tbl ∨ z ≠ 0 ∧ thI k pc x) (hK : ∀ L st w g, K L st w g → RT k (pc + 3) L st w g Q) : ∀ L st w g, stW k J Q (pc, .new idx, x, y, z, u, v) K L st w g → RT k pc L st w g Q := by
  intro L st w g h
  rcases hv with ⟨rfl, hx, hcl, hin, hini⟩ | ⟨hz0, hth⟩
  · simp only [stW] at h
    obtain ⟨hm, hg1, hg2, h⟩ := h
    intro p l e R s m args below meth c ba D aC xa Qr C H locs cells slots ls hM hS hl h1 h2 h3
    refine W.sz fun hsz => ?_
    have hz : H.size = ba + w_n w := by have := h3 hm; have := hM.2.2.2.1; omega
    have hKn := C.2.1.2.2.1.1 x _ (cl_at hx)
    refine W.newcK C.1.1 C.1.2.1 C.1.2.2.2.1 (T_at C.1.2.2.2.2.1 hcl rfl) (T_at C.1.2.2.2.2.1 hin rfl) (T_at C.1.2.2.2.2.1 hini rfl) rfl hd (by omega) (by omega) hKn.2.1 rfl fun H1 kC hkC e1 z1 o1 => ?_
    have s1 : w_sh (s_N w (0, x)) (100 + w_n w) = (0, x) := by simp [w_sh, s_N]
    have hce : cel ba xa aC (s_N w (0, x)) (100 + w_n w) = .inr (x, flds ba xa (s_N w (0, x)) x (100 + w_n w)) := by rw [cel, s1]; rfl
    have hob := u_born (m_ty x) C.1.2.2.2.2.1 (F_in x hx) hKn hkC e1 (F_ty x hx)
    obtain ⟨hM1, hS1⟩ := hM.new (z := (0, x)) hz hS z1 o1 (by show 0 < 50; omega) (by
      rw [hce]
      refine ⟨_, cl_at hx, ?_⟩
      rw [← hz]
      exact hob.to fun j hj => by rw [fld_N hx hj, vp_V, List.getD_eq_getElem?_getD, flds_at hj]; rfl)
    have := hK _ _ _ _ h p l e R s m args below meth c ba D aC xa Qr C H1 locs (cells + 1) (slots + (m_cl x).2.2) ls hM1 hS1 hl (by show _ + (g.1 - 1) ≤ _; omega) (by show _ + (g.2.1 - _) ≤ _; omega) (fun q => by have := h3 q; show ba + (w_n w + 1) = _; omega)
    have e4 : trv ba xa (.ref (100 + w_n w)) = .ref H.size := by show Value.ref (sgm ba xa (100 + w_n w)) = _; rw [sgm, if_neg (by omega), hz, Nat.add_sub_cancel_left]
    rw [List.map_cons, e4] at this
    exact this
  · have h' : 1 ≤ g.1 ∧ 6 ≤ g.2.1 ∧ st.length ≤ 4 ∧ Q w (.inr x) := by
      simp only [stW] at h
      exact h
    obtain ⟨hg1, hg2, hst, hq⟩ := h'
    intro p l e R s m args below meth c ba D aC xa Qr C H locs cells slots ls hM hS hl h1 h2 h3
    exact C.2.2.2.2 w x H locs cells slots pc ls _ hq hM hS (by omega) (by omega) (by rw [C.1.2.2.1]; exact hl.1.1) (cat_4 st hst) hth
set_option maxHeartbeats 4000000 in
theorem so_objInit {idx : Nat} (hd : decode (m_c k) pc = .ok (.invokespecial idx, 3)) (h1 : Cond.methodLink (m_o k) idx objectInit ∈ lw_tbl) (h2 : Cond.instanceMethod objectInit ∈ lw_tbl) (h3 : Cond.code objectInit ⟨#[0xb1]⟩ 1 none ∈ lw_tbl) (hrm : 1 ≤ m_fr k ∧ 20 ≤ m_lo k) (hK : ∀ L st w g, K L st w g → RT k (pc + 3) L st w g Q) : ∀ L st w g, stW k J Q (pc, .invokespecial idx, x, y, 1, u, v) K L st w g → RT k pc L st w g Q := by
  intro L st w g h
  simp only [stW] at h
  split at h
  · rename_i a r
    obtain ⟨hr, h⟩ := h
    intro p l e R s m args below meth c ba D aC xa Qr C H locs cells slots ls hM hS hl g1 g2 g3
    have hfr := C.2.1.1
    have hlo := C.2.1.2.1
    have hroom : 2 * (F0 m pc ls (r.map (trv ba xa))).monitorRoom + ((r.map (trv ba xa)).map fun v => v.category).sum ≤ 8 := lv_room (cat_4 r hr)
    exact W.objInit C.1.1 C.1.2.1 C.1.2.2.2.1 (T_at C.1.2.2.2.2.1 h1 rfl) (T_at C.1.2.2.2.2.1 h2 rfl) (T_at C.1.2.2.2.2.1 h3 rfl) rfl (by rw [C.1.2.2.1]; exact hl.1.1) rfl hd (by omega) (by show 2 * (F0 m pc ls (r.map (trv ba xa))).monitorRoom + _ + 12 ≤ _; omega) (hK _ _ _ _ h p l e R s m args below meth c ba D aC xa Qr C H locs cells slots ls hM hS hl g1 g2 g3)
  · exact h.elim
theorem tk_dr (st : List Value) (y : Nat) {as : List Value} (h : (st.take y).reverse = as) : st = as.reverse ++ st.drop y := by
  rw [← h, List.reverse_reverse, List.take_append_drop]
set_option maxHeartbeats 4000000 in
theorem so_invS {idx : Nat} (hd : decode (m_c k) pc = .ok (.invokestatic idx, 3)) (h1 : c_rm k x = true) (h2 : c_mt x y = true) (hlk : Cond.methodLink (m_o k) idx (m_y x) ∈ lw_tbl) (hsta : Cond.static (m_y x) ∈ lw_tbl) (hu : u = m_gc x ∧ v = m_gs x) (hal : m_al x = false) (hz2 : z ≠ 2) (hK : ∀ L st w g, K L st w g → RT k (pc + 3) L st w g Q) : ∀ L st w g, stW k J Q (pc, .invokestatic idx, x, y, z, u, v) K L st w g → RT k pc L st w g Q := by
  intro L st w g h
  obtain ⟨rfl, rfl⟩ := hu
  have h' : y ≤ st.length ∧ (st.drop y).length ≤ 4 ∧ m_gc x ≤ g.1 ∧ m_gs x ≤ g.2.1 ∧ CT x (st.take y).reverse w (fun w' o => match o with
          | .inl a => (g.2.2 = true → w_n w' = w_n w + m_gc x) ∧ K L (a.toList ++ st.drop y) w' (g.1 - m_gc x, g.2.1 - m_gs x, g.2.2)
          | .inr E => match m_hh k with | [] => Q w' (.inr E) | _ => False) := by
    simp only [stW] at h
    exact h
  obtain ⟨hy, hr, hg1, hg2, hCT⟩ := h'
  intro p l e R s m args below meth c ba D aC xa Qr C H locs cells slots ls hM hS hl g1 g2 g3
  have hst := tk_dr st y (as := (st.take y).reverse) rfl
  rw [hst]
  refine call_S C hM hS hl.1.1 hd h1 h2 (by simp; omega) hlk hsta hr (by omega) (by omega) (fun q => by rw [hal] at q; cases q) hCT (fun w' v H1 locs1 hq hM1 hS1 => ?_) (fun w' E q ce H1 locs1 hq hM1 hS1 hE hce hcv hcl => ?_)
  · obtain ⟨hq1, hq2⟩ := hq
    have := hK _ _ _ _ hq2 p l e R s m args below meth c ba D aC xa Qr C H1 locs1 (cells + m_gc x) (slots + m_gs x) ls hM1 hS1 hl (by show _ + (g.1 - m_gc x) ≤ _; omega) (by show _ + (g.2.1 - m_gs x) ≤ _; omega) (fun q => by rw [hq1 q]; have := g3 q; omega)
    have e1 : (v.toList ++ st.drop y).map (trv ba xa) = (v.map (trv ba xa)).toList ++ (st.drop y).map (trv ba xa) := by cases v <;> simp
    rw [e1] at this
    exact this
  · cases hhk : m_hh k with
    | nil =>
      simp only [hhk] at hq
      exact C.2.2.2.1 w' E q ce H1 locs1 _ _ _ _ _ hq hM1 hS1 (by omega) (by omega) hE hce hcv hcl hhk
    | cons a b => simp only [hhk] at hq
set_option maxHeartbeats 4000000 in
theorem so_invI {idx : Nat} (hd : decode (m_c k) pc = .ok (.invokespecial idx, 3)) (h1 : c_rm k x = true) (h2 : c_mt x (y - 1) = true) (hy1 : 1 ≤ y) (hlk : Cond.methodLink (m_o k) idx (m_y x) ∈ lw_tbl ∨ Cond.methodLinkNest (m_o k) idx (m_y x) "CrankCalculator" ∈ lw_tbl) (him : Cond.instanceMethod (m_y x) ∈ lw_tbl) (hnm : (m_y x).name = "<init>") (hrx : m_r x = none) (hhx : m_hh x = []) (hu : u = m_gc x ∧ v = m_gs x) (hz1 : z ≠ 1) (hK : ∀ L st w g, K L st w g → RT k (pc + 3) L st w g Q) : ∀ L st w g, stW k J Q (pc, .invokespecial idx, x, y, z, u, v) K L st w g → RT k pc L st w g Q := by
  intro L st w g h
  obtain ⟨rfl, rfl⟩ := hu
  simp only [stW] at h
  split at h
  · rename_i b as hst
    obtain ⟨hm, hy, hr, hg1, hg2, hCT⟩ := h
    intro p l e R s m args below meth c ba D aC xa Qr C H locs cells slots ls hM hS hl g1 g2 g3
    refine W.sz fun hsz => ?_
    have hz : H.size = ba + w_n w := by have := g3 hm; have := hM.2.2.2.1; omega
    have hlen : as.length = y - 1 := by have := congrArg List.length hst; simp at this; omega
    have hst2 := tk_dr st y hst
    rw [hst2, List.reverse_cons, List.append_assoc]
    refine call_I C hM hS hl.1.1 hd h1 h2 hlen hlk him hnm hrx hhx hr (by omega) (by omega) (fun _ => hz.symm) hCT (fun w' E h => h) (fun w' v H1 locs1 hq hM1 hS1 => ?_)
    obtain ⟨hq1, hq2⟩ := hq
    have := hK _ _ _ _ hq2 p l e R s m args below meth c ba D aC xa Qr C H1 locs1 (cells + m_gc x) (slots + m_gs x) ls hM1 hS1 hl (by show _ + (g.1 - m_gc x) ≤ _; omega) (by show _ + (g.2.1 - m_gs x) ≤ _; omega) (fun q => by rw [hq1 q]; have := g3 q; omega)
    have e1 : (v.toList ++ st.drop y).map (trv ba xa) = (v.map (trv ba xa)).toList ++ (st.drop y).map (trv ba xa) := by cases v <;> simp
    rw [e1] at this
    exact this
  · exact h.elim
end ROWS11
