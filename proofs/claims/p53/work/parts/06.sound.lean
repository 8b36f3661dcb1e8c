/-! calls -/
theorem T_at {args : Array Value} {s : State} (hts : ∀ w ∈ lw_T, w.before args s = true) {w : Cond} (h : w ∈ lw_tbl) (hg : goodWord w = true) : w.before args s = true := hts w (List.mem_append_left _ (List.mem_filter.mpr ⟨h, hg⟩))
theorem T_x {args : Array Value} {s : State} (hts : ∀ w ∈ lw_T, w.before args s = true) {w : Cond} (h : w ∈ lw_X) : w.before args s = true := hts w (List.mem_append_right _ h)
theorem T_good : ∀ w ∈ lw_T, w ∈ lw_T ∧ ((w.onTables && w.keeps) = true ∨ ∃ ty, w = .arrayClass ty) := fun w h => ⟨h, by
  rcases List.mem_append.mp h with h | h
  · exact good_of_word (List.mem_filter.mp h).2
  · left
    simp only [lw_X, List.mem_cons, List.not_mem_nil, or_false] at h
    rcases h with rfl | rfl | rfl | rfl <;> rfl⟩
/-- the method k's own word -/
def m_w (k : Nat) : Cond := match m_hh k with
  | [] => .code (m_y k) (m_c k) (m_l k) (m_r k)
  | hh => .codeWith (m_y k) (m_c k) (m_l k) (m_r k) hh
def m_ws (k : Nat) : List Cond := m_w k :: lw_T
def m_rmk (k : Nat) : Room := { frames := m_fr k, cells := m_gc k, slots := m_gs k, locals := m_lo k }
def Inv (b : Bool) (ba : Nat) (xa aC : Nat → Nat) (D : va_G) (w : mW) (U : State) : Prop := (b = true → ba + w_n w = U.heap.size) ∧ Sim ba xa aC D w U U.heap ∧ va_K D vwCl (m_tys aC) U ∧ ba ≤ U.heap.size ∧ RO ba xa U U.heap
def m_Q (ba : Nat) (xa aC : Nat → Nat) (D : va_G) (Q : mW → mO → Prop) : Array Value → State → Outcome → State → Prop := fun _ st o t => (∃ (w' : mW) (v : Option Value), o = .returned (v.map (trv ba xa)) ∧ Q w' (.inl v) ∧ Sim ba xa aC D w' t t.heap) ∧ va_F (aA ba) st t
def m_X (ba : Nat) (xa aC : Nat → Nat) (D : va_G) (Q : mW → mO → Prop) : String → State → State → Prop := fun E' st t => (∃ (w' : mW) (E : Nat), E' = m_E E ∧ E < 4 ∧ Q w' (.inr E) ∧ Sim ba xa aC D w' t t.heap) ∧ va_F (aA ba) st t
theorem Sim.moved {ba : Nat} {xa aC : Nat → Nat} {D : va_G} {w : mW} {s U : State} {H : Heap} (h : Sim ba xa aC D w s H) (hv : s.vm.Alike U.vm) : Sim ba xa aC D w U H := by
  obtain ⟨m1, m2, m3, m4, m6, m7, m8⟩ := h
  exact ⟨m1, m2, m3, m4, m6, m7.moved hv, m8⟩
theorem Inv.blind {bo : Bool} {ba : Nat} {xa aC : Nat → Nat} {D : va_G} {w : mW} {as : List Value} : FrameBlind (va_Pc as (Inv bo ba xa aC D w)) := by
  intro a U g mk h
  obtain ⟨h1, h0, h2, h3, h4, h5⟩ := h
  exact ⟨h1, h0, Sim.moved (s := U) (U := U.calling g mk a) h2 (Vm.Alike.refl U.vm), va_K.moved (u := U) (U := U.calling g mk a) (Vm.Alike.refl U.vm) h3, h4, RO.same (s := U) (U := U.calling g mk a) h5 rfl⟩
theorem Inv.at {bo : Bool} {ba : Nat} {xa aC : Nat → Nat} {D : va_G} {w : mW} {s : State} {H : Heap} {locs : List Loc} (hM : Sim ba xa aC D w s H) (hS : va_S (aA ba) s.heap H locs) (hK : va_K D vwCl (m_tys aC) s) (hb : ba ≤ s.heap.size) (hR : RO ba xa s s.heap) (hz : bo = true → ba + w_n w = H.size) {U : State} (hU : U.heap = H) (hW : s.WarmedH U.vm) : Inv bo ba xa aC D w U := by
  refine ⟨by rw [hU]; exact hz, by rw [hU]; exact hM.moved hW.alike, va_K.moved hW.alike hK, by rw [hU]; exact Nat.le_trans hb hS.1, ?_⟩
  rw [hU]
  exact (hR.kept hS.2.1).warm hW
theorem lv_args_mem : ∀ (args : List Value) (n : Nat) (i : Nat) (v : Value), (l_in args)[i]? = some v → v ≠ .null → (n + i, v) ∈ lv_args n args
  | [], n, i, v, h, _ => by simp [l_in] at h
  | a :: l, n, i, v, h, h0 => by
    by_cases hc : v_c2 a = true
    · have hc2 := (c2_cat a).mp hc
      rw [l_in, if_pos hc] at h
      rw [lv_args, if_pos hc2]
      match i, h with
      | 0, h => simp at h; subst h; exact List.mem_cons_self
      | 1, h => simp at h; exact absurd h.symm h0
      | i + 2, h =>
        have := lv_args_mem l (n + 2) i v (by simpa using h) h0
        exact List.mem_cons_of_mem _ (by rw [show n + (i + 2) = n + 2 + i by omega]; exact this)
    · have hc2 : ¬ a.category = 2 := fun q => hc ((c2_cat a).mpr q)
      rw [l_in, if_neg hc] at h
      rw [lv_args, if_neg hc2]
      match i, h with
      | 0, h => simp at h; subst h; exact List.mem_cons_self
      | i + 1, h =>
        have := lv_args_mem l (n + 1) i v (by simpa using h) h0
        exact List.mem_cons_of_mem _ (by rw [show n + (i + 1) = n + 1 + i by omega]; exact this)
theorem trv_v2 {ba : Nat} {xa : Nat → Nat} (v : Value) : v_c2 (trv ba xa v) = v_c2 v := by cases v <;> rfl
theorem trv_null {ba : Nat} {xa : Nat → Nat} : trv ba xa .null = .null := rfl
theorem l_in_tr {ba : Nat} {xa : Nat → Nat} : ∀ args : List Value, l_in (args.map (trv ba xa)) = (l_in args).map (trv ba xa)
  | [] => rfl
  | a :: l => by
    by_cases hc : v_c2 a = true
    · simp [l_in, trv_v2, hc, l_in_tr l, trv_null]
    · simp [l_in, trv_v2, hc, l_in_tr l]
theorem lg_sl_len : ∀ args : List Value, (lg_sl args).length = (l_in args).length
  | [] => rfl
  | a :: l => by
    have ih := lg_sl_len l
    unfold lg_sl at ih ⊢
    by_cases hc : v_c2 a = true
    · have hc2 := (c2_cat a).mp hc
      simp [l_in, hc, hc2, ih]
    · have hc2 : ¬ a.category = 2 := fun q => hc ((c2_cat a).mpr q)
      simp [l_in, hc, hc2, ih]
theorem lrl_entry {ba : Nat} {xa : Nat → Nat} {k : Nat} {args : List Value} {ls : Array Slot} (h : lv_has ls (m_l k) (lv_args 0 (args.map (trv ba xa)))) (hn : (l_in args).length ≤ m_l k) : lrl ba xa (m_l k) ls (l_en k args) := by
  refine ⟨lv_mono h fun q hq => ?_, by simp [l_en]; omega⟩
  obtain ⟨⟨j, v⟩, h1, rfl⟩ := List.mem_map.mp hq
  obtain ⟨n, h2, h3, h4⟩ := (asc_mem _ 0 j v).mp h1
  have hj : n = j := by omega
  subst hj
  by_cases hl : n < (l_in args).length
  · rw [l_en, List.getElem?_append_left hl] at h3
    have h5 : (l_in (args.map (trv ba xa)))[n]? = some (trv ba xa v) := by rw [l_in_tr, List.getElem?_map, h3]; rfl
    have := lv_args_mem (args.map (trv ba xa)) 0 n (trv ba xa v) h5 (fun q => h4 ((trv_nn v).mp q))
    simpa using this
  · rw [l_en, List.getElem?_append_right (by omega), List.getElem?_replicate] at h3
    split at h3
    · cases h3; exact absurd rfl h4
    · cases h3
/-- a method's ends: what goes back -/
theorem ends_ret {k : Nat} {p : Program} {l : Launch} {e : Env} {R : Room} {s : State} {m : MethodId} {args : Array Value} {below : List Frame} {meth : Method} {c : Code} {ba : Nat} {D : va_G} {aC xa : Nat → Nat} {Q : mW → mO → Prop} (hx : p.tables.exec = Jvm.exec) (hb : c.code = m_c k) (hr : meth.sig.returnType = m_r k) (hlk : meth.locks = false)
    (w' : mW) (v : Option Value) (H' : Heap) (locs' : List Loc) (cells' slots' pc' : Nat) (ls' : Array Slot) (hQ : Q w' (.inl v)) (hM : Sim ba xa aC D w' s H') (hS : va_S (aA ba) s.heap H' locs') (h1 : cells' ≤ R.cells) (h2 : slots' ≤ R.slots) (hrt : rtI k pc' v) :
    W p l e R s m args below meth c H' locs' cells' slots' (vx_MQ below (m_Q ba xa aC D Q) (m_X ba xa aC D Q) args s R.cells R.slots (aA ba)) (F0 m pc' ls' (v.map (trv ba xa)).toList) := by
  refine W.widen h1 h2 (vx_ret ?_)
  have hq : ∀ t : State, t.heap = H' → s.WarmedH t.vm → m_Q ba xa aC D Q args s (.returned (v.map (trv ba xa))) t := fun t ht hW => ⟨⟨w', v, rfl, hQ, by rw [ht]; exact hM.moved hW.alike⟩, hS.F ht⟩
  cases v with
  | none =>
    obtain ⟨e1, e2⟩ := hrt
    exact W.vret hx hb (by rw [hr]; exact e1) hq hS.2.2 e2
  | some v =>
    cases v with
    | int x =>
      obtain ⟨ty, e1, e2, e3⟩ := hrt
      exact W.zret hx hb (by rw [hr]; exact e1) e2 hq hS.2.2 e3
    | long x =>
      obtain ⟨e1, e2⟩ := hrt
      exact W.lret hx hb (by rw [hr]; exact e1) hq hS.2.2 e2
    | float x =>
      obtain ⟨e1, e2⟩ := hrt
      exact W.fret hx hb (by rw [hr]; exact e1) hq hS.2.2 e2
    | double x => exact hrt.elim
    | null => exact hrt.elim
    | ref a =>
      obtain ⟨⟨rt, e1, e2⟩, e3⟩ := hrt
      exact W.aret hx hb (by rw [hr]; exact e1) e2 (Or.inr ⟨_, rfl⟩) hq hS.2.2 e3
    | retAddr a => exact hrt.elim
theorem ends_exc {k : Nat} {p : Program} {l : Launch} {e : Env} {R : Room} {s : State} {m : MethodId} {args : Array Value} {below : List Frame} {meth : Method} {c : Code} {ba : Nat} {D : va_G} {aC xa : Nat → Nat} {Q : mW → mO → Prop} (hlk : meth.locks = false) (htb : c.exceptionTable.toList = tableOf (m_hh k))
    (w' : mW) (E : Nat) (q : Addr) (ce : Cell) (H' : Heap) (locs' : List Loc) (cells' slots' pc' : Nat) (ls' : Array Slot) (rest : List Value) (hQ : Q w' (.inr E)) (hM : Sim ba xa aC D w' s H') (hS : va_S (aA ba) s.heap H' locs') (h1 : cells' ≤ R.cells) (h2 : slots' ≤ R.slots) (hE : E < 4) (hce : H'[q]? = some ce) (hv : ce.vm = .none) (hcl : s.vm.findClass (m_E E) = some ce.cls) (hh : m_hh k = []) :
    vx_W p l e R s m args below meth c H' locs' cells' slots' (vx_MQ below (m_Q ba xa aC D Q) (m_X ba xa aC D Q) args s R.cells R.slots (aA ba)) (F0 m pc' ls' rest) q :=
  vx_out (fun x hx => by rw [htb, hh] at hx; cases hx) hlk hce hv hcl (fun t ht hW => ⟨⟨w', E, rfl, hE, hQ, by rw [ht]; exact hM.moved hW⟩, hS.F ht⟩) hS.2.2 h1 h2
theorem ends_thr {k : Nat} {p : Program} {l : Launch} {e : Env} {R : Room} {s : State} {m : MethodId} {args : Array Value} {below : List Frame} {meth : Method} {c : Code} {ba : Nat} {D : va_G} {aC xa : Nat → Nat} {Q : mW → mO → Prop} (hx : p.tables.exec = Jvm.exec) (hb : c.code = m_c k) (hlk : meth.locks = false) (htb : c.exceptionTable.toList = tableOf (m_hh k)) (hown : s.vm.findClass (m_o k) = some m.cls) (hts : ∀ w ∈ lw_T, w.before args s = true) (hst : l.stackTraces = false) (hRO : RO ba xa s s.heap) (hfr : m_fr k ≤ R.frames) (hlo : m_lo k ≤ R.locals) (hba : ba ≤ s.heap.size)
    (w' : mW) (E : Nat) (H' : Heap) (locs' : List Loc) (cells' slots' pc' : Nat) (ls' : Array Slot) (rest : List Value) (hQ : Q w' (.inr E)) (hM : Sim ba xa aC D w' s H') (hS : va_S (aA ba) s.heap H' locs') (h1 : cells' + 1 ≤ R.cells) (h2 : slots' + 6 ≤ R.slots) (hls : ls'.size = c.maxLocals) (hrest : (rest.map fun v => v.category).sum ≤ 8) (ht : thI k pc' E) :
    W p l e R s m args below meth c H' locs' cells' slots' (vx_MQ below (m_Q ba xa aC D Q) (m_X ba xa aC D Q) args s R.cells R.slots (aA ba)) (F0 m pc' ls' rest) := by
  obtain ⟨hE, hf6, hl90, hh, ik, is, ic, ⟨tx, hstr⟩, hcl, hini, hat, hot, d0, d3, hd⟩ := ht
  obtain ⟨j, hj⟩ := List.getElem?_of_mem hstr
  obtain ⟨sa, hsa⟩ := hRO.2.2.2.1 j _ hj
  have hat' : ∀ w ∈ thW (m_o k) ic E, w.before args s = true := fun w hw => by
    obtain ⟨g1, g2⟩ := hat w hw
    by_cases hg : goodWord w = true
    · exact T_at hts g1 hg
    · have hn : isN w = true := by simpa [hg] using g2
      exact (hRO.2.2.2.2.2.2.2.2.1 w (List.mem_filter.mpr ⟨g1, hn⟩)).use (isN_on hn)
  have hX : ∀ t : State, s.vm.Alike t.vm → H'.size ≤ t.heap.size → (∀ q : Nat, q < H'.size → t.heap[q]? = H'[q]?) → m_X ba xa aC D Q (m_E E) s t := by
    intro t hW hz hk
    obtain ⟨m1, m2, m3, m4, m6, m7, m8, m9⟩ := hM
    refine ⟨⟨w', E, rfl, hE, hQ, ⟨m1.kept fun k q hq => hk _ ((m1 k q hq).lt), m2, m3, Nat.le_trans m4 hz, m6, ?_, m8, m9⟩⟩, Nat.le_trans hS.1 hz, fun q a b => ?_⟩
    · exact (m7.kept (hk _ (Nat.lt_of_lt_of_le m9 (Nat.le_trans hba hS.1)))).moved hW
    · rw [hk q (Nat.lt_of_lt_of_le a hS.1)]; exact hS.2.1 q a b
  have hout : ∀ (n : Nat), ∀ x ∈ c.exceptionTable.toList, covers x n = false := fun n x hx => by rw [htb, hh] at hx; cases hx
  have hfit : Bundle.fit (m_E E) = true := by
    rcases (show E = 0 ∨ E = 1 ∨ E = 2 ∨ E = 3 by omega) with rfl | rfl | rfl | rfl <;> decide +kernel
  have hnm : ∀ n ∈ ["java/lang/RuntimeException", "java/lang/Exception"], Bundle.fit n = true := by decide +kernel
  rcases hd with ⟨hne, d4, d6, d9⟩ | ⟨d4, d7, d10⟩
  · rw [thW, if_neg hne] at hat' hot
    exact vx_throwS hx hb hst hown hfit hnm (hts _ hcl) (hts _ hini) hsa hat' hot hRO.2.2.2.2.1.1 hRO.2.2.2.2.1.2 hS hls d0 d3 d4 d6 d9 (hout _) (by simp; omega) (by simp; omega) h1 h2 hlk hX hS.2.2 h1 h2
  · by_cases hne : E = 3
    · rw [thW, if_pos hne] at hat' hot
      exact vx_throwNW hx hb hst hown hfit (by decide +kernel) (by decide +kernel) (hts _ hcl) (hts _ hini) hsa hat' hot hRO.2.2.2.2.1.1 hRO.2.2.2.2.1.2 hS hls d0 d3 d4 d7 d10 (hout _) (by simp; omega) (by simp; omega) h1 h2 hlk hX hS.2.2 h1 h2
    · rw [thW, if_neg hne] at hat' hot
      exact vx_throwSW hx hb hst hown hfit hnm (hts _ hcl) (hts _ hini) hsa hat' hot hRO.2.2.2.2.1.1 hRO.2.2.2.2.1.2 hS hls d0 d3 d4 d7 d10 (hout _) (by simp; omega) (by simp; omega) h1 h2 hlk hX hS.2.2 h1 h2
/-- what a call asks of the method's own rows -/
def mOK (k : Nat) : Prop := plainFor (m_y k) = true ∧ (m_hh k = [] ∨ plainName (m_y k).cls = true)
/-- as vx_ofW, of a method whose class is one of the machine's own, but not she -/
theorem vx_ofWF {l : Launch} {y : MethodName} {ws ws' : List Cond} {rm : Room} {Pc : Array Value → State → Prop} {Qc : Array Value → State → Outcome → State → Prop} {XC : String → State → State → Prop} {mc ms : Nat} {free : Addr → Prop} {cc : ByteArray} {maxL : Nat} {ret : Option FieldType}
    (hy : plainFor y = true) (hw : ws = Cond.code y cc maxL ret :: ws')
    (body : ∀ p e s m args below meth c s₁, BodyLoose p l y (headSpec ws rm) cc maxL ret e s m args below meth c s₁ → c.maxLocals = maxL → (∀ x ∈ c.exceptionTable.toList, False) → Pc args s →
      W p l e (headSpec ws rm).room s m args below meth c s.heap [] 0 0 (vx_MQ below Qc XC args s mc ms free) (entryFrame m args maxL)) : vx_Met l y ws rm Pc Qc XC mc ms free := by
  refine MetFree.of_bodySF (code := cc) (maxLocals := maxL) (ret := ret) hy ?_ ?_
  · intro args s m h hn
    obtain ⟨meth, c, h1, h2, h3, h4, h5, h6, -, -⟩ := Cond.code_spec hn (atoms_spec (ws := ws) h _ (by rw [hw]; exact List.mem_cons_self))
    exact ⟨meth, c, h1, h2, h3, h4, h5, h6⟩
  · intro p e s m args below meth c s₁ B hml hP _
    have hh0 : s₁.heap = s.heap := by rw [B.state]; rfl
    have ht : ∀ x ∈ c.exceptionTable.toList, False := by
      obtain ⟨meth9, c9, h1, h2, -, -, -, -, h7, -⟩ := Cond.code_spec B.named (atoms_spec (ws := ws) B.pre _ (by rw [hw]; exact List.mem_cons_self))
      cases Option.some.inj (h1.symm.trans B.method)
      cases Option.some.inj (h2.symm.trans (Stand.of_body B).code)
      intro x hx
      rw [Array.isEmpty_iff.mp h7] at hx
      cases hx
    obtain ⟨t, a1, o, b1, b2, b3⟩ := body p e s m args below meth c s₁ B hml ht hP s₁ hh0 (Stand.of_body B)
    exact ⟨t, o, a1, b1, b2, b3⟩
set_option maxHeartbeats 4000000 in
/-- A METHOD'S CONTRACT out of its pure walk -/
theorem CT_met {k : Nat} {as : List Value} {w : mW} {Q : mW → mO → Prop} (hk : mOK k) (h0 : CT k as w Q) (l : Launch) (hst : l.stackTraces = false) (ba : Nat) (D : va_G) (aC xa : Nat → Nat) :
    vx_Met l (m_y k) (m_ws k) (m_rmk k) (va_Pc (as.map (trv ba xa)) (Inv (m_al k) ba xa aC D w)) (m_Q ba xa aC D Q) (m_X ba xa aC D Q) (m_gc k) (m_gs k) (aA ba) := by
  obtain ⟨hn, h⟩ := h0
  have key : ∀ (p : Program) (e : Env) (s : State) (m : MethodId) (args : Array Value) (below : List Frame) (meth : Method) (c : Code) (s₁ : State), BodyLoose p l (m_y k) (headSpec (m_ws k) (m_rmk k)) (m_c k) (m_l k) (m_r k) e s m args below meth c s₁ → c.maxLocals = m_l k → c.exceptionTable.toList = tableOf (m_hh k) → va_Pc (as.map (trv ba xa)) (Inv (m_al k) ba xa aC D w) args s →
      W p l e (headSpec (m_ws k) (m_rmk k)).room s m args below meth c s.heap [] 0 0 (vx_MQ below (m_Q ba xa aC D Q) (m_X ba xa aC D Q) args s (m_gc k) (m_gs k) (aA ba)) (entryFrame m args (m_l k)) := by
    intro p e s m args below meth c s₁ B hml htb hv
    obtain ⟨rfl, hz, hM, hK, hba, hRO⟩ := hv
    have hx := B.exec
    have hb := B.bytes
    have hr := B.returns
    have hts0 := atoms_spec (ws := m_ws k) B.pre
    have hts : ∀ w ∈ lw_T, w.before _ s = true := fun w hw => hts0 w (List.mem_cons_of_mem _ hw)
    have hown : s.vm.findClass (m_o k) = some m.cls := findClass_of_methodNamed B.named
    have hlk := B.notSynchronized
    have hnm : (m_y k).name = meth.name := (name_of_methodNamed B.named B.method).1.symm
    have hl := lv_entry (as.map (trv ba xa)) (n := m_l k) (by rw [lg_sl_len, l_in_tr, List.length_map]; exact hn)
    rw [lg_entry_eq]
    generalize (lg_sl (as.map (trv ba xa)) ++ List.replicate (m_l k - (lg_sl (as.map (trv ba xa))).length) Slot.unset).toArray = ls at hl ⊢
    refine h p l e (m_rmk k) s m _ below meth c ba D aC xa _ ⟨⟨hx, hb, hml, hown, hts, hnm, hst, hlk⟩, ⟨Nat.le_refl _, Nat.le_refl _, hK, hba, hRO, htb⟩, ?_, ?_, ?_⟩ s.heap [] 0 0 ls hM va_S.rf (lrl_entry hl hn) (by show 0 + m_gc k ≤ m_gc k; omega) (by show 0 + m_gs k ≤ m_gs k; omega) (fun q => hz q)
    · exact ends_ret hx hb hr hlk
    · exact ends_exc hlk htb
    · exact ends_thr hx hb hlk htb hown hts hst hRO (Nat.le_refl _) (Nat.le_refl _) hba
  cases hhh : m_hh k with
  | nil =>
    refine vx_ofWF (cc := m_c k) (maxL := m_l k) (ret := m_r k) hk.1 (ws' := lw_T) (by rw [m_ws, m_w, hhh]) ?_
    intro p e s m args below meth c s₁ B hml htb hv
    refine key p e s m args below meth c s₁ B hml ?_ hv
    rw [hhh]
    cases hz : c.exceptionTable.toList with
    | nil => rfl
    | cons x r => exact (htb x (by rw [hz]; exact List.mem_cons_self)).elim
  | cons q hh =>
    refine vx_ofWH (cc := m_c k) (maxL := m_l k) (ret := m_r k) (hh := q :: hh) (by rcases hk.2 with h | h; · rw [hhh] at h; cases h
                                                                                    · exact h) (ws' := lw_T) (by rw [m_ws, m_w, hhh]) ?_
    intro p e s m args below meth c s₁ B hml hv
    refine key p e s m args below meth c s₁ B hml ?_ hv
    rw [hhh]
    refine vx_table (x := m_y k) B (bytes := m_c k) (maxL' := m_l k) (ret' := m_r k) ?_
    have := atoms_spec (ws := m_ws k) B.pre (m_w k) List.mem_cons_self
    rw [m_w, hhh] at this
    exact this
