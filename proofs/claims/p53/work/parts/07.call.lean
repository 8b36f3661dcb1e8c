/-! calls, over the machine -/
theorem T_mem {w : Cond} (h : w ∈ lw_tbl) (hg : goodWord w = true) : w ∈ lw_T := List.mem_append_left _ (List.mem_filter.mpr ⟨h, hg⟩)
theorem gi_T {ws : List Cond} (h : ∀ w ∈ ws, w ∈ lw_T) : GoodIn lw_T ws := fun w hw => T_good w (h w hw)
theorem cat_le (v : Value) : v.category ≤ 2 := by cases v <;> simp [Value.category]
theorem cat_sum {ba : Nat} {xa : Nat → Nat} : ∀ (l : List Value) (n : Nat), l.length ≤ n → ((l.map (trv ba xa)).map fun v => v.category).sum ≤ 2 * n
  | [], n, _ => by simp
  | a :: l, 0, h => by simp at h
  | a :: l, n + 1, h => by
    have h1 := cat_sum (ba := ba) (xa := xa) l n (by simpa using h)
    have h2 := cat_le (trv ba xa a)
    simp only [List.map_cons, List.sum_cons]
    omega
theorem cat_ct {ba : Nat} {xa : Nat → Nat} : ∀ (l : List Value), ((l.map (trv ba xa)).map fun v => v.category).sum ≤ v_ct l
  | [] => by simp [v_ct]
  | a :: l => by
    have h1 := cat_ct (ba := ba) (xa := xa) l
    have h2 : (trv ba xa a).category ≤ if v_c2 a = true then 2 else 1 := by cases a <;> simp [trv, Value.category, v_c2]
    simp only [List.map_cons, List.sum_cons, v_ct]
    omega
theorem cat_4 {ba : Nat} {xa : Nat → Nat} (l : List Value) (h : v_ct l ≤ 8) : ((l.map (trv ba xa)).map fun v => v.category).sum ≤ 8 := Nat.le_trans (cat_ct l) h
def c_rm (k x : Nat) : Bool := decide (m_fr x + 1 ≤ m_fr k) && decide (8 + (m_l x + 11) + m_lo x ≤ m_lo k)
def c_mt (x n : Nat) : Bool := (plainFor (m_y x) && (decide (m_hh x = []) || plainName (m_y x).cls)) && decide ((m_y x).cls ≠ "java/lang/invoke/MethodHandle" ∧ (m_y x).cls ≠ "java/lang/invoke/VarHandle" ∧ (parseMethodDescriptor (m_y x).desc).map (fun d => d.parameters.length) = some n) && decide (m_w x ∈ lw_tbl) && goodWord (m_w x) && decide (Cond.initialized (m_y x).cls ∈ lw_tbl)
theorem c_mt_ws {x n : Nat} (h : c_mt x n = true) : ∀ w ∈ m_ws x, w ∈ lw_T := by
  simp only [c_mt, Bool.and_eq_true, Bool.or_eq_true, decide_eq_true_eq] at h
  intro w hw
  rcases List.mem_cons.mp hw with rfl | hw
  · exact T_mem h.1.1.2 h.1.2
  · exact hw
theorem gw_in (C : String) : goodWord (Cond.initialized C) = true := rfl
theorem gw_ml (C : String) (i : Nat) (y : MethodName) : goodWord (Cond.methodLink C i y) = true := rfl
theorem gw_im (y : MethodName) : goodWord (Cond.instanceMethod y) = true := rfl
theorem gw_st (y : MethodName) : goodWord (Cond.static y) = true := rfl
theorem gw_se (C : String) (x y : MethodName) : goodWord (Cond.selects C x y) = true := rfl
theorem gw_fl (C : String) (i : Nat) (a b d : String) : goodWord (Cond.fieldLink C i a b d) = true := rfl
theorem gw_cl (C : String) (i : Nat) (a : String) : goodWord (Cond.classLink C i a) = true := rfl
theorem gw_co (C : String) (i : Nat) (a : Int32) : goodWord (Cond.constant C i a) = true := rfl
theorem gw_cL (C : String) (i : Nat) (a : Int64) : goodWord (Cond.constantLong C i a) = true := rfl
theorem gw_is (C : String) (i : Nat) : goodWord (Cond.instantiable C i) = true := rfl
theorem gw_na (y : MethodName) : goodWord (Cond.native y) = true := rfl
theorem gw_ac (t : FieldType) : goodWord (Cond.arrayClass t) = true := rfl
/-- a contract that throws nothing -/
theorem Met_of {l : Launch} {y : MethodName} {ws : List Cond} {rm : Room} {Pc : Array Value → State → Prop} {Qc : Array Value → State → Outcome → State → Prop} {XC : String → State → State → Prop} {mc ms : Nat} {free : Addr → Prop} (h : vx_Met l y ws rm Pc Qc XC mc ms free) (hX : ∀ E st t, ¬ XC E st t) : Met l y ws rm Pc Qc mc ms free := by
  intro p e ha hc hk s m args below hf hap hP hK
  obtain ⟨n, o, h1, h2, h3, h4⟩ := h p e ha hc hk s m args below hf hap hP hK
  refine ⟨n, o, h1, h2, h3, ?_⟩
  rcases h4 with h4 | ⟨q, rfl, E, ce, L, hx, -⟩
  · exact h4
  · exact absurd hx (hX _ _ _)
section CALLW
variable {k : Nat} {p : Program} {l : Launch} {e : Env} {R : Room} {s : State} {m : MethodId} {args : Array Value} {below : List Frame} {meth : Method} {c : Code} {ba : Nat} {D : va_G} {aC xa : Nat → Nat} {Q : mW → mO → Prop} {Qr : State → Prop}
variable {H : Heap} {locs : List Loc} {cells slots pc mc ms : Nat} {ls : Array Slot} {w : mW} {Q' : mW → mO → Prop} {st0 rest : List Value} {a : Array Value}
theorem run_go (hr : vx_Run p l e R s m args below meth c H locs cells slots mc ms (F0 m pc ls st0) rest (m_Q ba xa aC D Q' a) (m_X ba xa aC D Q') (aA ba)) (hS : va_S (aA ba) s.heap H locs)
    (kk : ∀ (w' : mW) (v : Option Value) (H1 : Heap) (locs1 : List Loc), Q' w' (.inl v) → Sim ba xa aC D w' s H1 → va_S (aA ba) s.heap H1 locs1 → W p l e R s m args below meth c H1 locs1 (cells + mc) (slots + ms) Qr (F0 m (pc + 3) ls ((v.map (trv ba xa)).toList ++ rest)))
    (kx : ∀ (w' : mW) (E : Nat) (q : Addr) (ce : Cell) (H1 : Heap) (locs1 : List Loc), Q' w' (.inr E) → Sim ba xa aC D w' s H1 → va_S (aA ba) s.heap H1 locs1 → E < 4 → H1[q]? = some ce → ce.vm = .none → s.vm.findClass (m_E E) = some ce.cls → vx_W p l e R s m args below meth c H1 locs1 (cells + mc) (slots + ms) Qr (F0 m pc ls rest) q) :
    W p l e R s m args below meth c H locs cells slots Qr (F0 m pc ls st0) := by
  intro T hT X
  rcases hr T hT X with ⟨v, st₀, t, T', L, h0, X', hL, e1, e2, ⟨⟨w', v', hv, hQ, hM⟩, hF⟩, st⟩ | ⟨q, st₀, t, T', L, E, ce, h0, X', hL, e1, e2, ⟨⟨w', E', hE, hE4, hQ, hM⟩, hF⟩, hce, hcv, hcl, st⟩
  · cases hv
    obtain ⟨k1, k2, k3⟩ := vx_keep h0 e1 hS (fun q _ h => h) (fun q h => h) hL hF
    have hv2 : s.vm.Alike t.vm := by rw [← e2]; exact X'.warmed.alike
    obtain ⟨t2, a1, b1⟩ := kk w' v' T'.heap (locs ++ L) hQ (by rw [e1]; exact hM.moved hv2.symm) k3 T' rfl X'
    exact ⟨t2, st t2 a1, b1⟩
  · subst hE
    obtain ⟨k1, k2, k3⟩ := vx_keep h0 e1 hS (fun q _ h => h) (fun q h => h) hL hF
    have hv2 : s.vm.Alike t.vm := by rw [← e2]; exact X'.warmed.alike
    obtain ⟨t2, a1, b1⟩ := kx w' E' q ce T'.heap (locs ++ L) hQ (by rw [e1]; exact hM.moved hv2.symm) k3 hE4 (by rw [e1]; exact hce) hcv hcl T' rfl X'
    exact ⟨t2, st.trans a1, b1⟩
theorem runP_go (hr : va_Run p l e R s m args below meth c H locs cells slots mc ms (F0 m pc ls st0) rest (m_Q ba xa aC D Q' a) (aA ba)) (hS : va_S (aA ba) s.heap H locs)
    (kk : ∀ (w' : mW) (v : Option Value) (H1 : Heap) (locs1 : List Loc), Q' w' (.inl v) → Sim ba xa aC D w' s H1 → va_S (aA ba) s.heap H1 locs1 → W p l e R s m args below meth c H1 locs1 (cells + mc) (slots + ms) Qr (F0 m (pc + 3) ls ((v.map (trv ba xa)).toList ++ rest))) :
    W p l e R s m args below meth c H locs cells slots Qr (F0 m pc ls st0) := by
  intro T hT X
  obtain ⟨v, st₀, t, T', L, h0, X', hL, e1, e2, ⟨⟨w', v', hv, hQ, hM⟩, hF⟩, st⟩ := hr T hT X
  cases hv
  obtain ⟨k1, k2, k3⟩ := vx_keep h0 e1 hS (fun q _ h => h) (fun q h => h) hL hF
  have hv2 : s.vm.Alike t.vm := by rw [← e2]; exact X'.warmed.alike
  obtain ⟨t2, a1, b1⟩ := kk w' v' T'.heap (locs ++ L) hQ (by rw [e1]; exact hM.moved hv2.symm) k3 T' rfl X'
  exact ⟨t2, st t2 a1, b1⟩
theorem m_w_nil {x : Nat} (h : m_hh x = []) : m_ws x = .code (m_y x) (m_c x) (m_l x) (m_r x) :: lw_T := by rw [m_ws, m_w, h]
/-- what may take a call -/
def Rcv (s : State) (H : Heap) (C : String) (a : Nat) : Prop := ∃ cell : Cell, H[a]? = some cell ∧ cell.vm.isStatics = false ∧ s.vm.findClass C = some cell.cls
/-- an object of the world, as a receiver -/
theorem recv_at (hM : Sim ba xa aC D w s H) (hK : va_K D vwCl (m_tys aC) s) {b ci : Nat} (hsh : w_sh w b = (0, ci)) (hc : vwCl[ci]? = some (m_cl ci)) : Rcv s H (m_cl ci).1 (sgm ba xa b) := by
  have h1 : 100 ≤ b := Nat.le_of_not_lt fun q => by have := hM.2.1 b q; rw [hsh] at this; simp at this
  have h2 : b < 100 + w_n w := Nat.lt_of_not_le fun q => by have := hM.2.2.1 b q; rw [hsh] at this; simp at this
  have h3 := wld_at (ba := ba) (xa := xa) (aC := aC) h1 h2 (by rw [hsh]; show 0 < 50; omega)
  have h4 : cel ba xa aC w b = .inr (ci, flds ba xa w ci b) := by rw [cel, hsh]; rfl
  rw [h4] at h3
  exact va_recv hK hM.1 hc h3
/-- a constant text, as a receiver -/
theorem recv_str (hRO : RO ba xa s s.heap) (hS : va_S (aA ba) s.heap H locs) {b : Nat} (h : 2 ≤ b ∧ b < 18) : Rcv s H "java/lang/String" (sgm ba xa b) := by
  have hl : m_str.length = 16 := rfl
  have hj : m_str[b - 2]? = some (m_str[b - 2]'(by omega)) := List.getElem?_eq_getElem (by omega)
  obtain ⟨v, s0, -⟩ := (hRO.kept hS.2.1).2.2.2.2.2.1 (b - 2) _ hj
  obtain ⟨cell, g1, g2, g3, -⟩ := s0
  refine ⟨cell, ?_, g2, g3⟩
  rw [sgm, if_pos (by omega)]
  rw [show 2 + (b - 2) = b by omega] at g1
  exact g1
theorem call_V (C : Cx k p l e R s m args below meth c ba D aC xa Q Qr) (hM : Sim ba xa aC D w s H) (hS : va_S (aA ba) s.heap H locs) (hls : ls.size = m_l k) {idx x n b : Nat} {as rs : List Value} (hd : decode (m_c k) pc = .ok (.invokevirtual idx, 3))
    (h1 : c_rm k x = true) (h2 : c_mt x n = true) (hn : as.length = n) (hlk : Cond.methodLink (m_o k) idx (m_y x) ∈ lw_tbl) (him : Cond.instanceMethod (m_y x) ∈ lw_tbl) (hse : Cond.selects (m_y x).cls (m_y x) (m_y x) ∈ lw_tbl) (hhx : m_hh x = [])
    (hrc : Rcv s H (m_y x).cls (sgm ba xa b)) (hrs : v_ct rs ≤ 8) (hg1 : cells + m_gc x ≤ R.cells) (hg2 : slots + m_gs x ≤ R.slots) (hz : m_al x = true → ba + w_n w = H.size) (hCT : CT x (.ref b :: as) w Q')
    (kk : ∀ (w' : mW) (v : Option Value) (H1 : Heap) (locs1 : List Loc), Q' w' (.inl v) → Sim ba xa aC D w' s H1 → va_S (aA ba) s.heap H1 locs1 → W p l e R s m args below meth c H1 locs1 (cells + m_gc x) (slots + m_gs x) Qr (F0 m (pc + 3) ls ((v.map (trv ba xa)).toList ++ rs.map (trv ba xa))))
    (kx : ∀ (w' : mW) (E : Nat) (q : Addr) (ce : Cell) (H1 : Heap) (locs1 : List Loc), Q' w' (.inr E) → Sim ba xa aC D w' s H1 → va_S (aA ba) s.heap H1 locs1 → E < 4 → H1[q]? = some ce → ce.vm = .none → s.vm.findClass (m_E E) = some ce.cls → vx_W p l e R s m args below meth c H1 locs1 (cells + m_gc x) (slots + m_gs x) Qr (F0 m pc ls (rs.map (trv ba xa))) q) :
    W p l e R s m args below meth c H locs cells slots Qr (F0 m pc ls ((as.reverse ++ .ref b :: rs).map (trv ba xa))) := by
  obtain ⟨⟨hx, hb, hml, hown, hts, -, hst, -⟩, ⟨hfr, hlo, hK, hba, hRO, -⟩, -⟩ := C
  have h1' := h1; have h2' := h2
  simp only [c_rm, Bool.and_eq_true, decide_eq_true_eq] at h1'
  simp only [c_mt, Bool.and_eq_true, Bool.or_eq_true, decide_eq_true_eq] at h2'
  have hmet := CT_met (k := x) h2'.1.1.1.1 hCT l hst ba D aC xa
  have hgi : GoodIn lw_T (wsV (m_o k) idx (m_y x).cls (m_y x) (m_ws x)) := gi_T fun w hw => by
    simp only [wsV, List.cons_append, List.nil_append, List.mem_cons] at hw
    rcases hw with rfl | rfl | rfl | rfl | hw
    · exact T_mem hlk rfl
    · exact T_mem him rfl
    · exact T_mem hse rfl
    · exact T_mem h2'.2 rfl
    · exact c_mt_ws h2 _ hw
  have hcw : CallW R s args (m_o k) (m_y x).cls idx (m_y x) (m_c x) (m_l x) (m_r x) (m_ws x) (m_rmk x) (m_gc x) (m_gs x) n := cwV n hts hgi (m_w_nil hhx) rfl rfl ⟨rfl, h2'.1.1.1.2⟩ ⟨Nat.le_trans h1'.1 hfr, Nat.le_trans h1'.2 hlo⟩
  obtain ⟨cell, g1, g2, g3⟩ := hrc
  have hstk : ((as.reverse ++ .ref b :: rs).map (trv ba xa)) = (as.map (trv ba xa)).reverse ++ .ref (sgm ba xa b) :: rs.map (trv ba xa) := by simp [trv]
  rw [hstk]
  refine run_go (vx_runV (As := as.map (trv ba xa)) (rest := rs.map (trv ba xa)) ⟨hx, hb, hml, hown, hts⟩ hmet hcw ⟨Inv.blind, ⟨cell, g1, g2, g3⟩, fun U hU hW => ⟨rfl, Inv.at hM hS hK hba hRO hz hU hW⟩⟩ rfl (by rw [List.length_map]; exact hn) hls rfl (lv_room (cat_4 rs hrs)) hd ⟨hg1, hg2⟩) hS kk kx
theorem call_S (C : Cx k p l e R s m args below meth c ba D aC xa Q Qr) (hM : Sim ba xa aC D w s H) (hS : va_S (aA ba) s.heap H locs) (hls : ls.size = m_l k) {idx x n : Nat} {as rs : List Value} (hd : decode (m_c k) pc = .ok (.invokestatic idx, 3))
    (h1 : c_rm k x = true) (h2 : c_mt x n = true) (hn : as.length = n) (hlk : Cond.methodLink (m_o k) idx (m_y x) ∈ lw_tbl) (hsta : Cond.static (m_y x) ∈ lw_tbl)
    (hrs : v_ct rs ≤ 8) (hg1 : cells + m_gc x ≤ R.cells) (hg2 : slots + m_gs x ≤ R.slots) (hz : m_al x = true → ba + w_n w = H.size) (hCT : CT x as w Q')
    (kk : ∀ (w' : mW) (v : Option Value) (H1 : Heap) (locs1 : List Loc), Q' w' (.inl v) → Sim ba xa aC D w' s H1 → va_S (aA ba) s.heap H1 locs1 → W p l e R s m args below meth c H1 locs1 (cells + m_gc x) (slots + m_gs x) Qr (F0 m (pc + 3) ls ((v.map (trv ba xa)).toList ++ rs.map (trv ba xa))))
    (kx : ∀ (w' : mW) (E : Nat) (q : Addr) (ce : Cell) (H1 : Heap) (locs1 : List Loc), Q' w' (.inr E) → Sim ba xa aC D w' s H1 → va_S (aA ba) s.heap H1 locs1 → E < 4 → H1[q]? = some ce → ce.vm = .none → s.vm.findClass (m_E E) = some ce.cls → vx_W p l e R s m args below meth c H1 locs1 (cells + m_gc x) (slots + m_gs x) Qr (F0 m pc ls (rs.map (trv ba xa))) q) :
    W p l e R s m args below meth c H locs cells slots Qr (F0 m pc ls ((as.reverse ++ rs).map (trv ba xa))) := by
  obtain ⟨⟨hx, hb, hml, hown, hts, -, hst, -⟩, ⟨hfr, hlo, hK, hba, hRO, -⟩, -⟩ := C
  have h1' := h1; have h2' := h2
  simp only [c_rm, Bool.and_eq_true, decide_eq_true_eq] at h1'
  simp only [c_mt, Bool.and_eq_true, Bool.or_eq_true, decide_eq_true_eq] at h2'
  have hmet := CT_met (k := x) h2'.1.1.1.1 hCT l hst ba D aC xa
  have hgi : GoodIn lw_T (va_wsS (m_o k) idx (m_y x) (m_ws x)) := gi_T fun w hw => by
    simp only [va_wsS, List.cons_append, List.nil_append, List.mem_cons] at hw
    rcases hw with rfl | rfl | rfl | hw
    · exact T_mem hlk rfl
    · exact T_mem hsta rfl
    · exact T_mem h2'.2 rfl
    · exact c_mt_ws h2 _ hw
  have hstk : ((as.reverse ++ rs).map (trv ba xa)) = (as.map (trv ba xa)).reverse ++ rs.map (trv ba xa) := by simp
  rw [hstk]
  cases hhx : m_hh x with
  | nil =>
    have hcw := va_cwS (R := R) (s := s) (args := args) (mc := m_gc x) (ms := m_gs x) (rm := m_rmk x) n hts hgi (m_w_nil hhx) rfl rfl h2'.1.1.1.2 ⟨Nat.le_trans h1'.1 hfr, Nat.le_trans h1'.2 hlo⟩
    exact run_go (vx_runS (As := as.map (trv ba xa)) (rest := rs.map (trv ba xa)) ⟨hx, hb, hml, hown, hts⟩ hmet hcw ⟨Inv.blind, fun U hU hW => ⟨rfl, Inv.at hM hS hK hba hRO hz hU hW⟩⟩ rfl (by rw [List.length_map]; exact hn) hls rfl (lv_room (cat_4 rs hrs)) hd ⟨hg1, hg2⟩) hS kk kx
  | cons q hh =>
    have hw : m_ws x = .codeWith (m_y x) (m_c x) (m_l x) (m_r x) (q :: hh) :: lw_T := by rw [m_ws, m_w, hhx]
    have hcw := vx_cwSW (R := R) (s := s) (args := args) (mc := m_gc x) (ms := m_gs x) (rm := m_rmk x) n hts hgi hw rfl rfl h2'.1.1.1.2 ⟨Nat.le_trans h1'.1 hfr, Nat.le_trans h1'.2 hlo⟩
    exact run_go (vx_runSX (As := as.map (trv ba xa)) (rest := rs.map (trv ba xa)) ⟨hx, hb, hml, hown, hts⟩ hmet hcw ⟨Inv.blind, fun U hU hW => ⟨rfl, Inv.at hM hS hK hba hRO hz hU hW⟩⟩ rfl (by rw [List.length_map]; exact hn) hls rfl (lv_room (cat_4 rs hrs)) hd ⟨hg1, hg2⟩) hS kk kx
theorem call_I (C : Cx k p l e R s m args below meth c ba D aC xa Q Qr) (hM : Sim ba xa aC D w s H) (hS : va_S (aA ba) s.heap H locs) (hls : ls.size = m_l k) {idx x n b : Nat} {as rs : List Value} (hd : decode (m_c k) pc = .ok (.invokespecial idx, 3))
    (h1 : c_rm k x = true) (h2 : c_mt x n = true) (hn : as.length = n) (hlk : Cond.methodLink (m_o k) idx (m_y x) ∈ lw_tbl ∨ ∃ ho, Cond.methodLinkNest (m_o k) idx (m_y x) ho ∈ lw_tbl) (him : Cond.instanceMethod (m_y x) ∈ lw_tbl) (hnm : (m_y x).name = "<init>") (hrx : m_r x = none) (hhx : m_hh x = [])
    (hrs : v_ct rs ≤ 8) (hg1 : cells + m_gc x ≤ R.cells) (hg2 : slots + m_gs x ≤ R.slots) (hz : m_al x = true → ba + w_n w = H.size) (hCT : CT x (.ref b :: as) w Q') (hQX : ∀ w' E, ¬ Q' w' (.inr E))
    (kk : ∀ (w' : mW) (v : Option Value) (H1 : Heap) (locs1 : List Loc), Q' w' (.inl v) → Sim ba xa aC D w' s H1 → va_S (aA ba) s.heap H1 locs1 → W p l e R s m args below meth c H1 locs1 (cells + m_gc x) (slots + m_gs x) Qr (F0 m (pc + 3) ls ((v.map (trv ba xa)).toList ++ rs.map (trv ba xa)))) :
    W p l e R s m args below meth c H locs cells slots Qr (F0 m pc ls ((as.reverse ++ .ref b :: rs).map (trv ba xa))) := by
  obtain ⟨⟨hx, hb, hml, hown, hts, -, hst, -⟩, ⟨hfr, hlo, hK, hba, hRO, -⟩, -⟩ := C
  have h1' := h1; have h2' := h2
  simp only [c_rm, Bool.and_eq_true, decide_eq_true_eq] at h1'
  simp only [c_mt, Bool.and_eq_true, Bool.or_eq_true, decide_eq_true_eq] at h2'
  have hmet : Met l (m_y x) (m_ws x) (m_rmk x) _ _ (m_gc x) (m_gs x) (aA ba) := Met_of (CT_met (k := x) h2'.1.1.1.1 hCT l hst ba D aC xa) fun E st t h => by
    obtain ⟨⟨w', E', -, -, hq, -⟩, -⟩ := h
    exact hQX w' E' hq
  have hstk : ((as.reverse ++ .ref b :: rs).map (trv ba xa)) = (as.map (trv ba xa)).reverse ++ .ref (sgm ba xa b) :: rs.map (trv ba xa) := by simp [trv]
  have hini : (Cond.initialized (m_y x).cls).before args s = true := T_at hts h2'.2 rfl
  have hins : (Cond.instanceMethod (m_y x)).before args s = true := T_at hts him rfl
  have hgi : GoodIn lw_T (m_ws x) := gi_T (c_mt_ws h2)
  have hw : m_ws x = .code (m_y x) (m_c x) (m_l x) none :: lw_T := by rw [m_w_nil hhx, hrx]
  rw [hstk]
  rcases hlk with hlk | ⟨ho, hlk⟩
  · have hcw := cwI (R := R) (own := m_o k) (index := idx) (mc := m_gc x) (ms := m_gs x) (rm := m_rmk x) n hts hgi hw rfl rfl hini (T_at hts hlk rfl) hins hnm h2'.1.1.1.2 ⟨Nat.le_trans h1'.1 hfr, Nat.le_trans h1'.2 hlo⟩
    exact runP_go (va_runI (As := as.map (trv ba xa)) (rest := rs.map (trv ba xa)) ⟨hx, hb, hml, hown, hts⟩ hmet hcw ⟨Inv.blind, fun U hU hW => ⟨rfl, Inv.at hM hS hK hba hRO hz hU hW⟩⟩ rfl (by rw [List.length_map]; exact hn) hls rfl (lv_room (cat_4 rs hrs)) hd ⟨hg1, hg2⟩) hS kk
  · have hNw : va_Nw (.methodLinkNest (m_o k) idx (m_y x) ho) s := hRO.2.2.2.2.2.2.2.2.1 _ (List.mem_filter.mpr ⟨hlk, rfl⟩)
    have hcw := va_cnB (R := R) (args := args) (mc := m_gc x) (ms := m_gs x) (rm := m_rmk x) n hts hgi hw rfl rfl hNw hini h2'.1.1.1.2 ⟨Nat.le_trans h1'.1 hfr, Nat.le_trans h1'.2 hlo⟩
    exact runP_go (va_runIN (As := as.map (trv ba xa)) (rest := rs.map (trv ba xa)) ⟨hx, hb, hml, hown, hts⟩ hmet ⟨hcw, hnm, hins⟩ ⟨Inv.blind, fun U hU hW => ⟨rfl, Inv.at hM hS hK hba hRO hz hU hW⟩⟩ rfl (by rw [List.length_map]; exact hn) hls rfl (lv_room (cat_4 rs hrs)) hd ⟨hg1, hg2⟩) hS kk
/-- a static method of the host's, or of a nest mate -/
theorem call_N (C : Cx k p l e R s m args below meth c ba D aC xa Q Qr) (hM : Sim ba xa aC D w s H) (hS : va_S (aA ba) s.heap H locs) (hls : ls.size = m_l k) {idx x n : Nat} {as rs : List Value} (hd : decode (m_c k) pc = .ok (.invokestatic idx, 3))
    (h1 : c_rm k x = true) (h2 : c_mt x n = true) (hn : as.length = n) (hlk : ∃ ho, Cond.methodLinkNest (m_o k) idx (m_y x) ho ∈ lw_tbl) (hsta : Cond.static (m_y x) ∈ lw_tbl) (hhx : m_hh x = [])
    (hrs : v_ct rs ≤ 8) (hg1 : cells + m_gc x ≤ R.cells) (hg2 : slots + m_gs x ≤ R.slots) (hz : m_al x = true → ba + w_n w = H.size) (hCT : CT x as w Q') (hQX : ∀ w' E, ¬ Q' w' (.inr E))
    (kk : ∀ (w' : mW) (v : Option Value) (H1 : Heap) (locs1 : List Loc), Q' w' (.inl v) → Sim ba xa aC D w' s H1 → va_S (aA ba) s.heap H1 locs1 → W p l e R s m args below meth c H1 locs1 (cells + m_gc x) (slots + m_gs x) Qr (F0 m (pc + 3) ls ((v.map (trv ba xa)).toList ++ rs.map (trv ba xa)))) :
    W p l e R s m args below meth c H locs cells slots Qr (F0 m pc ls ((as.reverse ++ rs).map (trv ba xa))) := by
  obtain ⟨⟨hx, hb, hml, hown, hts, -, hst, -⟩, ⟨hfr, hlo, hK, hba, hRO, -⟩, -⟩ := C
  have h1' := h1; have h2' := h2
  simp only [c_rm, Bool.and_eq_true, decide_eq_true_eq] at h1'
  simp only [c_mt, Bool.and_eq_true, Bool.or_eq_true, decide_eq_true_eq] at h2'
  have hmet : Met l (m_y x) (m_ws x) (m_rmk x) _ _ (m_gc x) (m_gs x) (aA ba) := Met_of (CT_met (k := x) h2'.1.1.1.1 hCT l hst ba D aC xa) fun E st t h => by
    obtain ⟨⟨w', E', -, -, hq, -⟩, -⟩ := h
    exact hQX w' E' hq
  have hstk : ((as.reverse ++ rs).map (trv ba xa)) = (as.map (trv ba xa)).reverse ++ rs.map (trv ba xa) := by simp
  have hini : (Cond.initialized (m_y x).cls).before args s = true := T_at hts h2'.2 rfl
  have hgi : GoodIn lw_T (m_ws x) := gi_T (c_mt_ws h2)
  obtain ⟨ho, hlk⟩ := hlk
  have hNw : va_Nw (.methodLinkNest (m_o k) idx (m_y x) ho) s := hRO.2.2.2.2.2.2.2.2.1 _ (List.mem_filter.mpr ⟨hlk, rfl⟩)
  have hcw := va_cnB (R := R) (args := args) (mc := m_gc x) (ms := m_gs x) (rm := m_rmk x) n hts hgi (m_w_nil hhx) rfl rfl hNw hini h2'.1.1.1.2 ⟨Nat.le_trans h1'.1 hfr, Nat.le_trans h1'.2 hlo⟩
  rw [hstk]
  exact runP_go (va_runSN (As := as.map (trv ba xa)) (rest := rs.map (trv ba xa)) ⟨hx, hb, hml, hown, hts⟩ hmet ⟨hcw, T_at hts hsta rfl, trivial⟩ ⟨Inv.blind, fun U hU hW => ⟨rfl, Inv.at hM hS hK hba hRO hz hU hW⟩⟩ rfl (by rw [List.length_map]; exact hn) hls rfl (lv_room (cat_4 rs hrs)) hd ⟨hg1, hg2⟩) hS kk
/-- a method that an object has from the class above its own -/
theorem call_U (C : Cx k p l e R s m args below meth c ba D aC xa Q Qr) (hM : Sim ba xa aC D w s H) (hS : va_S (aA ba) s.heap H locs) (hls : ls.size = m_l k) {idx x n b : Nat} {as rs : List Value} {Cn ow : String} {xn : MethodName} (hd : decode (m_c k) pc = .ok (.invokevirtual idx, 3))
    (h1 : c_rm k x = true) (h2 : c_mt x n = true) (hn : as.length = n) (hlk : Cond.methodLink (m_o k) idx xn ∈ lw_tbl) (him : Cond.instanceMethod (m_y x) ∈ lw_tbl) (hse : (Cond.selects Cn xn (m_y x)).before args s = true) (hsm : Cond.sameMethod xn.cls ow xn.name xn.desc ∈ lw_tbl) (hdc : va_Decl s ⟨ow, xn.name, xn.desc⟩) (how : ow ≠ "java/lang/invoke/MethodHandle" ∧ ow ≠ "java/lang/invoke/VarHandle") (hnp : (parseMethodDescriptor xn.desc).map (fun d => d.parameters.length) = some n) (hhx : m_hh x = [])
    (hrc : Rcv s H Cn (sgm ba xa b)) (hrs : v_ct rs ≤ 8) (hg1 : cells + m_gc x ≤ R.cells) (hg2 : slots + m_gs x ≤ R.slots) (hz : m_al x = true → ba + w_n w = H.size) (hCT : CT x (.ref b :: as) w Q') (hQX : ∀ w' E, ¬ Q' w' (.inr E))
    (kk : ∀ (w' : mW) (v : Option Value) (H1 : Heap) (locs1 : List Loc), Q' w' (.inl v) → Sim ba xa aC D w' s H1 → va_S (aA ba) s.heap H1 locs1 → W p l e R s m args below meth c H1 locs1 (cells + m_gc x) (slots + m_gs x) Qr (F0 m (pc + 3) ls ((v.map (trv ba xa)).toList ++ rs.map (trv ba xa)))) :
    W p l e R s m args below meth c H locs cells slots Qr (F0 m pc ls ((as.reverse ++ .ref b :: rs).map (trv ba xa))) := by
  obtain ⟨⟨hx, hb, hml, hown, hts, -, hst, -⟩, ⟨hfr, hlo, hK, hba, hRO, -⟩, -⟩ := C
  have h1' := h1; have h2' := h2
  simp only [c_rm, Bool.and_eq_true, decide_eq_true_eq] at h1'
  simp only [c_mt, Bool.and_eq_true, Bool.or_eq_true, decide_eq_true_eq] at h2'
  have hmet : Met l (m_y x) (m_ws x) (m_rmk x) _ _ (m_gc x) (m_gs x) (aA ba) := Met_of (CT_met (k := x) h2'.1.1.1.1 hCT l hst ba D aC xa) fun E st t h => by
    obtain ⟨⟨w', E', -, -, hq, -⟩, -⟩ := h
    exact hQX w' E' hq
  have hgi : GoodIn lw_T (m_ws x) := gi_T (c_mt_ws h2)
  have hcode : Cond.code (m_y x) (m_c x) (m_l x) (m_r x) ∈ m_ws x := by rw [m_w_nil hhx]; exact List.mem_cons_self
  have hcw : va_CU R s args (m_o k) Cn ow idx xn (m_y x) (m_c x) (m_l x) (m_r x) (m_ws x) (m_rmk x) (m_gc x) (m_gs x) n :=
    ⟨⟨rfl, rfl, Nat.le_trans h1'.1 hfr, Nat.le_trans h1'.2 hlo, pay_in hts hgi, hcode⟩, hts _ (hgi _ hcode).1, T_at hts h2'.2 rfl, how, fun sig h => by rw [h] at hnp; exact (Option.some.inj hnp).symm, T_at hts hlk rfl, T_at hts hsm rfl, hdc, hse, T_at hts him rfl⟩
  obtain ⟨cell, g1, g2, g3⟩ := hrc
  have hstk : ((as.reverse ++ .ref b :: rs).map (trv ba xa)) = (as.map (trv ba xa)).reverse ++ .ref (sgm ba xa b) :: rs.map (trv ba xa) := by simp [trv]
  rw [hstk]
  exact runP_go (va_runU (As := as.map (trv ba xa)) (rest := rs.map (trv ba xa)) ⟨hx, hb, hml, hown, hts⟩ hmet hcw ⟨Inv.blind, ⟨cell, g1, g2, g3⟩, fun U hU hW => ⟨rfl, Inv.at hM hS hK hba hRO hz hU hW⟩⟩ rfl (by rw [List.length_map]; exact hn) hls rfl (lv_room (cat_4 rs hrs)) hd ⟨hg1, hg2⟩) hS kk
/-- super.m(..) -/
theorem call_P (C : Cx k p l e R s m args below meth c ba D aC xa Q Qr) (hM : Sim ba xa aC D w s H) (hS : va_S (aA ba) s.heap H locs) (hls : ls.size = m_l k) {idx x n b : Nat} {as rs : List Value} {Cn : String} {cC : ClassId} (hat : ClassAt s Cn cC) (hd : decode (m_c k) pc = .ok (.invokespecial idx, 3))
    (h1 : c_rm k x = true) (h2 : c_mt x n = true) (hn : as.length = n) (hlk : Cond.methodLink (m_o k) idx (m_y x) ∈ lw_tbl) (him : Cond.instanceMethod (m_y x) ∈ lw_tbl) (hsm : Cond.sameMethod (m_y x).cls (m_y x).cls (m_y x).name (m_y x).desc ∈ lw_tbl) (hsu : Cond.superclass (m_o k) (m_y x).cls ∈ lw_tbl) (hni : (m_y x).name ≠ "<init>") (hhx : m_hh x = [])
    (hrc : Rcv s H Cn (sgm ba xa b)) (hrs : v_ct rs ≤ 8) (hg1 : cells + m_gc x ≤ R.cells) (hg2 : slots + m_gs x ≤ R.slots) (hz : m_al x = true → ba + w_n w = H.size) (hCT : CT x (.ref b :: as) w Q') (hQX : ∀ w' E, ¬ Q' w' (.inr E))
    (kk : ∀ (w' : mW) (v : Option Value) (H1 : Heap) (locs1 : List Loc), Q' w' (.inl v) → Sim ba xa aC D w' s H1 → va_S (aA ba) s.heap H1 locs1 → W p l e R s m args below meth c H1 locs1 (cells + m_gc x) (slots + m_gs x) Qr (F0 m (pc + 3) ls ((v.map (trv ba xa)).toList ++ rs.map (trv ba xa)))) :
    W p l e R s m args below meth c H locs cells slots Qr (F0 m pc ls ((as.reverse ++ .ref b :: rs).map (trv ba xa))) := by
  obtain ⟨⟨hx, hb, hml, hown, hts, -, hst, -⟩, ⟨hfr, hlo, hK, hba, hRO, -⟩, -⟩ := C
  have h1' := h1; have h2' := h2
  simp only [c_rm, Bool.and_eq_true, decide_eq_true_eq] at h1'
  simp only [c_mt, Bool.and_eq_true, Bool.or_eq_true, decide_eq_true_eq] at h2'
  have hmet : Met l (m_y x) (m_ws x) (m_rmk x) _ _ (m_gc x) (m_gs x) (aA ba) := Met_of (CT_met (k := x) h2'.1.1.1.1 hCT l hst ba D aC xa) fun E st t h => by
    obtain ⟨⟨w', E', -, -, hq, -⟩, -⟩ := h
    exact hQX w' E' hq
  have hgi : GoodIn lw_T (va_wsSU (m_o k) idx (m_y x) (m_ws x)) := gi_T fun w hw => by
    simp only [va_wsSU, List.cons_append, List.nil_append, List.mem_cons] at hw
    rcases hw with rfl | rfl | rfl | rfl | rfl | hw
    · exact T_mem hlk rfl
    · exact T_mem hsm rfl
    · exact T_mem hsu rfl
    · exact T_mem him rfl
    · exact T_mem h2'.2 rfl
    · exact c_mt_ws h2 _ hw
  have hcw := va_cwSU (R := R) (s := s) (args := args) (mc := m_gc x) (ms := m_gs x) (rm := m_rmk x) n hts hgi (m_w_nil hhx) rfl rfl ⟨hni, h2'.1.1.1.2.2.2⟩ ⟨Nat.le_trans h1'.1 hfr, Nat.le_trans h1'.2 hlo⟩
  obtain ⟨cell, g1, g2, g3⟩ := hrc
  have hstk : ((as.reverse ++ .ref b :: rs).map (trv ba xa)) = (as.map (trv ba xa)).reverse ++ .ref (sgm ba xa b) :: rs.map (trv ba xa) := by simp [trv]
  rw [hstk]
  exact runP_go (va_runSU (As := as.map (trv ba xa)) (rest := rs.map (trv ba xa)) hat ⟨hx, hb, hml, hown, hts⟩ hmet hcw ⟨Inv.blind, ⟨cell, g1, g2, g3⟩, fun U hU hW => ⟨rfl, Inv.at hM hS hK hba hRO hz hU hW⟩⟩ rfl (by rw [List.length_map]; exact hn) hls rfl (lv_room (cat_4 rs hrs)) hd ⟨hg1, hg2⟩) hS kk
/-- a private method of a class above is what an object of the class below selects -/
theorem sel_up {y : MethodName} {Cn : String} {n : Nat} {s : State} {args : Array Value} (hy : y.cls ≠ "java/lang/invoke/MethodHandle" ∧ y.cls ≠ "java/lang/invoke/VarHandle")
    (hins : (Cond.instantiable Cn n).before args s = true) (hpriv : (Cond.privateMethod y).before args s = true) (hinst : (Cond.instanceMethod y).before args s = true) (hsame : (Cond.sameMethod y.cls y.cls y.name y.desc).before args s = true) :
    (Cond.selects Cn y y).before args s = true := by
  obtain ⟨c, k, hc, hk, -, hniab, -, -⟩ := Cond.instantiable_spec hins
  obtain ⟨mk, methM, hnamed, hmethM, -, -⟩ := Cond.instanceMethod_spec hinst
  obtain ⟨cn, ck, r, g1, g2, g3, g4, g5⟩ := Cond.sameMethod_found hsame
  have hfound : s.methodFound? y.cls y.name y.desc = some mk := State.methodFound?_of_named hnamed hy
  have hcls : mk.cls = cn := Option.some.inj ((findClass_of_methodNamed hnamed).symm.trans g1)
  have hsel : selectMethod {} s.vm c mk = .method mk := selectMethod_private hmethM (Cond.privateMethod_at hpriv mk methM hnamed hmethM)
  simp only [Cond.before, Cond.holds, Cond.value, hc, hfound, hnamed, hsel, hcls, g2]
  simp; exact g3
end CALLW
