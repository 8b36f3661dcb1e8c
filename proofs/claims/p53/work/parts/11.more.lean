section NEW11
variable {ba : Nat} {xa aC : Nat → Nat} {D : va_G} {w : mW} {s : State} {H H1 : Heap}
theorem cel_N {z : Nat × Nat} {b : Nat} (h : b ≠ 100 + w_n w) : cel ba xa aC (s_N w z) b = cel ba xa aC w b := by
  have e0 : w_sh (s_N w z) b = w_sh w b := by simp [w_sh, s_N, h]
  have e1 : w_I (s_N w z) b = w_I w b := by simp [w_I, s_N, h]
  have e2 : w_J (s_N w z) b = w_J w b := by simp [w_J, s_N, h]
  have e3 : w_R (s_N w z) b = w_R w b := by simp [w_R, s_N, h]
  have e : ∀ c, fld ba xa (s_N w z) c b = fld ba xa w c b := fun c => by funext j; unfold fld; rw [e1, e2, e3]
  simp only [cel, flds, arc, e0, e1, e2, e3, e]
/-- the world with one new cell -/
theorem Sim.newG {z : Nat × Nat} {w' : mW} {locs : List Loc} (hM : Sim ba xa aC D w s H) (hz : H.size = ba + w_n w) (hS : va_S (aA ba) s.heap H locs) (hz1 : H1.size = H.size + 1) (ho : ∀ q, q < H.size → H1[q]? = H[q]?) (h50 : z.1 < 50)
    (s0 : ∀ a, a ≠ 100 + w_n w → w_sh w' a = w_sh w a) (s1 : w_sh w' (100 + w_n w) = z) (sn : w_n w' = w_n w + 1) (sI : w_I w' 0 = w_I w 0) (hc : ∀ b, b ≠ 100 + w_n w → cel ba xa aC w' b = cel ba xa aC w b) (hat : va_at D vwCl (ba + w_n w, cel ba xa aC w' (100 + w_n w)) H1) : Sim ba xa aC D w' s H1 ∧ va_S (aA ba) s.heap H1 locs := by
  obtain ⟨m1, m2, m3, m4, m6, m7, m8, m9⟩ := hM
  refine ⟨⟨?_, fun a h => by rw [s0 a (by omega)]; exact m2 a h, fun a h => by rw [sn] at h; rw [s0 a (by omega)]; exact m3 a (by omega), by rw [sn]; omega, ⟨by rw [s0 0 (by omega)]; exact m6.1, fun a h => ?_⟩, ?_, by rw [s0 0 (by omega)]; exact m8, m9⟩, ⟨by have := hS.1; omega, fun q a b => (ho q (Nat.lt_of_lt_of_le a hS.1)).trans (hS.2.1 q a b), hS.2.2⟩⟩
  · intro k q hk
    obtain ⟨i, h1, h2, -, rfl⟩ := wld_key hk
    rw [sn] at h1
    by_cases hk : i = w_n w
    · subst hk; exact hat
    · rw [s0 _ (by omega)] at h2
      rw [hc _ (by omega)]
      have e2 := wld_at (ba := ba) (xa := xa) (aC := aC) (w := w) (a := 100 + i) (by omega) (by omega) h2
      have e3 : sgm ba xa (100 + i) = ba + i := by rw [sgm, if_neg (by omega)]; omega
      rw [e3] at e2
      exact (m1 _ _ e2).kept (ho _ (by show ba + i < H.size; omega))
  · by_cases ha : a = 100 + w_n w
    · subst ha; rw [s1] at h; omega
    · rw [s0 a ha] at h; exact m6.2 a h
  · rw [s0 0 (by omega), sI]
    exact m7.kept (ho _ (by omega))
theorem Sim.new {z : Nat × Nat} {locs : List Loc} (hM : Sim ba xa aC D w s H) (hz : H.size = ba + w_n w) (hS : va_S (aA ba) s.heap H locs) (hz1 : H1.size = H.size + 1) (ho : ∀ q, q < H.size → H1[q]? = H[q]?) (h50 : z.1 < 50) (hat : va_at D vwCl (ba + w_n w, cel ba xa aC (s_N w z) (100 + w_n w)) H1) : Sim ba xa aC D (s_N w z) s H1 ∧ va_S (aA ba) s.heap H1 locs :=
  hM.newG hz hS hz1 ho h50 (fun a h => by simp [w_sh, s_N, h]) (by simp [w_sh, s_N]) rfl (by simp [w_I, s_N]; intro h; omega) (fun b h => cel_N h) hat
/-- .. that is a copy of another -/
theorem Sim.copy {a t : Nat} {locs : List Loc} (hM : Sim ba xa aC D w s H) (hz : H.size = ba + w_n w) (hS : va_S (aA ba) s.heap H locs) (hz1 : H1.size = H.size + 1) (ho : ∀ q, q < H.size → H1[q]? = H[q]?) (hsh : (w_sh w a).1 = t + 1) (ht : t < 4) (hat : H1[H.size]? = some (vp_cell (aC t) ((w_sh w a).2, .inl (w_I w a)))) : Sim ba xa aC D (s_C w a) s H1 ∧ va_S (aA ba) s.heap H1 locs := by
  have e1 : w_sh (s_C w a) = w_sh (s_N w (w_sh w a)) := rfl
  refine hM.newG (z := w_sh w a) hz hS hz1 ho (by omega) (fun b h => by rw [e1]; simp [w_sh, s_N, h]) (by rw [e1]; simp [w_sh, s_N]) rfl (by simp only [w_I, s_C, s_A, s_N]; rw [if_neg (by show ¬ 0 = 100 + w_n w; omega), if_neg (by show ¬ 0 = 100 + w_n w; omega)]) (fun b h => ?_) ?_
  · rw [s_C, cel_A h, cel_N h]
  · have s1 : w_sh (s_N w (w_sh w a)) (100 + w_n w) = w_sh w a := by simp [w_sh, s_N]
    rw [s_C, cel_Aa (t := t) (by rw [s1]; exact hsh) ht, s1, ← hz]
    exact hat
theorem cel_Na {t n : Nat} (ht : t < 7) : ∃ X, cel ba xa aC (s_N w (t + 1, n)) (100 + w_n w) = .inl (aC t, n, X) ∧ vp_cell (aC t) (n, X) = arrV (aC t) n (fun _ => defaultValue (m_el t)) := by
  have s1 : w_sh (s_N w (t + 1, n)) (100 + w_n w) = (t + 1, n) := by simp [w_sh, s_N]
  have e1 : w_I (s_N w (t + 1, n)) (100 + w_n w) = fun _ => 0 := by simp [w_I, s_N]
  have e2 : w_J (s_N w (t + 1, n)) (100 + w_n w) = fun _ => 0 := by simp [w_J, s_N]
  have e3 : w_R (s_N w (t + 1, n)) (100 + w_n w) = fun _ => none := by simp [w_R, s_N]
  refine ⟨arc ba xa (s_N w (t + 1, n)) (t + 1) (100 + w_n w), by rw [cel, s1]; simp, ?_⟩
  rcases (show t = 0 ∨ t = 1 ∨ t = 2 ∨ t = 3 ∨ t = 4 ∨ t = 5 ∨ t = 6 by omega) with rfl | rfl | rfl | rfl | rfl | rfl | rfl
  · rw [arc_i (by omega), e1]; rfl
  · rw [arc_i (by omega), e1]; rfl
  · rw [arc_i (by omega), e1]; rfl
  · rw [arc_i (by omega), e1]; rfl
  · rw [arc_l, e2]; rfl
  · rw [arc_q, e3]; rfl
  · rw [arc_g, e3]; rfl
theorem fld_N {c j : Nat} (hc : c < 13) (hj : j < (m_cl c).2.2) : defaultValue (m_ty c j) = fld ba xa (s_N w (0, c)) c (100 + w_n w) j := by
  have e1 : w_I (s_N w (0, c)) (100 + w_n w) = fun _ => 0 := by simp [w_I, s_N]
  have e2 : w_J (s_N w (0, c)) (100 + w_n w) = fun _ => 0 := by simp [w_J, s_N]
  have e3 : w_R (s_N w (0, c)) (100 + w_n w) = fun _ => none := by simp [w_R, s_N]
  have h := kd_ty c hc j hj
  unfold fld
  rw [e1, e2, e3]
  cases hh : m_ty c j <;> rw [hh] at h <;> first | rfl | (simp [kd] at h; done)
end NEW11
section ROWS11
variable {k pc : Nat} {J : Int → mK} {Q : mW → mO → Prop} {K : mK} {x y z u v : Nat}
set_option maxHeartbeats 4000000 in
theorem co_newarray {t : ArrayType} {n : Int32} {r L : List Value} {w : mW} {ga gb : Nat} (hd : decode (m_c k) pc = .ok (.newarray t, 2)) (hx : x < 5) (ht : newarray.typeOf t = m_el x) (hac : Cond.arrayClass (newarray.typeOf t) ∈ lw_tbl) (hn : ¬ n < 0) (hn6 : n.toNatClampNeg ≤ 65536) (hg1 : 1 ≤ ga) (hg2 : n.toNatClampNeg ≤ gb) (h : RT k (pc + 2) L (.ref (100 + w_n w) :: r) (s_N w (x + 1, n.toNatClampNeg)) (ga - 1, gb - n.toNatClampNeg, true) Q) : RT k pc L (.int n :: r) w (ga, gb, true) Q := by
  intro p l e R s m args below meth c ba D aC xa Qr C H locs cells slots ls hM hS hl h1 h2 h3
  have h1' : cells + ga ≤ R.cells := h1
  have h2' : slots + gb ≤ R.slots := h2
  refine W.sz fun hsz => ?_
  have hz : H.size = ba + w_n w := by have := h3 rfl; have := hM.2.2.2.1; omega
  have hcb : componentBytes (newarray.typeOf t) ≤ 8 := by cases t <;> decide
  refine va_newaK C.1.1 C.1.2.1 (T_at C.1.2.2.2.2.1 hac rfl) rfl hd rfl hn rfl (by have := Nat.mul_le_mul hn6 hcb; omega) (by omega) (by omega) rfl fun H1 cA e1 z1 o1 hAr hNm => ?_
  have hcA : cA = aC x := by
    have hra := (C.2.1.2.2.1.2 x _ (tys_at aC (by omega))).2
    rw [ht] at hNm
    rcases (show x = 0 ∨ x = 1 ∨ x = 2 ∨ x = 3 ∨ x = 4 by omega) with rfl | rfl | rfl | rfl | rfl <;> exact Option.some.inj (hNm.symm.trans hra)
  subst hcA
  rw [ht] at e1
  obtain ⟨X, c1, c2⟩ := cel_Na (ba := ba) (xa := xa) (aC := aC) (w := w) (t := x) (n := n.toNatClampNeg) (by omega)
  obtain ⟨hM1, hS1⟩ := hM.new (z := (x + 1, n.toNatClampNeg)) hz hS z1 o1 (by show x + 1 < 50; omega) (by rw [c1]; show H1[ba + w_n w]? = some (vp_cell _ _); rw [c2, ← hz]; exact e1)
  have := h p l e R s m args below meth c ba D aC xa Qr C H1 locs (cells + 1) (slots + n.toNatClampNeg) ls hM1 hS1 hl (by show _ + (ga - 1) ≤ _; omega) (by show _ + (gb - _) ≤ _; omega) (fun q => by have := h3 q; show ba + (w_n w + 1) = _; omega)
  have e4 : trv ba xa (.ref (100 + w_n w)) = .ref H.size := by show Value.ref (sgm ba xa (100 + w_n w)) = _; rw [sgm, if_neg (by omega), hz, Nat.add_sub_cancel_left]
  rw [List.map_cons, e4] at this
  exact this
set_option maxHeartbeats 4000000 in
theorem so_newarray {t : ArrayType} (hd : decode (m_c k) pc = .ok (.newarray t, 2)) (hx : x < 5) (ht : newarray.typeOf t = m_el x) (hac : Cond.arrayClass (newarray.typeOf t) ∈ lw_tbl) (hK : ∀ L st w g, K L st w g → RT k (pc + 2) L st w g Q) : ∀ L st w g, stW k J Q (pc, .newarray t, x, y, z, u, v) K L st w g → RT k pc L st w g Q := by
  intro L st w g h
  simp only [stW] at h
  split at h
  · rename_i n r
    obtain ⟨hn, hn6, hg1, hg2, h⟩ := h
    obtain ⟨ga, gb, md⟩ := g
    cases md with
    | true => exact co_newarray hd hx ht hac hn hn6 hg1 hg2 (hK _ _ _ _ h)
    | false => exact RT.sync fun q hq => co_newarray hd hx ht hac hn hn6 hg1 hg2 ((hK _ _ _ _ (h q hq)).gas (Nat.le_refl _) (Nat.le_refl _) rfl)
  · exact h.elim
set_option maxHeartbeats 4000000 in
theorem co_anewarray {idx : Nat} {n : Int32} {r L : List Value} {w : mW} {ga gb : Nat} (hd : decode (m_c k) pc = .ok (.anewarray idx, 3)) (hcl : Cond.classLink (m_o k) idx RX2 ∈ lw_tbl) (hn : ¬ n < 0) (hn6 : n.toNatClampNeg ≤ 65536) (hg1 : 1 ≤ ga) (hg2 : n.toNatClampNeg ≤ gb) (h : RT k (pc + 3) L (.ref (100 + w_n w) :: r) (s_N w (6, n.toNatClampNeg)) (ga - 1, gb - n.toNatClampNeg, true) Q) : RT k pc L (.int n :: r) w (ga, gb, true) Q := by
  intro p l e R s m args below meth c ba D aC xa Qr C H locs cells slots ls hM hS hl h1 h2 h3
  have h1' : cells + ga ≤ R.cells := h1
  have h2' : slots + gb ≤ R.slots := h2
  refine W.sz fun hsz => ?_
  have hz : H.size = ba + w_n w := by have := h3 rfl; have := hM.2.2.2.1; omega
  refine W.anew C.1.1 C.1.2.1 C.1.2.2.2.1 (T_at C.1.2.2.2.2.1 hcl rfl) (va_AO.use C.2.1.2.2.2.2.1.2.2.2.2.2.2.2.2.2.1) rfl hd rfl hn (by omega) (by omega) (by omega) fun cA kA comp f1 f2 f3 f4 => ?_
  generalize hH1 : H.push ({ cls := cA, slots := Array.replicate n.toNatClampNeg .null, vm := .none } : Cell) = H1
  have z1 : H1.size = H.size + 1 := by rw [← hH1, Array.size_push]
  have e1 : H1[H.size]? = some (arrV cA n.toNatClampNeg (fun _ => .null)) := by rw [← hH1, Array.getElem?_push_size, ← arrV_new]
  have o1 : ∀ q : Nat, q < H.size → H1[q]? = H[q]? := fun q hq => by rw [← hH1, Array.getElem?_push, if_neg (Nat.ne_of_lt hq)]
  have hcA : cA = aC 5 := by
    obtain ⟨kB, cB, -, -, -, g4⟩ := (C.2.1.2.2.1.2 5 _ (tys_at aC (by omega))).2
    exact Option.some.inj (f1.symm.trans g4)
  subst hcA
  obtain ⟨X, c1, c2⟩ := cel_Na (ba := ba) (xa := xa) (aC := aC) (w := w) (t := 5) (n := n.toNatClampNeg) (by omega)
  obtain ⟨hM1, hS1⟩ := hM.new (z := (6, n.toNatClampNeg)) hz hS z1 o1 (by show 6 < 50; omega) (by rw [c1]; show H1[ba + w_n w]? = some (vp_cell _ _); rw [c2, ← hz]; exact e1)
  have := h p l e R s m args below meth c ba D aC xa Qr C H1 locs (cells + 1) (slots + n.toNatClampNeg) ls hM1 hS1 hl (by show _ + (ga - 1) ≤ _; omega) (by show _ + (gb - _) ≤ _; omega) (fun q => by have := h3 q; show ba + (w_n w + 1) = _; omega)
  have e4 : trv ba xa (.ref (100 + w_n w)) = .ref H.size := by show Value.ref (sgm ba xa (100 + w_n w)) = _; rw [sgm, if_neg (by omega), hz, Nat.add_sub_cancel_left]
  rw [List.map_cons, e4] at this
  exact this
theorem W.anewI {p : Program} {l : Launch} {e : Env} {R : Room} {s : State} {m : MethodId} {args : Array Value} {below : List Frame} {meth : Method} {c : Code} {H : Heap} {locs : List Loc} {cells slots : Nat} {Q : State → Prop} {cc : ByteArray} (hexec : p.tables.exec = Jvm.exec) (hb : c.code = cc) {own : String} {index : Nat} {ty : FieldType} (hown : s.vm.findClass own = some m.cls) (hclink : (Cond.classLink own index (FieldType.array ty).toString).before args s = true) (hover : (Cond.arrayOver (.array ty)).before args s = true)
    {g : JFrame} (hg : g.method = m) (hdg : decode cc g.pc = .ok (.anewarray index, 3)) {n : Int32} {rest : List Value} (hstack : g.stack = .int n :: rest) (hn : ¬ n < 0) (hbytes : n.toNatClampNeg * 4 ≤ 536870912) (hcells : cells + 1 ≤ R.cells) (hslots : slots + n.toNatClampNeg ≤ R.slots)
    (kk : ∀ (cA : ClassId), s.vm.findClass ("[" ++ (FieldType.array ty).toString) = some cA →
      W p l e R s m args below meth c (H.push { cls := cA, slots := Array.replicate n.toNatClampNeg .null, vm := .none }) locs (cells + 1) (slots + n.toNatClampNeg) Q { g with pc := g.pc + 3, stack := .ref H.size :: rest }) : W p l e R s m args below meth c H locs cells slots Q g := by
  intro T hT X
  subst hT; subst hb
  subst hg
  have hpl : e.platform.magicAccessors = ({} : Platform).magicAccessors := by rw [X.admits.platform]
  obtain ⟨comp, cA, kA, hcomp, hidx, hkA, hkindA, hnameA⟩ := AI_spec hover
  obtain ⟨kComp, hkComp, -⟩ := Vm.findClass_spec hcomp
  obtain ⟨cc, hfcc, hcl⟩ := Cond.classLink_spec hown hclink e.platform hpl
  cases hcomp.symm.trans hfcc
  obtain ⟨hg₁, hwarm₁, hready₁⟩ := State.classEntry (e := e) X.warmed hcl
  generalize T.vm.noted g.method.cls index (.cls comp) = vm₁ at hg₁ hwarm₁ hready₁
  have hal : s.vm.Alike vm₁ := hwarm₁.alike
  obtain ⟨kComp₁, hkComp₁, -⟩ := hal.2.2 _ _ hkComp
  obtain ⟨kA₁, hkA₁, heA⟩ := hal.2.2 _ _ hkA
  have hkindA₁ : kA₁.kind = .array comp (.array ty) := by rw [heA]; exact hkindA
  have hidx₁ : (vm₁.classes.findIdx? fun x => match x.kind with | .array component _ => component == comp | _ => false) = some cA := by
    rw [hal.findIdx?_eqK _ (fun _ => rfl)]; exact hidx
  have hlimit : ¬ n.toNatClampNeg > e.platform.arrayLengthLimit := by rw [Launch.admits_arrayLengthLimit X.admits]; omega
  have hheap : ¬ n.toNatClampNeg * componentBytes (.array ty) > e.platform.maxHeapBytes := by
    rw [Launch.admits_maxHeapBytes X.admits]; show ¬ n.toNatClampNeg * 4 > 536870912; omega
  have X₁ := X.noted hwarm₁
  have X₂ := X₁.pushed { cls := cA, slots := Array.replicate n.toNatClampNeg .null, vm := .none }
  obtain ⟨hr1, hr2⟩ := X.roomAbove hcells hslots
  obtain ⟨t, a1, b1⟩ := kk cA hnameA ((T.setVm vm₁).pushCell { cls := cA, slots := Array.replicate n.toNatClampNeg .null, vm := .none }) rfl (by simpa using X₂)
  refine ⟨t, ?_, b1⟩
  jvm_step X.here [hexec, hdg, anewarray.wp_cold (e := e) (s := T) (f := g) X.here.top hg₁ hready₁,
    anewarray.wp_ready (e := e) (s := T.setVm vm₁) (f := g) (kc := kComp₁) (k := kA₁) (type := .array ty) X.here.top hready₁ hkComp₁ hidx₁ hkA₁ hkindA₁ rfl hstack hn hlimit hheap]
  exact ⟨by show T.heap.size < _; omega, by show T.slotsUsed + _ ≤ _; exact hr2, a1⟩
set_option maxHeartbeats 4000000 in
theorem co_anewarrayI {idx : Nat} {n : Int32} {r L : List Value} {w : mW} {ga gb : Nat} (hd : decode (m_c k) pc = .ok (.anewarray idx, 3)) (hcl : Cond.classLink (m_o k) idx "[I" ∈ lw_tbl) (hn : ¬ n < 0) (hn6 : n.toNatClampNeg ≤ 65536) (hg1 : 1 ≤ ga) (hg2 : n.toNatClampNeg ≤ gb) (h : RT k (pc + 3) L (.ref (100 + w_n w) :: r) (s_N w (7, n.toNatClampNeg)) (ga - 1, gb - n.toNatClampNeg, true) Q) : RT k pc L (.int n :: r) w (ga, gb, true) Q := by
  intro p l e R s m args below meth c ba D aC xa Qr C H locs cells slots ls hM hS hl h1 h2 h3
  have h1' : cells + ga ≤ R.cells := h1
  have h2' : slots + gb ≤ R.slots := h2
  refine W.sz fun hsz => ?_
  have hz : H.size = ba + w_n w := by have := h3 rfl; have := hM.2.2.2.1; omega
  refine W.anewI (ty := .int) C.1.1 C.1.2.1 C.1.2.2.2.1 (T_at C.1.2.2.2.2.1 hcl rfl) (C.2.1.2.2.2.2.1.2.2.2.2.2.2.2.2.2.2.1 : va_AI s) rfl hd rfl hn (by omega) (by omega) (by omega) fun cA f1 => ?_
  generalize hH1 : H.push ({ cls := cA, slots := Array.replicate n.toNatClampNeg .null, vm := .none } : Cell) = H1
  have z1 : H1.size = H.size + 1 := by rw [← hH1, Array.size_push]
  have e1 : H1[H.size]? = some (arrV cA n.toNatClampNeg (fun _ => .null)) := by rw [← hH1, Array.getElem?_push_size, ← arrV_new]
  have o1 : ∀ q : Nat, q < H.size → H1[q]? = H[q]? := fun q hq => by rw [← hH1, Array.getElem?_push, if_neg (Nat.ne_of_lt hq)]
  have hcA : cA = aC 6 := Option.some.inj (f1.symm.trans (C.2.1.2.2.1.2 6 _ (tys_at aC (by omega))).2)
  subst hcA
  obtain ⟨X, c1, c2⟩ := cel_Na (ba := ba) (xa := xa) (aC := aC) (w := w) (t := 6) (n := n.toNatClampNeg) (by omega)
  obtain ⟨hM1, hS1⟩ := hM.new (z := (7, n.toNatClampNeg)) hz hS z1 o1 (by show 7 < 50; omega) (by rw [c1]; show H1[ba + w_n w]? = some (vp_cell _ _); rw [c2, ← hz]; exact e1)
  have := h p l e R s m args below meth c ba D aC xa Qr C H1 locs (cells + 1) (slots + n.toNatClampNeg) ls hM1 hS1 hl (by show _ + (ga - 1) ≤ _; omega) (by show _ + (gb - _) ≤ _; omega) (fun q => by have := h3 q; show ba + (w_n w + 1) = _; omega)
  have e4 : trv ba xa (.ref (100 + w_n w)) = .ref H.size := by show Value.ref (sgm ba xa (100 + w_n w)) = _; rw [sgm, if_neg (by omega), hz, Nat.add_sub_cancel_left]
  rw [List.map_cons, e4] at this
  exact this
set_option maxHeartbeats 4000000 in
theorem so_anewarray {idx : Nat} (hd : decode (m_c k) pc = .ok (.anewarray idx, 3)) (hcl : x = 5 ∧ Cond.classLink (m_o k) idx RX2 ∈ lw_tbl ∨ x = 6 ∧ Cond.classLink (m_o k) idx "[I" ∈ lw_tbl) (hK : ∀ L st w g, K L st w g → RT k (pc + 3) L st w g Q) : ∀ L st w g, stW k J Q (pc, .anewarray idx, x, y, z, u, v) K L st w g → RT k pc L st w g Q := by
  intro L st w g h
  simp only [stW] at h
  split at h
  · rename_i n r
    obtain ⟨hn, hn6, hg1, hg2, h⟩ := h
    obtain ⟨ga, gb, md⟩ := g
    rcases hcl with ⟨rfl, hcl⟩ | ⟨rfl, hcl⟩ <;> cases md with
    | true => first | exact co_anewarray hd hcl hn hn6 hg1 hg2 (hK _ _ _ _ h) | exact co_anewarrayI hd hcl hn hn6 hg1 hg2 (hK _ _ _ _ h)
    | false => first | exact RT.sync fun q hq => co_anewarray hd hcl hn hn6 hg1 hg2 ((hK _ _ _ _ (h q hq)).gas (Nat.le_refl _) (Nat.le_refl _) rfl) | exact RT.sync fun q hq => co_anewarrayI hd hcl hn hn6 hg1 hg2 ((hK _ _ _ _ (h q hq)).gas (Nat.le_refl _) (Nat.le_refl _) rfl)
  · exact h.elim
set_option maxHeartbeats 4000000 in
theorem co_new {idx : Nat} {st L : List Value} {w : mW} {ga gb : Nat} (hd : decode (m_c k) pc = .ok (.new idx, 3)) (hx : x < 13) (hcl : Cond.classLink (m_o k) idx (m_cl x).1 ∈ lw_tbl) (hin : Cond.instantiable (m_cl x).1 (m_cl x).2.2 ∈ lw_tbl) (hini : Cond.initialized (m_cl x).1 ∈ lw_tbl) (hg1 : 1 ≤ ga) (hg2 : (m_cl x).2.2 ≤ gb) (h : RT k (pc + 3) L (.ref (100 + w_n w) :: st) (s_N w (0, x)) (ga - 1, gb - (m_cl x).2.2, true) Q) : RT k pc L st w (ga, gb, true) Q := by
  intro p l e R s m args below meth c ba D aC xa Qr C H locs cells slots ls hM hS hl h1 h2 h3
  have h1' : cells + ga ≤ R.cells := h1
  have h2' : slots + gb ≤ R.slots := h2
  refine W.sz fun hsz => ?_
  have hz : H.size = ba + w_n w := by have := h3 rfl; have := hM.2.2.2.1; omega
  have hKn := C.2.1.2.2.1.1 x _ (cl_at hx)
  refine W.newcK C.1.1 C.1.2.1 C.1.2.2.2.1 (T_at C.1.2.2.2.2.1 hcl rfl) (T_at C.1.2.2.2.2.1 hin rfl) (T_at C.1.2.2.2.2.1 hini rfl) rfl hd (by omega) (by omega) hKn.2.1 rfl fun H1 kC hkC e1 z1 o1 => ?_
  have s1 : w_sh (s_N w (0, x)) (100 + w_n w) = (0, x) := by simp [w_sh, s_N]
  have hce : cel ba xa aC (s_N w (0, x)) (100 + w_n w) = .inr (x, flds ba xa (s_N w (0, x)) x (100 + w_n w)) := by rw [cel, s1]; rfl
  have hob := u_born (m_ty x) C.1.2.2.2.2.1 (F_in x hx) hKn hkC e1 (F_ty x hx)
  obtain ⟨hM1, hS1⟩ := hM.new (z := (0, x)) hz hS z1 o1 (by show 0 < 50; omega) (by
    rw [hce]
    refine ⟨_, cl_at hx, ?_⟩
    rw [← hz]
    exact hob.to fun j hj => by rw [fld_N hx hj, vp_V, List.getD_eq_getElem?_getD, flds_at hj]; rfl)
  have := h p l e R s m args below meth c ba D aC xa Qr C H1 locs (cells + 1) (slots + (m_cl x).2.2) ls hM1 hS1 hl (by show _ + (ga - 1) ≤ _; omega) (by show _ + (gb - _) ≤ _; omega) (fun q => by have := h3 q; show ba + (w_n w + 1) = _; omega)
  have e4 : trv ba xa (.ref (100 + w_n w)) = .ref H.size := by show Value.ref (sgm ba xa (100 + w_n w)) = _; rw [sgm, if_neg (by omega), hz, Nat.add_sub_cancel_left]
  rw [List.map_cons, e4] at this
  exact this
set_option maxHeartbeats 4000000 in
theorem so_new {idx : Nat} (hd : decode (m_c k) pc = .ok (.new idx, 3)) (hv : z = 0 ∧ x < 13 ∧ Cond.classLink (m_o k) idx (m_cl x).1 ∈ lw_tbl ∧ Cond.instantiable (m_cl x).1 (m_cl x).2.2 ∈ lw_tbl ∧ Cond.initialized (m_cl x).1 ∈ lw_tbl ∨ z ≠ 0 ∧ thI k pc x) (hK : ∀ L st w g, K L st w g → RT k (pc + 3) L st w g Q) : ∀ L st w g, stW k J Q (pc, .new idx, x, y, z, u, v) K L st w g → RT k pc L st w g Q := by
  intro L st w g h
  rcases hv with ⟨rfl, hx, hcl, hin, hini⟩ | ⟨hz0, hth⟩
  · simp only [stW] at h
    obtain ⟨hg1, hg2, h⟩ := h
    obtain ⟨ga, gb, md⟩ := g
    cases md with
    | true => exact co_new hd hx hcl hin hini hg1 hg2 (hK _ _ _ _ h)
    | false => exact RT.sync fun q hq => co_new hd hx hcl hin hini hg1 hg2 ((hK _ _ _ _ (h q hq)).gas (Nat.le_refl _) (Nat.le_refl _) rfl)
  · have h' : 1 ≤ g.1 ∧ 6 ≤ g.2.1 ∧ v_ct st ≤ 8 ∧ Q w (.inr x) := by
      simp only [stW] at h
      exact h
    obtain ⟨hg1, hg2, hst, hq⟩ := h'
    intro p l e R s m args below meth c ba D aC xa Qr C H locs cells slots ls hM hS hl h1 h2 h3
    exact C.2.2.2.2 w x H locs cells slots pc ls _ hq hM hS (by omega) (by omega) (by rw [C.1.2.2.1]; exact hl.1.1) (cat_4 st hst) hth
set_option maxHeartbeats 4000000 in
theorem so_objInit {idx : Nat} (hd : decode (m_c k) pc = .ok (.invokespecial idx, 3)) (h1 : Cond.methodLink (m_o k) idx objectInit ∈ lw_tbl) (h2 : Cond.instanceMethod objectInit ∈ lw_tbl) (h3 : Cond.code objectInit ⟨#[0xb1]⟩ 1 none ∈ lw_tbl) (hrm : 1 ≤ m_fr k ∧ 20 ≤ m_lo k) (hK : ∀ L st w g, K L st w g → RT k (pc + 3) L st w g Q) : ∀ L st w g, stW k J Q (pc, .invokespecial idx, x, y, 1, u, v) K L st w g → RT k pc L st w g Q := by
  intro L st w g h
  simp only [stW] at h
  split at h
  · rename_i a r
    obtain ⟨hr, h⟩ := h
    intro p l e R s m args below meth c ba D aC xa Qr C H locs cells slots ls hM hS hl g1 g2 g3
    have hfr := C.2.1.1
    have hlo := C.2.1.2.1
    have hroom : 2 * (F0 m pc ls (r.map (trv ba xa))).monitorRoom + ((r.map (trv ba xa)).map fun v => v.category).sum ≤ 8 := lv_room (cat_4 r hr)
    exact W.objInit C.1.1 C.1.2.1 C.1.2.2.2.1 (T_at C.1.2.2.2.2.1 h1 rfl) (T_at C.1.2.2.2.2.1 h2 rfl) (T_at C.1.2.2.2.2.1 h3 rfl) rfl (by rw [C.1.2.2.1]; exact hl.1.1) rfl hd (by omega) (by show 2 * (F0 m pc ls (r.map (trv ba xa))).monitorRoom + _ + 12 ≤ _; omega) (hK _ _ _ _ h p l e R s m args below meth c ba D aC xa Qr C H locs cells slots ls hM hS hl g1 g2 g3)
  · exact h.elim
theorem tk_dr (st : List Value) (y : Nat) {as : List Value} (h : (st.take y).reverse = as) : st = as.reverse ++ st.drop y := by
  rw [← h, List.reverse_reverse, List.take_append_drop]
set_option maxHeartbeats 4000000 in
theorem so_invS {idx : Nat} (hd : decode (m_c k) pc = .ok (.invokestatic idx, 3)) (h1 : c_rm k x = true) (h2 : c_mt x y = true) (hlk : Cond.methodLink (m_o k) idx (m_y x) ∈ lw_tbl) (hsta : Cond.static (m_y x) ∈ lw_tbl) (hu : u = m_gc x ∧ v = m_gs x) (hal : m_al x = false) (hz2 : z ≠ 2) (hz8 : z ≠ 8) (hK : ∀ L st w g, K L st w g → RT k (pc + 3) L st w g Q) : ∀ L st w g, stW k J Q (pc, .invokestatic idx, x, y, z, u, v) K L st w g → RT k pc L st w g Q := by
  intro L st w g h
  obtain ⟨rfl, rfl⟩ := hu
  have h' : y ≤ st.length ∧ v_ct (st.drop y) ≤ 8 ∧ m_gc x ≤ g.1 ∧ m_gs x ≤ g.2.1 ∧ CT x (st.take y).reverse w (fun w' o => match o with
          | .inl a => (g.2.2 = true → w_n w' = w_n w + m_gc x) ∧ K L (a.toList ++ st.drop y) w' (g.1 - m_gc x, g.2.1 - m_gs x, g.2.2)
          | .inr E => match m_hh k with | [] => Q w' (.inr E) | _ => False) := by
    simp only [stW] at h
    first | exact h | split at h
    all_goals first | exact absurd rfl hz2 | exact absurd rfl hz8 | exact h
  obtain ⟨hy, hr, hg1, hg2, hCT⟩ := h'
  intro p l e R s m args below meth c ba D aC xa Qr C H locs cells slots ls hM hS hl g1 g2 g3
  have hst := tk_dr st y (as := (st.take y).reverse) rfl
  rw [hst]
  refine call_S C hM hS hl.1.1 hd h1 h2 (by simp; omega) hlk hsta hr (by omega) (by omega) (fun q => by rw [hal] at q; cases q) hCT (fun w' v H1 locs1 hq hM1 hS1 => ?_) (fun w' E q ce H1 locs1 hq hM1 hS1 hE hce hcv hcl => ?_)
  · obtain ⟨hq1, hq2⟩ := hq
    have := hK _ _ _ _ hq2 p l e R s m args below meth c ba D aC xa Qr C H1 locs1 (cells + m_gc x) (slots + m_gs x) ls hM1 hS1 hl (by show _ + (g.1 - m_gc x) ≤ _; omega) (by show _ + (g.2.1 - m_gs x) ≤ _; omega) (fun q => by rw [hq1 q]; have := g3 q; omega)
    have e1 : (v.toList ++ st.drop y).map (trv ba xa) = (v.map (trv ba xa)).toList ++ (st.drop y).map (trv ba xa) := by cases v <;> simp
    rw [e1] at this
    exact this
  · cases hhk : m_hh k with
    | nil =>
      simp only [hhk] at hq
      exact C.2.2.2.1 w' E q ce H1 locs1 _ _ _ _ _ hq hM1 hS1 (by omega) (by omega) hE hce hcv hcl hhk
    | cons a b => simp only [hhk] at hq
set_option maxHeartbeats 4000000 in
theorem co_invI {idx b ga gb : Nat} {as st L : List Value} {w : mW} {Q' : mW → mO → Prop} (hd : decode (m_c k) pc = .ok (.invokespecial idx, 3)) (h1 : c_rm k x = true) (h2 : c_mt x (y - 1) = true) (hy1 : 1 ≤ y) (hlk : Cond.methodLink (m_o k) idx (m_y x) ∈ lw_tbl ∨ ∃ ho, Cond.methodLinkNest (m_o k) idx (m_y x) ho ∈ lw_tbl) (him : Cond.instanceMethod (m_y x) ∈ lw_tbl) (hnm : (m_y x).name = "<init>") (hrx : m_r x = none) (hhx : m_hh x = [])
    (hst : (st.take y).reverse = .ref b :: as) (hy : y ≤ st.length) (hr : v_ct (st.drop y) ≤ 8) (hg1 : m_gc x ≤ ga) (hg2 : m_gs x ≤ gb) (hCT : CT x (.ref b :: as) w Q') (hQX : ∀ w' E, ¬ Q' w' (.inr E))
    (hk : ∀ (w' : mW) (v : Option Value), Q' w' (.inl v) → ∃ md : Bool, (md = true → w_n w' = w_n w + m_gc x) ∧ RT k (pc + 3) L (v.toList ++ st.drop y) w' (ga - m_gc x, gb - m_gs x, md) Q) : RT k pc L st w (ga, gb, true) Q := by
  intro p l e R s m args below meth c ba D aC xa Qr C H locs cells slots ls hM hS hl g1 g2 g3
  refine W.sz fun hsz => ?_
  have hz : H.size = ba + w_n w := by have := g3 rfl; have := hM.2.2.2.1; omega
  have hlen : as.length = y - 1 := by have := congrArg List.length hst; simp at this; omega
  have hst2 := tk_dr st y hst
  have g1' : cells + ga ≤ R.cells := g1
  have g2' : slots + gb ≤ R.slots := g2
  rw [hst2, List.reverse_cons, List.append_assoc]
  refine call_I C hM hS hl.1.1 hd h1 h2 hlen hlk him hnm hrx hhx hr (by omega) (by omega) (fun _ => hz.symm) hCT hQX (fun w' v H1 locs1 hq hM1 hS1 => ?_)
  obtain ⟨md, hq1, hq2⟩ := hk w' v hq
  have := hq2 p l e R s m args below meth c ba D aC xa Qr C H1 locs1 (cells + m_gc x) (slots + m_gs x) ls hM1 hS1 hl (by show _ + (ga - m_gc x) ≤ _; omega) (by show _ + (gb - m_gs x) ≤ _; omega) (fun q => by rw [hq1 q]; have := g3 rfl; omega)
  have e1 : (v.toList ++ st.drop y).map (trv ba xa) = (v.map (trv ba xa)).toList ++ (st.drop y).map (trv ba xa) := by cases v <;> simp
  rw [e1] at this
  exact this
set_option maxHeartbeats 4000000 in
theorem so_invI {idx : Nat} (hd : decode (m_c k) pc = .ok (.invokespecial idx, 3)) (h1 : c_rm k x = true) (h2 : c_mt x (y - 1) = true) (hy1 : 1 ≤ y) (hlk : Cond.methodLink (m_o k) idx (m_y x) ∈ lw_tbl ∨ ∃ ho, Cond.methodLinkNest (m_o k) idx (m_y x) ho ∈ lw_tbl) (him : Cond.instanceMethod (m_y x) ∈ lw_tbl) (hnm : (m_y x).name = "<init>") (hrx : m_r x = none) (hhx : m_hh x = []) (hu : u = m_gc x ∧ v = m_gs x) (hz1 : z ≠ 1) (hz6 : z ≠ 6) (hz7 : z ≠ 7) (hK : ∀ L st w g, K L st w g → RT k (pc + 3) L st w g Q) : ∀ L st w g, stW k J Q (pc, .invokespecial idx, x, y, z, u, v) K L st w g → RT k pc L st w g Q := by
  intro L st w g h
  obtain ⟨rfl, rfl⟩ := hu
  have h' : match (generalizing := false) (st.take y).reverse with
        | .ref a :: b => y ≤ st.length ∧ v_ct (st.drop y) ≤ 8 ∧ m_gc x ≤ g.1 ∧ m_gs x ≤ g.2.1 ∧ (match g.2.2 with
          | true => CT x (.ref a :: b) w (fun w' o => match o with
            | .inl a => w_n w' = w_n w + m_gc x ∧ K L (a.toList ++ st.drop y) w' (g.1 - m_gc x, g.2.1 - m_gs x, true)
            | .inr _ => False)
          | false => ∀ q, w_n w ≤ q → CT x (.ref a :: b) (s_K w q) (fun w' o => match o with
            | .inl a => K L (a.toList ++ st.drop y) w' (g.1 - m_gc x, g.2.1 - m_gs x, false)
            | .inr _ => False))
        | _ => False := by
    simp only [stW] at h
    first | exact h | split at h
    all_goals first | exact absurd rfl hz1 | exact absurd rfl hz6 | exact absurd rfl hz7 | exact h
  clear h
  revert h'
  intro h
  split at h
  · rename_i b as hst
    obtain ⟨hy, hr, hg1, hg2, h⟩ := h
    obtain ⟨ga, gb, md⟩ := g
    cases md with
    | true => exact co_invI hd h1 h2 hy1 hlk him hnm hrx hhx hst hy hr hg1 hg2 h (fun w' E h => h) (fun w' v hq => ⟨true, fun _ => hq.1, hK _ _ _ _ hq.2⟩)
    | false => exact RT.sync fun q hq => co_invI hd h1 h2 hy1 hlk him hnm hrx hhx hst hy hr hg1 hg2 (h q hq) (fun w' E h => h) (fun w' v hq => ⟨false, fun h => Bool.noConfusion h, hK _ _ _ _ hq⟩)
  · exact h.elim
set_option maxHeartbeats 4000000 in
/-- calls that throw nothing -/
theorem so_invX {yy : Nat} {L st : List Value} {w : mW} {g : mG} (hu : u = m_gc x ∧ v = m_gs x)
    (go : ∀ (Q' : mW → mO → Prop) (p : Program) (l : Launch) (e : Env) (R : Room) (s : State) (m : MethodId) (args : Array Value) (below : List Frame) (meth : Method) (c : Code) (ba : Nat) (D : va_G) (aC xa : Nat → Nat) (Qr : State → Prop), Cx k p l e R s m args below meth c ba D aC xa Q Qr → ∀ (H : Heap) (locs : List Loc) (cells slots : Nat) (ls : Array Slot), Sim ba xa aC D w s H → va_S (aA ba) s.heap H locs → ls.size = m_l k → cells + m_gc x ≤ R.cells → slots + m_gs x ≤ R.slots → CT x (st.take yy).reverse w Q' → (∀ w' E, ¬ Q' w' (.inr E)) →
      (∀ (w' : mW) (v : Option Value) (H1 : Heap) (locs1 : List Loc), Q' w' (.inl v) → Sim ba xa aC D w' s H1 → va_S (aA ba) s.heap H1 locs1 → W p l e R s m args below meth c H1 locs1 (cells + m_gc x) (slots + m_gs x) Qr (F0 m (pc + 3) ls ((v.map (trv ba xa)).toList ++ (st.drop yy).map (trv ba xa)))) → W p l e R s m args below meth c H locs cells slots Qr (F0 m pc ls (st.map (trv ba xa))))
    (hg1 : u ≤ g.1) (hg2 : v ≤ g.2.1) (hCT : CT x (st.take yy).reverse w (fun w' o => match o with
          | .inl a => (g.2.2 = true → w_n w' = w_n w + u) ∧ K L (a.toList ++ st.drop yy) w' (g.1 - u, g.2.1 - v, g.2.2)
          | .inr _ => False)) (hK : ∀ L st w g, K L st w g → RT k (pc + 3) L st w g Q) : RT k pc L st w g Q := by
  obtain ⟨rfl, rfl⟩ := hu
  intro p l e R s m args below meth c ba D aC xa Qr C H locs cells slots ls hM hS hl g1 g2 g3
  refine go _ p l e R s m args below meth c ba D aC xa Qr C H locs cells slots ls hM hS hl.1.1 (by omega) (by omega) hCT (fun w' E h => h) (fun w' v H1 locs1 hq hM1 hS1 => ?_)
  obtain ⟨hq1, hq2⟩ := hq
  have := hK _ _ _ _ hq2 p l e R s m args below meth c ba D aC xa Qr C H1 locs1 (cells + m_gc x) (slots + m_gs x) ls hM1 hS1 hl (by show _ + (g.1 - m_gc x) ≤ _; omega) (by show _ + (g.2.1 - m_gs x) ≤ _; omega) (fun q => by rw [hq1 q]; have := g3 q; omega)
  have e1 : (v.toList ++ st.drop yy).map (trv ba xa) = (v.map (trv ba xa)).toList ++ (st.drop yy).map (trv ba xa) := by cases v <;> simp
  rw [e1] at this
  exact this
set_option maxHeartbeats 4000000 in
/-- a constructor of the library's -/
theorem so_invJ {idx : Nat} (hd : decode (m_c k) pc = .ok (.invokespecial idx, 3)) (h1 : c_rm k x = true) (h2 : c_mt x (y - 1) = true) (hy1 : 1 ≤ y) (hlk : Cond.methodLink (m_o k) idx (m_y x) ∈ lw_tbl) (him : Cond.instanceMethod (m_y x) ∈ lw_tbl) (hnm : (m_y x).name = "<init>") (hrx : m_r x = none) (hhx : m_hh x = []) (hu : u = m_gc x ∧ v = m_gs x) (hal : m_al x = false) (hK : ∀ L st w g, K L st w g → RT k (pc + 3) L st w g Q) : ∀ L st w g, stW k J Q (pc, .invokespecial idx, x, y, 6, u, v) K L st w g → RT k pc L st w g Q := by
  intro L st w g h
  simp only [stW] at h
  split at h
  · rename_i b as hst
    obtain ⟨hy, hr, hg1, hg2, hCT⟩ := h
    have hlen : as.length = y - 1 := by have := congrArg List.length hst; simp at this; omega
    have hst2 := tk_dr st y hst
    rw [← hst] at hCT
    refine so_invX (yy := y) hu (fun Q' p l e R s m args below meth c ba D aC xa Qr C H locs cells slots ls hM hS hls g1 g2 hC hQX kk => ?_) hg1 hg2 hCT hK
    rw [hst] at hC
    have e9 : st.map (trv ba xa) = (as.reverse ++ .ref b :: st.drop y).map (trv ba xa) := by have e := hst2; rw [List.reverse_cons, List.append_assoc] at e; exact congrArg (List.map (trv ba xa)) e
    rw [e9]
    exact call_I C hM hS hls hd h1 h2 hlen (Or.inl hlk) him hnm hrx hhx hr g1 g2 (fun q => by rw [hal] at q; cases q) hC hQX kk
  · exact h.elim
set_option maxHeartbeats 4000000 in
theorem so_invN {idx : Nat} (hd : decode (m_c k) pc = .ok (.invokestatic idx, 3)) (h1 : c_rm k x = true) (h2 : c_mt x y = true) (hlk : ∃ ho, Cond.methodLinkNest (m_o k) idx (m_y x) ho ∈ lw_tbl) (hsta : Cond.static (m_y x) ∈ lw_tbl) (hhx : m_hh x = []) (hu : u = m_gc x ∧ v = m_gs x) (hal : m_al x = false) (hK : ∀ L st w g, K L st w g → RT k (pc + 3) L st w g Q) : ∀ L st w g, stW k J Q (pc, .invokestatic idx, x, y, 8, u, v) K L st w g → RT k pc L st w g Q := by
  intro L st w g h
  simp only [stW] at h
  obtain ⟨hy, hr, hg1, hg2, hCT⟩ := h
  refine so_invX (yy := y) hu (fun Q' p l e R s m args below meth c ba D aC xa Qr C H locs cells slots ls hM hS hls g1 g2 hC hQX kk => ?_) hg1 hg2 hCT hK
  have e9 : st.map (trv ba xa) = ((st.take y).reverse.reverse ++ st.drop y).map (trv ba xa) := congrArg (List.map (trv ba xa)) (tk_dr st y (as := (st.take y).reverse) rfl)
  rw [e9]
  exact call_N C hM hS hls hd h1 h2 (by simp; omega) hlk hsta hhx hr g1 g2 (fun q => by rw [hal] at q; cases q) hC hQX kk
set_option maxHeartbeats 4000000 in
/-- StringBuilder's methods that stand in the class above -/
theorem so_invU {idx : Nat} {xn : MethodName} (hz : z = 7 ∨ z = 8 ∨ z = 9) (hd : decode (m_c k) pc = .ok (.invokevirtual idx, 3)) (h1 : c_rm k x = true) (h2 : c_mt x (y - 1) = true) (hy1 : 1 ≤ y) (hlk : Cond.methodLink (m_o k) idx xn ∈ lw_tbl) (him : Cond.instanceMethod (m_y x) ∈ lw_tbl) (hxn : xn.cls = RJ5)
    (hse : ∀ (args : Array Value) (s : State), (∀ w ∈ lw_T, w.before args s = true) → (Cond.selects RJ4 xn (m_y x)).before args s = true) (hsm : Cond.sameMethod RJ5 RJ5 xn.name xn.desc ∈ lw_tbl) (hdc : Cond.instanceMethod xn ∈ lw_tbl ∧ ∃ b m r, Cond.code xn b m r ∈ lw_tbl) (hnp : (parseMethodDescriptor xn.desc).map (fun d => d.parameters.length) = some (y - 1)) (hhx : m_hh x = []) (hu : u = m_gc x ∧ v = m_gs x) (hal : m_al x = false) (hK : ∀ L st w g, K L st w g → RT k (pc + 3) L st w g Q) : ∀ L st w g, stW k J Q (pc, .invokevirtual idx, x, y, z, u, v) K L st w g → RT k pc L st w g Q := by
  intro L st w g h
  have h' : match (generalizing := false) (st.take y).reverse with
        | .ref a :: b => w_sh w a = (0, 12) ∧ y ≤ st.length ∧ v_ct (st.drop y) ≤ 8 ∧ u ≤ g.1 ∧ v ≤ g.2.1 ∧ CT x (.ref a :: b) w (fun w' o => match o with
          | .inl a => (g.2.2 = true → w_n w' = w_n w + u) ∧ K L (a.toList ++ st.drop y) w' (g.1 - u, g.2.1 - v, g.2.2)
          | .inr _ => False)
        | _ => False := by
    rcases hz with rfl | rfl | rfl <;> exact h
  clear h
  split at h'
  · rename_i b as hst
    obtain ⟨hsh, hy, hr, hg1, hg2, hCT⟩ := h'
    have hlen : as.length = y - 1 := by have := congrArg List.length hst; simp at this; omega
    have hst2 := tk_dr st y hst
    rw [← hst] at hCT
    refine so_invX (yy := y) hu (fun Q' p l e R s m args below meth c ba D aC xa Qr C H locs cells slots ls hM hS hls g1 g2 hC hQX kk => ?_) hg1 hg2 hCT hK
    rw [hst] at hC
    have e9 : st.map (trv ba xa) = (as.reverse ++ .ref b :: st.drop y).map (trv ba xa) := by have e := hst2; rw [List.reverse_cons, List.append_assoc] at e; exact congrArg (List.map (trv ba xa)) e
    rw [e9]
    obtain ⟨him2, bb, mm, rr, hcode⟩ := hdc
    have hts := C.1.2.2.2.2.1
    have hxe : (⟨RJ5, xn.name, xn.desc⟩ : MethodName) = xn := by rw [← hxn]
    exact call_U (Cn := RJ4) (ow := RJ5) (xn := xn) C hM hS hls hd h1 h2 hlen hlk him (hse _ _ hts) (by rw [hxn]; exact hsm) (by rw [hxe]; exact va_Decl.of (T_at hts him2 rfl) (T_at hts hcode rfl)) ⟨by decide, by decide⟩ hnp hhx (recv_at (ci := 12) hM C.2.1.2.2.1 hsh (cl_at (by omega))) hr g1 g2 (fun q => by rw [hal] at q; cases q) hC hQX kk
  · exact h'.elim
set_option maxHeartbeats 4000000 in
/-- super.m(..) in StringBuilder -/
theorem so_invP {idx : Nat} (hd : decode (m_c k) pc = .ok (.invokespecial idx, 3)) (h1 : c_rm k x = true) (h2 : c_mt x (y - 1) = true) (hy1 : 1 ≤ y) (hlk : Cond.methodLink (m_o k) idx (m_y x) ∈ lw_tbl) (him : Cond.instanceMethod (m_y x) ∈ lw_tbl) (hsm : Cond.sameMethod (m_y x).cls (m_y x).cls (m_y x).name (m_y x).desc ∈ lw_tbl) (hsu : Cond.superclass (m_o k) (m_y x).cls ∈ lw_tbl) (hni : (m_y x).name ≠ "<init>") (hhx : m_hh x = []) (hu : u = m_gc x ∧ v = m_gs x) (hal : m_al x = false) (hK : ∀ L st w g, K L st w g → RT k (pc + 3) L st w g Q) : ∀ L st w g, stW k J Q (pc, .invokespecial idx, x, y, 7, u, v) K L st w g → RT k pc L st w g Q := by
  intro L st w g h
  simp only [stW] at h
  split at h
  · rename_i b as hst
    obtain ⟨hsh, hy, hr, hg1, hg2, hCT⟩ := h
    have hlen : as.length = y - 1 := by have := congrArg List.length hst; simp at this; omega
    have hst2 := tk_dr st y hst
    rw [← hst] at hCT
    refine so_invX (yy := y) hu (fun Q' p l e R s m args below meth c ba D aC xa Qr C H locs cells slots ls hM hS hls g1 g2 hC hQX kk => ?_) hg1 hg2 hCT hK
    rw [hst] at hC
    have e9 : st.map (trv ba xa) = (as.reverse ++ .ref b :: st.drop y).map (trv ba xa) := by have e := hst2; rw [List.reverse_cons, List.append_assoc] at e; exact congrArg (List.map (trv ba xa)) e
    rw [e9]
    exact call_P (hat := (C.2.1.2.2.1.1 12 _ (cl_at (by omega))).2) C hM hS hls hd h1 h2 hlen hlk him hsm hsu hni hhx (recv_at (ci := 12) hM C.2.1.2.2.1 hsh (cl_at (by omega))) hr g1 g2 (fun q => by rw [hal] at q; cases q) hC hQX kk
  · exact h.elim
end ROWS11
