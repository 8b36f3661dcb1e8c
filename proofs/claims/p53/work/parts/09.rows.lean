/-- a text by a wide index -/
theorem ldcwS_st {p : Program} {l : Launch} {e : Env} {R : Room} {s : State} {m : MethodId} {args : Array Value} {below : List Frame} {meth : Method} {c : Code} {T : State} {locs : List Loc} {cells slots : Nat}
    (X : Stand p l e R s m args below meth c T locs cells slots) (hexec : p.tables.exec = Jvm.exec) {own text : String} {index : Nat} {a : Addr} (hown : s.vm.findClass own = some m.cls)
    (hconst : (Cond.stringRef own index text).before args s = true) (hev : (Term.string own index).eval args s none [] s = some (.ref a)) {g : JFrame} (hg : g.method = m) (hdg : decode c.code g.pc = .ok (.ldc_w index, 3)) :
    ∀ target, Steps p.tables e below (T.setTop { g with pc := g.pc + 3, stack := .ref a :: g.stack }) target → Steps p.tables e below (T.setTop g) target := by
  obtain ⟨k, cf, i, a', hk, hcf, hcp, -, hr, hev'⟩ := Cond.stringRef_spec hown hconst
  cases hev.symm.trans hev'
  obtain ⟨k', hk', he⟩ := X.warmed.alike.2.2 _ _ hk
  have hr' : k'.resolved[index]? = some (some (.string a)) := by
    rcases X.warmed.entry hk hk' index with h | ⟨h, -⟩
    · rw [h]; exact hr
    · rw [hr] at h; cases h
  intro target hrest
  subst hg
  jvm_step X.here [hexec, hdg, ldc_w.wp_string (e := e) (s := T) (f := g) X.here.top hk' (by rw [he]; exact hcf) hcp hr']
  exact hrest
theorem va_ldcwS {p : Program} {l : Launch} {e : Env} {R : Room} {s : State} {m : MethodId} {args : Array Value} {below : List Frame} {meth : Method} {c : Code} {H : Heap} {locs : List Loc} {cells slots : Nat} {Q : State → Prop} {cc : ByteArray} {pc : Nat} {ls : Array Slot} {rest : List Value}
    (hexec : p.tables.exec = Jvm.exec) (hb : c.code = cc) {own tx : String} {index q : Nat} (hown : s.vm.findClass own = some m.cls) (hZ : vk_R own index tx q s) (hdg : decode cc pc = .ok (.ldc_w index, 3))
    (k : W p l e R s m args below meth c H locs cells slots Q (F0 m (pc + 3) ls (.ref q :: rest))) : W p l e R s m args below meth c H locs cells slots Q (F0 m pc ls rest) := by
  intro T hT X
  obtain ⟨t, a1, b1⟩ := k T hT X
  exact ⟨t, ldcwS_st X hexec hown (text := tx) (a := q) hZ.1 hZ.2 (g := F0 m pc ls rest) rfl (by rw [hb]; exact hdg) t a1, b1⟩
theorem c1_cat {a : Value} (h : v_c2 a = false) : a.category = 1 := by cases a <;> simp [v_c2] at h <;> rfl
/-! an instruction's asking is enough -/
section ROWS9
variable {k pc : Nat} {J : Int → mK} {Q : mW → mO → Prop} {K : mK} {x y z u v : Nat}
set_option maxHeartbeats 4000000 in
theorem so_iload {n : Nat} (hd : decode (m_c k) pc = .ok (.iload n, 2)) (hK : ∀ L st w g, K L st w g → RT k (pc + 2) L st w g Q) : ∀ L st w g, stW k J Q (pc, .iload n, x, y, z, u, v) K L st w g → RT k pc L st w g Q := by
  intro L st w g h
  simp only [stW] at h
  split at h
  · rename_i a ha
    intro p l e R s m args below meth c ba D aC xa Qr C H locs cells slots ls hM hS hl h1 h2 h3
    exact lv_iload C.1.1 C.1.2.1 hd (hl.at ha (by simp)) (hK _ _ _ _ h p l e R s m args below meth c ba D aC xa Qr C H locs cells slots ls hM hS hl h1 h2 h3)
  · exact h.elim
set_option maxHeartbeats 4000000 in
theorem so_iload_n {n : Fin 4} (hd : decode (m_c k) pc = .ok (.iload_n n, 1)) (hK : ∀ L st w g, K L st w g → RT k (pc + 1) L st w g Q) : ∀ L st w g, stW k J Q (pc, .iload_n n, x, y, z, u, v) K L st w g → RT k pc L st w g Q := by
  intro L st w g h
  simp only [stW] at h
  split at h
  · rename_i a ha
    intro p l e R s m args below meth c ba D aC xa Qr C H locs cells slots ls hM hS hl h1 h2 h3
    exact lv_iload_n C.1.1 C.1.2.1 hd rfl (hl.at ha (by simp)) (hK _ _ _ _ h p l e R s m args below meth c ba D aC xa Qr C H locs cells slots ls hM hS hl h1 h2 h3)
  · exact h.elim
set_option maxHeartbeats 4000000 in
theorem so_aload {n : Nat} (hd : decode (m_c k) pc = .ok (.aload n, 2)) (hK : ∀ L st w g, K L st w g → RT k (pc + 2) L st w g Q) : ∀ L st w g, stW k J Q (pc, .aload n, x, y, z, u, v) K L st w g → RT k pc L st w g Q := by
  intro L st w g h
  simp only [stW] at h
  split at h
  · rename_i a ha
    intro p l e R s m args below meth c ba D aC xa Qr C H locs cells slots ls hM hS hl h1 h2 h3
    exact lv_aload C.1.1 C.1.2.1 hd (hl.at ha (by simp)) (hK _ _ _ _ h p l e R s m args below meth c ba D aC xa Qr C H locs cells slots ls hM hS hl h1 h2 h3)
  · exact h.elim
set_option maxHeartbeats 4000000 in
theorem so_aload_n {n : Fin 4} (hd : decode (m_c k) pc = .ok (.aload_n n, 1)) (hK : ∀ L st w g, K L st w g → RT k (pc + 1) L st w g Q) : ∀ L st w g, stW k J Q (pc, .aload_n n, x, y, z, u, v) K L st w g → RT k pc L st w g Q := by
  intro L st w g h
  simp only [stW] at h
  split at h
  · rename_i a ha
    intro p l e R s m args below meth c ba D aC xa Qr C H locs cells slots ls hM hS hl h1 h2 h3
    exact lv_aload_n C.1.1 C.1.2.1 hd rfl (hl.at ha (by simp)) (hK _ _ _ _ h p l e R s m args below meth c ba D aC xa Qr C H locs cells slots ls hM hS hl h1 h2 h3)
  · exact h.elim
set_option maxHeartbeats 4000000 in
theorem so_lload {n : Nat} (hd : decode (m_c k) pc = .ok (.lload n, 2)) (hK : ∀ L st w g, K L st w g → RT k (pc + 2) L st w g Q) : ∀ L st w g, stW k J Q (pc, .lload n, x, y, z, u, v) K L st w g → RT k pc L st w g Q := by
  intro L st w g h
  simp only [stW] at h
  split at h
  · rename_i a ha
    intro p l e R s m args below meth c ba D aC xa Qr C H locs cells slots ls hM hS hl h1 h2 h3
    exact lv_lload C.1.1 C.1.2.1 hd (hl.at ha (by simp)) (hK _ _ _ _ h p l e R s m args below meth c ba D aC xa Qr C H locs cells slots ls hM hS hl h1 h2 h3)
  · exact h.elim
set_option maxHeartbeats 4000000 in
theorem so_lload_n {n : Fin 4} (hd : decode (m_c k) pc = .ok (.lload_n n, 1)) (hK : ∀ L st w g, K L st w g → RT k (pc + 1) L st w g Q) : ∀ L st w g, stW k J Q (pc, .lload_n n, x, y, z, u, v) K L st w g → RT k pc L st w g Q := by
  intro L st w g h
  simp only [stW] at h
  split at h
  · rename_i a ha
    intro p l e R s m args below meth c ba D aC xa Qr C H locs cells slots ls hM hS hl h1 h2 h3
    exact lv_lload_n C.1.1 C.1.2.1 hd rfl (hl.at ha (by simp)) (hK _ _ _ _ h p l e R s m args below meth c ba D aC xa Qr C H locs cells slots ls hM hS hl h1 h2 h3)
  · exact h.elim
set_option maxHeartbeats 4000000 in
theorem so_dload {n : Nat} (hd : decode (m_c k) pc = .ok (.dload n, 2)) (hK : ∀ L st w g, K L st w g → RT k (pc + 2) L st w g Q) : ∀ L st w g, stW k J Q (pc, .dload n, x, y, z, u, v) K L st w g → RT k pc L st w g Q := by
  intro L st w g h
  simp only [stW] at h
  split at h
  · rename_i a ha
    intro p l e R s m args below meth c ba D aC xa Qr C H locs cells slots ls hM hS hl h1 h2 h3
    exact lv_dload C.1.1 C.1.2.1 hd (hl.at ha (by simp)) (hK _ _ _ _ h p l e R s m args below meth c ba D aC xa Qr C H locs cells slots ls hM hS hl h1 h2 h3)
  · exact h.elim
set_option maxHeartbeats 4000000 in
theorem so_istore {n : Nat} (hd : decode (m_c k) pc = .ok (.istore n, 2)) (hK : ∀ L st w g, K L st w g → RT k (pc + 2) L st w g Q) : ∀ L st w g, stW k J Q (pc, .istore n, x, y, z, u, v) K L st w g → RT k pc L st w g Q := by
  intro L st w g h
  simp only [stW] at h
  split at h
  · rename_i a r
    intro p l e R s m args below meth c ba D aC xa Qr C H locs cells slots ls hM hS hl h1 h2 h3
    exact lv_istore C.1.1 C.1.2.1 hd hl.1 (by have := h.1; have := hl.2; omega) rfl (fun ls' hl' => hK _ _ _ _ h.2 p l e R s m args below meth c ba D aC xa Qr C H locs cells slots ls' hM hS (hl.put hl') h1 h2 h3)
  · exact h.elim
set_option maxHeartbeats 4000000 in
theorem so_istore_n {n : Fin 4} (hd : decode (m_c k) pc = .ok (.istore_n n, 1)) (hK : ∀ L st w g, K L st w g → RT k (pc + 1) L st w g Q) : ∀ L st w g, stW k J Q (pc, .istore_n n, x, y, z, u, v) K L st w g → RT k pc L st w g Q := by
  intro L st w g h
  simp only [stW] at h
  split at h
  · rename_i a r
    intro p l e R s m args below meth c ba D aC xa Qr C H locs cells slots ls hM hS hl h1 h2 h3
    exact lv_istore_n C.1.1 C.1.2.1 hd rfl hl.1 (by have := h.1; have := hl.2; omega) rfl (fun ls' hl' => hK _ _ _ _ h.2 p l e R s m args below meth c ba D aC xa Qr C H locs cells slots ls' hM hS (hl.put hl') h1 h2 h3)
  · exact h.elim
set_option maxHeartbeats 4000000 in
theorem so_astore {n : Nat} (hd : decode (m_c k) pc = .ok (.astore n, 2)) (hK : ∀ L st w g, K L st w g → RT k (pc + 2) L st w g Q) : ∀ L st w g, stW k J Q (pc, .astore n, x, y, z, u, v) K L st w g → RT k pc L st w g Q := by
  intro L st w g h
  simp only [stW] at h
  split at h
  · rename_i a r
    intro p l e R s m args below meth c ba D aC xa Qr C H locs cells slots ls hM hS hl h1 h2 h3
    exact lv_astore C.1.1 C.1.2.1 hd hl.1 (by have := h.1; have := hl.2; omega) rfl (fun ls' hl' => hK _ _ _ _ h.2 p l e R s m args below meth c ba D aC xa Qr C H locs cells slots ls' hM hS (hl.put hl') h1 h2 h3)
  · exact h.elim
set_option maxHeartbeats 4000000 in
theorem so_astore_n {n : Fin 4} (hd : decode (m_c k) pc = .ok (.astore_n n, 1)) (hK : ∀ L st w g, K L st w g → RT k (pc + 1) L st w g Q) : ∀ L st w g, stW k J Q (pc, .astore_n n, x, y, z, u, v) K L st w g → RT k pc L st w g Q := by
  intro L st w g h
  simp only [stW] at h
  split at h
  · rename_i a r
    intro p l e R s m args below meth c ba D aC xa Qr C H locs cells slots ls hM hS hl h1 h2 h3
    exact lv_astore_n C.1.1 C.1.2.1 hd rfl hl.1 (by have := h.1; have := hl.2; omega) rfl (fun ls' hl' => hK _ _ _ _ h.2 p l e R s m args below meth c ba D aC xa Qr C H locs cells slots ls' hM hS (hl.put hl') h1 h2 h3)
  · exact h.elim
set_option maxHeartbeats 4000000 in
theorem so_lstore {n : Nat} (hd : decode (m_c k) pc = .ok (.lstore n, 2)) (hK : ∀ L st w g, K L st w g → RT k (pc + 2) L st w g Q) : ∀ L st w g, stW k J Q (pc, .lstore n, x, y, z, u, v) K L st w g → RT k pc L st w g Q := by
  intro L st w g h
  simp only [stW] at h
  split at h
  · rename_i a r
    intro p l e R s m args below meth c ba D aC xa Qr C H locs cells slots ls hM hS hl h1 h2 h3
    exact lv_lstore C.1.1 C.1.2.1 hd hl.1 (by have := h.1; have := hl.2; omega) rfl (fun ls' hl' => hK _ _ _ _ h.2 p l e R s m args below meth c ba D aC xa Qr C H locs cells slots ls' hM hS (hl.putw hl') h1 h2 h3)
  · exact h.elim
set_option maxHeartbeats 4000000 in
theorem so_lstore_n {n : Fin 4} (hd : decode (m_c k) pc = .ok (.lstore_n n, 1)) (hK : ∀ L st w g, K L st w g → RT k (pc + 1) L st w g Q) : ∀ L st w g, stW k J Q (pc, .lstore_n n, x, y, z, u, v) K L st w g → RT k pc L st w g Q := by
  intro L st w g h
  simp only [stW] at h
  split at h
  · rename_i a r
    intro p l e R s m args below meth c ba D aC xa Qr C H locs cells slots ls hM hS hl h1 h2 h3
    exact lv_lstore_n C.1.1 C.1.2.1 hd rfl hl.1 (by have := h.1; have := hl.2; omega) rfl (fun ls' hl' => hK _ _ _ _ h.2 p l e R s m args below meth c ba D aC xa Qr C H locs cells slots ls' hM hS (hl.putw hl') h1 h2 h3)
  · exact h.elim
set_option maxHeartbeats 4000000 in
theorem so_dstore {n : Nat} (hd : decode (m_c k) pc = .ok (.dstore n, 2)) (hK : ∀ L st w g, K L st w g → RT k (pc + 2) L st w g Q) : ∀ L st w g, stW k J Q (pc, .dstore n, x, y, z, u, v) K L st w g → RT k pc L st w g Q := by
  intro L st w g h
  simp only [stW] at h
  split at h
  · rename_i a r
    intro p l e R s m args below meth c ba D aC xa Qr C H locs cells slots ls hM hS hl h1 h2 h3
    exact lv_dstore C.1.1 C.1.2.1 hd hl.1 (by have := h.1; have := hl.2; omega) rfl (fun ls' hl' => hK _ _ _ _ h.2 p l e R s m args below meth c ba D aC xa Qr C H locs cells slots ls' hM hS (hl.putw hl') h1 h2 h3)
  · exact h.elim
set_option maxHeartbeats 4000000 in
theorem so_iinc {n : Nat} {d : Int} (hd : decode (m_c k) pc = .ok (.iinc n d, 3)) (hK : ∀ L st w g, K L st w g → RT k (pc + 3) L st w g Q) : ∀ L st w g, stW k J Q (pc, .iinc n d, x, y, z, u, v) K L st w g → RT k pc L st w g Q := by
  intro L st w g h
  simp only [stW] at h
  split at h
  · rename_i a ha
    intro p l e R s m args below meth c ba D aC xa Qr C H locs cells slots ls hM hS hl h1 h2 h3
    have ha' := hl.at ha (by simp)
    obtain ⟨j, hj⟩ := List.getElem?_of_mem (List.mem_map.mpr ⟨(n, Value.int a), (asc_mem L 0 n _).mpr ⟨n, by omega, lgt_get L n _ ha (by simp), by simp⟩, rfl⟩ : (n, Value.int a) ∈ (asc 0 L).map fun q => (q.1, trv ba xa q.2))
    exact lv_iinc C.1.1 C.1.2.1 hd hl.1 hj rfl (by have := h.1; have := hl.2; omega) rfl (fun ls' hl' => hK _ _ _ _ h.2 p l e R s m args below meth c ba D aC xa Qr C H locs cells slots ls' hM hS (hl.put hl') h1 h2 h3)
  · exact h.elim
set_option maxHeartbeats 4000000 in
theorem so_iconst {d : Int} (hd : decode (m_c k) pc = .ok (.iconst d, 1)) (hK : ∀ L st w g, K L st w g → RT k (pc + 1) L st w g Q) : ∀ L st w g, stW k J Q (pc, .iconst d, x, y, z, u, v) K L st w g → RT k pc L st w g Q := by
  intro L st w g h
  simp only [stW] at h
  intro p l e R s m args below meth c ba D aC xa Qr C H locs cells slots ls hM hS hl h1 h2 h3
  exact lv_iconst C.1.1 C.1.2.1 hd rfl (hK _ _ _ _ h p l e R s m args below meth c ba D aC xa Qr C H locs cells slots ls hM hS hl h1 h2 h3)
set_option maxHeartbeats 4000000 in
theorem so_bipush {d : Int} (hd : decode (m_c k) pc = .ok (.bipush d, 2)) (hv : (Int8.ofInt d).toInt32 = Int32.ofInt d) (hK : ∀ L st w g, K L st w g → RT k (pc + 2) L st w g Q) : ∀ L st w g, stW k J Q (pc, .bipush d, x, y, z, u, v) K L st w g → RT k pc L st w g Q := by
  intro L st w g h
  simp only [stW] at h
  intro p l e R s m args below meth c ba D aC xa Qr C H locs cells slots ls hM hS hl h1 h2 h3
  exact lv_bipush C.1.1 C.1.2.1 hd hv (hK _ _ _ _ h p l e R s m args below meth c ba D aC xa Qr C H locs cells slots ls hM hS hl h1 h2 h3)
set_option maxHeartbeats 4000000 in
theorem so_sipush {d : Int} (hd : decode (m_c k) pc = .ok (.sipush d, 3)) (hv : (Int16.ofInt d).toInt32 = Int32.ofInt d) (hK : ∀ L st w g, K L st w g → RT k (pc + 3) L st w g Q) : ∀ L st w g, stW k J Q (pc, .sipush d, x, y, z, u, v) K L st w g → RT k pc L st w g Q := by
  intro L st w g h
  simp only [stW] at h
  intro p l e R s m args below meth c ba D aC xa Qr C H locs cells slots ls hM hS hl h1 h2 h3
  exact lv_sipush C.1.1 C.1.2.1 hd hv (hK _ _ _ _ h p l e R s m args below meth c ba D aC xa Qr C H locs cells slots ls hM hS hl h1 h2 h3)
set_option maxHeartbeats 4000000 in
theorem so_lconst {d : Fin 2} (hd : decode (m_c k) pc = .ok (.lconst d, 1)) (hK : ∀ L st w g, K L st w g → RT k (pc + 1) L st w g Q) : ∀ L st w g, stW k J Q (pc, .lconst d, x, y, z, u, v) K L st w g → RT k pc L st w g Q := by
  intro L st w g h
  simp only [stW] at h
  intro p l e R s m args below meth c ba D aC xa Qr C H locs cells slots ls hM hS hl h1 h2 h3
  exact lv_lconst C.1.1 C.1.2.1 hd rfl (hK _ _ _ _ h p l e R s m args below meth c ba D aC xa Qr C H locs cells slots ls hM hS hl h1 h2 h3)
set_option maxHeartbeats 4000000 in
theorem so_fconst {d : Fin 3} (hd : decode (m_c k) pc = .ok (.fconst d, 1)) (hv : d = 1) (hK : ∀ L st w g, K L st w g → RT k (pc + 1) L st w g Q) : ∀ L st w g, stW k J Q (pc, .fconst d, x, y, z, u, v) K L st w g → RT k pc L st w g Q := by
  intro L st w g h
  simp only [stW] at h
  subst hv
  intro p l e R s m args below meth c ba D aC xa Qr C H locs cells slots ls hM hS hl h1 h2 h3
  exact lv_fconst1 C.1.1 C.1.2.1 hd (hK _ _ _ _ h p l e R s m args below meth c ba D aC xa Qr C H locs cells slots ls hM hS hl h1 h2 h3)
set_option maxHeartbeats 4000000 in
theorem so_ldc {d : Nat} (hd : decode (m_c k) pc = .ok (.ldc d, 2)) (hv : y = 0 ∧ Cond.constant (m_o k) d (Int32.ofNat z) ∈ lw_tbl ∨ y ≠ 0 ∧ 2 ≤ x ∧ ∃ tx, m_str[x - 2]? = some (m_o k, d, tx)) (hK : ∀ L st w g, K L st w g → RT k (pc + 2) L st w g Q) : ∀ L st w g, stW k J Q (pc, .ldc d, x, y, z, u, v) K L st w g → RT k pc L st w g Q := by
  intro L st w g h
  simp only [stW] at h
  rcases hv with ⟨rfl, hc⟩ | ⟨hy, hx2, tx, hs⟩
  · intro p l e R s m args below meth c ba D aC xa Qr C H locs cells slots ls hM hS hl h1 h2 h3
    exact lv_ldc C.1.1 C.1.2.1 C.1.2.2.2.1 (T_at C.1.2.2.2.2.1 hc rfl) hd (hK _ _ _ _ h p l e R s m args below meth c ba D aC xa Qr C H locs cells slots ls hM hS hl h1 h2 h3)
  · split at h
    · exact absurd rfl hy
    · intro p l e R s m args below meth c ba D aC xa Qr C H locs cells slots ls hM hS hl h1 h2 h3
      have hz := C.2.1.2.2.2.2.1.2.2.1 (x - 2) _ hs
      rw [show 2 + (x - 2) = x by omega] at hz
      have hxx : x < 18 := by have := (List.getElem?_eq_some_iff.mp hs).1; have e : m_str.length = 16 := rfl; omega
      have e1 : trv ba xa (.ref x) = .ref (xa x) := by simp [trv, sgm, show x < 100 by omega]
      have := hK _ _ _ _ h p l e R s m args below meth c ba D aC xa Qr C H locs cells slots ls hM hS hl h1 h2 h3
      rw [List.map_cons, e1] at this
      exact va_ldcS C.1.1 C.1.2.1 C.1.2.2.2.1 hz hd this
set_option maxHeartbeats 4000000 in
theorem so_ldc_w {d : Nat} (hd : decode (m_c k) pc = .ok (.ldc_w d, 3)) (hv : y = 0 ∧ Cond.constant (m_o k) d (Int32.ofNat z) ∈ lw_tbl ∨ y ≠ 0 ∧ 2 ≤ x ∧ ∃ tx, m_str[x - 2]? = some (m_o k, d, tx)) (hK : ∀ L st w g, K L st w g → RT k (pc + 3) L st w g Q) : ∀ L st w g, stW k J Q (pc, .ldc_w d, x, y, z, u, v) K L st w g → RT k pc L st w g Q := by
  intro L st w g h
  simp only [stW] at h
  rcases hv with ⟨rfl, hc⟩ | ⟨hy, hx2, tx, hs⟩
  · intro p l e R s m args below meth c ba D aC xa Qr C H locs cells slots ls hM hS hl h1 h2 h3
    exact lv_ldcw C.1.1 C.1.2.1 C.1.2.2.2.1 (T_at C.1.2.2.2.2.1 hc rfl) hd (hK _ _ _ _ h p l e R s m args below meth c ba D aC xa Qr C H locs cells slots ls hM hS hl h1 h2 h3)
  · split at h
    · exact absurd rfl hy
    · intro p l e R s m args below meth c ba D aC xa Qr C H locs cells slots ls hM hS hl h1 h2 h3
      have hz := C.2.1.2.2.2.2.1.2.2.1 (x - 2) _ hs
      rw [show 2 + (x - 2) = x by omega] at hz
      have hxx : x < 18 := by have := (List.getElem?_eq_some_iff.mp hs).1; have e : m_str.length = 16 := rfl; omega
      have e1 : trv ba xa (.ref x) = .ref (xa x) := by simp [trv, sgm, show x < 100 by omega]
      have := hK _ _ _ _ h p l e R s m args below meth c ba D aC xa Qr C H locs cells slots ls hM hS hl h1 h2 h3
      rw [List.map_cons, e1] at this
      exact va_ldcwS C.1.1 C.1.2.1 C.1.2.2.2.1 hz hd this
set_option maxHeartbeats 4000000 in
theorem so_ldc2_w {d : Nat} (hd : decode (m_c k) pc = .ok (.ldc2_w d, 3)) (hv : Cond.constantLong (m_o k) d (Int64.ofNat z) ∈ lw_tbl) (hK : ∀ L st w g, K L st w g → RT k (pc + 3) L st w g Q) : ∀ L st w g, stW k J Q (pc, .ldc2_w d, x, y, z, u, v) K L st w g → RT k pc L st w g Q := by
  intro L st w g h
  simp only [stW] at h
  intro p l e R s m args below meth c ba D aC xa Qr C H locs cells slots ls hM hS hl h1 h2 h3
  exact lv_ldc2 C.1.1 C.1.2.1 C.1.2.2.2.1 (T_at C.1.2.2.2.2.1 hv rfl) hd (hK _ _ _ _ h p l e R s m args below meth c ba D aC xa Qr C H locs cells slots ls hM hS hl h1 h2 h3)
set_option maxHeartbeats 4000000 in
theorem so_iadd  (hd : decode (m_c k) pc = .ok (.iadd, 1)) (hK : ∀ L st w g, K L st w g → RT k (pc + 1) L st w g Q) : ∀ L st w g, stW k J Q (pc, .iadd, x, y, z, u, v) K L st w g → RT k pc L st w g Q := by
  intro L st w g h
  simp only [stW] at h
  split at h
  · intro p l e R s m args below meth c ba D aC xa Qr C H locs cells slots ls hM hS hl h1 h2 h3
    exact lv_iadd C.1.1 C.1.2.1 hd (hK _ _ _ _ h p l e R s m args below meth c ba D aC xa Qr C H locs cells slots ls hM hS hl h1 h2 h3)
  · exact h.elim
set_option maxHeartbeats 4000000 in
theorem so_isub  (hd : decode (m_c k) pc = .ok (.isub, 1)) (hK : ∀ L st w g, K L st w g → RT k (pc + 1) L st w g Q) : ∀ L st w g, stW k J Q (pc, .isub, x, y, z, u, v) K L st w g → RT k pc L st w g Q := by
  intro L st w g h
  simp only [stW] at h
  split at h
  · intro p l e R s m args below meth c ba D aC xa Qr C H locs cells slots ls hM hS hl h1 h2 h3
    exact lv_isub C.1.1 C.1.2.1 hd (hK _ _ _ _ h p l e R s m args below meth c ba D aC xa Qr C H locs cells slots ls hM hS hl h1 h2 h3)
  · exact h.elim
set_option maxHeartbeats 4000000 in
theorem so_imul  (hd : decode (m_c k) pc = .ok (.imul, 1)) (hK : ∀ L st w g, K L st w g → RT k (pc + 1) L st w g Q) : ∀ L st w g, stW k J Q (pc, .imul, x, y, z, u, v) K L st w g → RT k pc L st w g Q := by
  intro L st w g h
  simp only [stW] at h
  split at h
  · intro p l e R s m args below meth c ba D aC xa Qr C H locs cells slots ls hM hS hl h1 h2 h3
    exact lv_imul C.1.1 C.1.2.1 hd (hK _ _ _ _ h p l e R s m args below meth c ba D aC xa Qr C H locs cells slots ls hM hS hl h1 h2 h3)
  · exact h.elim
set_option maxHeartbeats 4000000 in
theorem so_iand  (hd : decode (m_c k) pc = .ok (.iand, 1)) (hK : ∀ L st w g, K L st w g → RT k (pc + 1) L st w g Q) : ∀ L st w g, stW k J Q (pc, .iand, x, y, z, u, v) K L st w g → RT k pc L st w g Q := by
  intro L st w g h
  simp only [stW] at h
  split at h
  · intro p l e R s m args below meth c ba D aC xa Qr C H locs cells slots ls hM hS hl h1 h2 h3
    exact lv_iand C.1.1 C.1.2.1 hd (hK _ _ _ _ h p l e R s m args below meth c ba D aC xa Qr C H locs cells slots ls hM hS hl h1 h2 h3)
  · exact h.elim
set_option maxHeartbeats 4000000 in
theorem so_ior  (hd : decode (m_c k) pc = .ok (.ior, 1)) (hK : ∀ L st w g, K L st w g → RT k (pc + 1) L st w g Q) : ∀ L st w g, stW k J Q (pc, .ior, x, y, z, u, v) K L st w g → RT k pc L st w g Q := by
  intro L st w g h
  simp only [stW] at h
  split at h
  · intro p l e R s m args below meth c ba D aC xa Qr C H locs cells slots ls hM hS hl h1 h2 h3
    exact lv_ior C.1.1 C.1.2.1 hd (hK _ _ _ _ h p l e R s m args below meth c ba D aC xa Qr C H locs cells slots ls hM hS hl h1 h2 h3)
  · exact h.elim
set_option maxHeartbeats 4000000 in
theorem so_ixor  (hd : decode (m_c k) pc = .ok (.ixor, 1)) (hK : ∀ L st w g, K L st w g → RT k (pc + 1) L st w g Q) : ∀ L st w g, stW k J Q (pc, .ixor, x, y, z, u, v) K L st w g → RT k pc L st w g Q := by
  intro L st w g h
  simp only [stW] at h
  split at h
  · intro p l e R s m args below meth c ba D aC xa Qr C H locs cells slots ls hM hS hl h1 h2 h3
    exact lv_ixor C.1.1 C.1.2.1 hd (hK _ _ _ _ h p l e R s m args below meth c ba D aC xa Qr C H locs cells slots ls hM hS hl h1 h2 h3)
  · exact h.elim
set_option maxHeartbeats 4000000 in
theorem so_ishl  (hd : decode (m_c k) pc = .ok (.ishl, 1)) (hK : ∀ L st w g, K L st w g → RT k (pc + 1) L st w g Q) : ∀ L st w g, stW k J Q (pc, .ishl, x, y, z, u, v) K L st w g → RT k pc L st w g Q := by
  intro L st w g h
  simp only [stW] at h
  split at h
  · intro p l e R s m args below meth c ba D aC xa Qr C H locs cells slots ls hM hS hl h1 h2 h3
    exact lv_ishl C.1.1 C.1.2.1 hd (hK _ _ _ _ h p l e R s m args below meth c ba D aC xa Qr C H locs cells slots ls hM hS hl h1 h2 h3)
  · exact h.elim
set_option maxHeartbeats 4000000 in
theorem so_ishr  (hd : decode (m_c k) pc = .ok (.ishr, 1)) (hK : ∀ L st w g, K L st w g → RT k (pc + 1) L st w g Q) : ∀ L st w g, stW k J Q (pc, .ishr, x, y, z, u, v) K L st w g → RT k pc L st w g Q := by
  intro L st w g h
  simp only [stW] at h
  split at h
  · intro p l e R s m args below meth c ba D aC xa Qr C H locs cells slots ls hM hS hl h1 h2 h3
    exact lv_ishr C.1.1 C.1.2.1 hd (hK _ _ _ _ h p l e R s m args below meth c ba D aC xa Qr C H locs cells slots ls hM hS hl h1 h2 h3)
  · exact h.elim
set_option maxHeartbeats 4000000 in
theorem so_ladd  (hd : decode (m_c k) pc = .ok (.ladd, 1)) (hK : ∀ L st w g, K L st w g → RT k (pc + 1) L st w g Q) : ∀ L st w g, stW k J Q (pc, .ladd, x, y, z, u, v) K L st w g → RT k pc L st w g Q := by
  intro L st w g h
  simp only [stW] at h
  split at h
  · intro p l e R s m args below meth c ba D aC xa Qr C H locs cells slots ls hM hS hl h1 h2 h3
    exact lv_ladd C.1.1 C.1.2.1 hd (hK _ _ _ _ h p l e R s m args below meth c ba D aC xa Qr C H locs cells slots ls hM hS hl h1 h2 h3)
  · exact h.elim
set_option maxHeartbeats 4000000 in
theorem so_lsub  (hd : decode (m_c k) pc = .ok (.lsub, 1)) (hK : ∀ L st w g, K L st w g → RT k (pc + 1) L st w g Q) : ∀ L st w g, stW k J Q (pc, .lsub, x, y, z, u, v) K L st w g → RT k pc L st w g Q := by
  intro L st w g h
  simp only [stW] at h
  split at h
  · intro p l e R s m args below meth c ba D aC xa Qr C H locs cells slots ls hM hS hl h1 h2 h3
    exact lv_lsub C.1.1 C.1.2.1 hd (hK _ _ _ _ h p l e R s m args below meth c ba D aC xa Qr C H locs cells slots ls hM hS hl h1 h2 h3)
  · exact h.elim
set_option maxHeartbeats 4000000 in
theorem so_lmul  (hd : decode (m_c k) pc = .ok (.lmul, 1)) (hK : ∀ L st w g, K L st w g → RT k (pc + 1) L st w g Q) : ∀ L st w g, stW k J Q (pc, .lmul, x, y, z, u, v) K L st w g → RT k pc L st w g Q := by
  intro L st w g h
  simp only [stW] at h
  split at h
  · intro p l e R s m args below meth c ba D aC xa Qr C H locs cells slots ls hM hS hl h1 h2 h3
    exact lv_lmul C.1.1 C.1.2.1 hd (hK _ _ _ _ h p l e R s m args below meth c ba D aC xa Qr C H locs cells slots ls hM hS hl h1 h2 h3)
  · exact h.elim
set_option maxHeartbeats 4000000 in
theorem so_lxor  (hd : decode (m_c k) pc = .ok (.lxor, 1)) (hK : ∀ L st w g, K L st w g → RT k (pc + 1) L st w g Q) : ∀ L st w g, stW k J Q (pc, .lxor, x, y, z, u, v) K L st w g → RT k pc L st w g Q := by
  intro L st w g h
  simp only [stW] at h
  split at h
  · intro p l e R s m args below meth c ba D aC xa Qr C H locs cells slots ls hM hS hl h1 h2 h3
    exact lv_lxor C.1.1 C.1.2.1 hd (hK _ _ _ _ h p l e R s m args below meth c ba D aC xa Qr C H locs cells slots ls hM hS hl h1 h2 h3)
  · exact h.elim
set_option maxHeartbeats 4000000 in
theorem so_idiv  (hd : decode (m_c k) pc = .ok (.idiv, 1)) (hK : ∀ L st w g, K L st w g → RT k (pc + 1) L st w g Q) : ∀ L st w g, stW k J Q (pc, .idiv, x, y, z, u, v) K L st w g → RT k pc L st w g Q := by
  intro L st w g h
  simp only [stW] at h
  split at h
  · intro p l e R s m args below meth c ba D aC xa Qr C H locs cells slots ls hM hS hl h1 h2 h3
    exact lv_idiv C.1.1 C.1.2.1 hd h.1 (hK _ _ _ _ h.2 p l e R s m args below meth c ba D aC xa Qr C H locs cells slots ls hM hS hl h1 h2 h3)
  · exact h.elim
set_option maxHeartbeats 4000000 in
theorem so_irem  (hd : decode (m_c k) pc = .ok (.irem, 1)) (hK : ∀ L st w g, K L st w g → RT k (pc + 1) L st w g Q) : ∀ L st w g, stW k J Q (pc, .irem, x, y, z, u, v) K L st w g → RT k pc L st w g Q := by
  intro L st w g h
  simp only [stW] at h
  split at h
  · intro p l e R s m args below meth c ba D aC xa Qr C H locs cells slots ls hM hS hl h1 h2 h3
    exact lv_irem C.1.1 C.1.2.1 hd h.1 (hK _ _ _ _ h.2 p l e R s m args below meth c ba D aC xa Qr C H locs cells slots ls hM hS hl h1 h2 h3)
  · exact h.elim
set_option maxHeartbeats 4000000 in
theorem so_ldiv  (hd : decode (m_c k) pc = .ok (.ldiv, 1)) (hK : ∀ L st w g, K L st w g → RT k (pc + 1) L st w g Q) : ∀ L st w g, stW k J Q (pc, .ldiv, x, y, z, u, v) K L st w g → RT k pc L st w g Q := by
  intro L st w g h
  simp only [stW] at h
  split at h
  · intro p l e R s m args below meth c ba D aC xa Qr C H locs cells slots ls hM hS hl h1 h2 h3
    exact lv_ldiv C.1.1 C.1.2.1 hd h.1 (hK _ _ _ _ h.2 p l e R s m args below meth c ba D aC xa Qr C H locs cells slots ls hM hS hl h1 h2 h3)
  · exact h.elim
set_option maxHeartbeats 4000000 in
theorem so_lrem  (hd : decode (m_c k) pc = .ok (.lrem, 1)) (hK : ∀ L st w g, K L st w g → RT k (pc + 1) L st w g Q) : ∀ L st w g, stW k J Q (pc, .lrem, x, y, z, u, v) K L st w g → RT k pc L st w g Q := by
  intro L st w g h
  simp only [stW] at h
  split at h
  · intro p l e R s m args below meth c ba D aC xa Qr C H locs cells slots ls hM hS hl h1 h2 h3
    exact lv_lrem C.1.1 C.1.2.1 hd h.1 (hK _ _ _ _ h.2 p l e R s m args below meth c ba D aC xa Qr C H locs cells slots ls hM hS hl h1 h2 h3)
  · exact h.elim
set_option maxHeartbeats 4000000 in
theorem so_iushr  (hd : decode (m_c k) pc = .ok (.iushr, 1)) (hK : ∀ L st w g, K L st w g → RT k (pc + 1) L st w g Q) : ∀ L st w g, stW k J Q (pc, .iushr, x, y, z, u, v) K L st w g → RT k pc L st w g Q := by
  intro L st w g h
  simp only [stW] at h
  split at h
  · intro p l e R s m args below meth c ba D aC xa Qr C H locs cells slots ls hM hS hl h1 h2 h3
    exact lv_iushr C.1.1 C.1.2.1 hd rfl (hK _ _ _ _ h p l e R s m args below meth c ba D aC xa Qr C H locs cells slots ls hM hS hl h1 h2 h3)
  · exact h.elim
set_option maxHeartbeats 4000000 in
theorem so_ineg  (hd : decode (m_c k) pc = .ok (.ineg, 1)) (hK : ∀ L st w g, K L st w g → RT k (pc + 1) L st w g Q) : ∀ L st w g, stW k J Q (pc, .ineg, x, y, z, u, v) K L st w g → RT k pc L st w g Q := by
  intro L st w g h
  simp only [stW] at h
  split at h
  · intro p l e R s m args below meth c ba D aC xa Qr C H locs cells slots ls hM hS hl h1 h2 h3
    exact lv_ineg C.1.1 C.1.2.1 hd (hK _ _ _ _ h p l e R s m args below meth c ba D aC xa Qr C H locs cells slots ls hM hS hl h1 h2 h3)
  · exact h.elim
set_option maxHeartbeats 4000000 in
theorem so_lcmp  (hd : decode (m_c k) pc = .ok (.lcmp, 1)) (hK : ∀ L st w g, K L st w g → RT k (pc + 1) L st w g Q) : ∀ L st w g, stW k J Q (pc, .lcmp, x, y, z, u, v) K L st w g → RT k pc L st w g Q := by
  intro L st w g h
  simp only [stW] at h
  split at h
  · intro p l e R s m args below meth c ba D aC xa Qr C H locs cells slots ls hM hS hl h1 h2 h3
    exact W.lcmp C.1.1 C.1.2.1 hd (hK _ _ _ _ h p l e R s m args below meth c ba D aC xa Qr C H locs cells slots ls hM hS hl h1 h2 h3)
  · exact h.elim
set_option maxHeartbeats 4000000 in
theorem so_i2l  (hd : decode (m_c k) pc = .ok (.i2l, 1)) (hK : ∀ L st w g, K L st w g → RT k (pc + 1) L st w g Q) : ∀ L st w g, stW k J Q (pc, .i2l, x, y, z, u, v) K L st w g → RT k pc L st w g Q := by
  intro L st w g h
  simp only [stW] at h
  split at h
  · intro p l e R s m args below meth c ba D aC xa Qr C H locs cells slots ls hM hS hl h1 h2 h3
    exact lv_i2l C.1.1 C.1.2.1 hd rfl (hK _ _ _ _ h p l e R s m args below meth c ba D aC xa Qr C H locs cells slots ls hM hS hl h1 h2 h3)
  · exact h.elim
set_option maxHeartbeats 4000000 in
theorem so_i2f  (hd : decode (m_c k) pc = .ok (.i2f, 1)) (hK : ∀ L st w g, K L st w g → RT k (pc + 1) L st w g Q) : ∀ L st w g, stW k J Q (pc, .i2f, x, y, z, u, v) K L st w g → RT k pc L st w g Q := by
  intro L st w g h
  simp only [stW] at h
  split at h
  · intro p l e R s m args below meth c ba D aC xa Qr C H locs cells slots ls hM hS hl h1 h2 h3
    exact lv_i2f C.1.1 C.1.2.1 hd (hK _ _ _ _ h p l e R s m args below meth c ba D aC xa Qr C H locs cells slots ls hM hS hl h1 h2 h3)
  · exact h.elim
set_option maxHeartbeats 4000000 in
theorem so_i2b  (hd : decode (m_c k) pc = .ok (.i2b, 1)) (hK : ∀ L st w g, K L st w g → RT k (pc + 1) L st w g Q) : ∀ L st w g, stW k J Q (pc, .i2b, x, y, z, u, v) K L st w g → RT k pc L st w g Q := by
  intro L st w g h
  simp only [stW] at h
  split at h
  · intro p l e R s m args below meth c ba D aC xa Qr C H locs cells slots ls hM hS hl h1 h2 h3
    exact lv_i2b C.1.1 C.1.2.1 hd rfl (hK _ _ _ _ h p l e R s m args below meth c ba D aC xa Qr C H locs cells slots ls hM hS hl h1 h2 h3)
  · exact h.elim
set_option maxHeartbeats 4000000 in
theorem so_l2i  (hd : decode (m_c k) pc = .ok (.l2i, 1)) (hK : ∀ L st w g, K L st w g → RT k (pc + 1) L st w g Q) : ∀ L st w g, stW k J Q (pc, .l2i, x, y, z, u, v) K L st w g → RT k pc L st w g Q := by
  intro L st w g h
  simp only [stW] at h
  split at h
  · intro p l e R s m args below meth c ba D aC xa Qr C H locs cells slots ls hM hS hl h1 h2 h3
    exact lv_l2i C.1.1 C.1.2.1 hd rfl (hK _ _ _ _ h p l e R s m args below meth c ba D aC xa Qr C H locs cells slots ls hM hS hl h1 h2 h3)
  · exact h.elim
set_option maxHeartbeats 4000000 in
theorem so_dcmp {op : CmpOp} (hd : decode (m_c k) pc = .ok (.dcmp op, 1)) (hK : ∀ L st w g, K L st w g → RT k (pc + 1) L st w g Q) : ∀ L st w g, stW k J Q (pc, .dcmp op, x, y, z, u, v) K L st w g → RT k pc L st w g Q := by
  intro L st w g h
  simp only [stW] at h
  split at h
  · intro p l e R s m args below meth c ba D aC xa Qr C H locs cells slots ls hM hS hl h1 h2 h3
    exact lv_dcmp C.1.1 C.1.2.1 hd (hK _ _ _ _ h p l e R s m args below meth c ba D aC xa Qr C H locs cells slots ls hM hS hl h1 h2 h3)
  · exact h.elim
set_option maxHeartbeats 4000000 in
theorem so_fdiv  (hd : decode (m_c k) pc = .ok (.fdiv, 1)) (hK : ∀ L st w g, K L st w g → RT k (pc + 1) L st w g Q) : ∀ L st w g, stW k J Q (pc, .fdiv, x, y, z, u, v) K L st w g → RT k pc L st w g Q := by
  intro L st w g h
  simp only [stW] at h
  split at h
  · intro p l e R s m args below meth c ba D aC xa Qr C H locs cells slots ls hM hS hl h1 h2 h3
    exact lv_fdiv C.1.1 C.1.2.1 hd h.1 (hK _ _ _ _ h.2 p l e R s m args below meth c ba D aC xa Qr C H locs cells slots ls hM hS hl h1 h2 h3)
  · exact h.elim
set_option maxHeartbeats 4000000 in
theorem so_f2d  (hd : decode (m_c k) pc = .ok (.f2d, 1)) (hK : ∀ L st w g, K L st w g → RT k (pc + 1) L st w g Q) : ∀ L st w g, stW k J Q (pc, .f2d, x, y, z, u, v) K L st w g → RT k pc L st w g Q := by
  intro L st w g h
  simp only [stW] at h
  split at h
  · intro p l e R s m args below meth c ba D aC xa Qr C H locs cells slots ls hM hS hl h1 h2 h3
    exact lv_f2d C.1.1 C.1.2.1 hd h.1 (hK _ _ _ _ h.2 p l e R s m args below meth c ba D aC xa Qr C H locs cells slots ls hM hS hl h1 h2 h3)
  · exact h.elim
set_option maxHeartbeats 4000000 in
theorem so_dup  (hd : decode (m_c k) pc = .ok (.dup, 1)) (hK : ∀ L st w g, K L st w g → RT k (pc + 1) L st w g Q) : ∀ L st w g, stW k J Q (pc, .dup, x, y, z, u, v) K L st w g → RT k pc L st w g Q := by
  intro L st w g h
  simp only [stW] at h
  split at h
  · intro p l e R s m args below meth c ba D aC xa Qr C H locs cells slots ls hM hS hl h1 h2 h3
    exact lv_dup C.1.1 C.1.2.1 hd (by rw [trv_c2]; exact c1_cat h.1) (hK _ _ _ _ h.2 p l e R s m args below meth c ba D aC xa Qr C H locs cells slots ls hM hS hl h1 h2 h3)
  · exact h.elim
set_option maxHeartbeats 4000000 in
theorem so_pop  (hd : decode (m_c k) pc = .ok (.pop, 1)) (hK : ∀ L st w g, K L st w g → RT k (pc + 1) L st w g Q) : ∀ L st w g, stW k J Q (pc, .pop, x, y, z, u, v) K L st w g → RT k pc L st w g Q := by
  intro L st w g h
  simp only [stW] at h
  split at h
  · intro p l e R s m args below meth c ba D aC xa Qr C H locs cells slots ls hM hS hl h1 h2 h3
    exact lv_pop C.1.1 C.1.2.1 hd (by rw [trv_c2]; exact c1_cat h.1) (hK _ _ _ _ h.2 p l e R s m args below meth c ba D aC xa Qr C H locs cells slots ls hM hS hl h1 h2 h3)
  · exact h.elim
set_option maxHeartbeats 4000000 in
theorem so_dup2  (hd : decode (m_c k) pc = .ok (.dup2, 1)) (hK : ∀ L st w g, K L st w g → RT k (pc + 1) L st w g Q) : ∀ L st w g, stW k J Q (pc, .dup2, x, y, z, u, v) K L st w g → RT k pc L st w g Q := by
  intro L st w g h
  simp only [stW] at h
  split at h
  · intro p l e R s m args below meth c ba D aC xa Qr C H locs cells slots ls hM hS hl h1 h2 h3
    exact lv_dup2_11 C.1.1 C.1.2.1 hd (by rw [trv_c2]; exact c1_cat h.1) (by rw [trv_c2]; exact c1_cat h.2.1) (hK _ _ _ _ h.2.2 p l e R s m args below meth c ba D aC xa Qr C H locs cells slots ls hM hS hl h1 h2 h3)
  · exact h.elim
set_option maxHeartbeats 4000000 in
theorem so_ifCond {cn : ClassFile.Cond} {off : Int} (hd : decode (m_c k) pc = .ok (.ifCond cn off, 3)) (ht : (pc : Int) + off = x) (hK : ∀ L st w g, K L st w g → RT k (pc + 3) L st w g Q) (hJ : ∀ L st w g, J x L st w g → RT k x L st w g Q) : ∀ L st w g, stW k J Q (pc, .ifCond cn off, x, y, z, u, v) K L st w g → RT k pc L st w g Q := by
  intro L st w g h
  simp only [stW] at h
  split at h
  · intro p l e R s m args below meth c ba D aC xa Qr C H locs cells slots ls hM hS hl h1 h2 h3
    have kt := fun q => hJ _ _ _ _ (h.1 q) p l e R s m args below meth c ba D aC xa Qr C H locs cells slots ls hM hS hl h1 h2 h3
    have kf := fun q => hK _ _ _ _ (h.2 q) p l e R s m args below meth c ba D aC xa Qr C H locs cells slots ls hM hS hl h1 h2 h3
    cases cn
    · exact lv_if_eq C.1.1 C.1.2.1 hd ht kt kf
    · exact lv_if_ne C.1.1 C.1.2.1 hd ht kt (fun q => kf (fun f => f q))
    · exact lv_if_lt C.1.1 C.1.2.1 hd ht kt kf
    · exact lv_if_ge C.1.1 C.1.2.1 hd ht kt kf
    · exact lv_if_gt C.1.1 C.1.2.1 hd ht kt kf
    · exact lv_if_le C.1.1 C.1.2.1 hd ht kt kf
  · exact h.elim
set_option maxHeartbeats 4000000 in
theorem so_if_icmp {cn : ClassFile.Cond} {off : Int} (hd : decode (m_c k) pc = .ok (.if_icmp cn off, 3)) (ht : (pc : Int) + off = x) (hK : ∀ L st w g, K L st w g → RT k (pc + 3) L st w g Q) (hJ : ∀ L st w g, J x L st w g → RT k x L st w g Q) : ∀ L st w g, stW k J Q (pc, .if_icmp cn off, x, y, z, u, v) K L st w g → RT k pc L st w g Q := by
  intro L st w g h
  simp only [stW] at h
  split at h
  · intro p l e R s m args below meth c ba D aC xa Qr C H locs cells slots ls hM hS hl h1 h2 h3
    have kt := fun q => hJ _ _ _ _ (h.1 q) p l e R s m args below meth c ba D aC xa Qr C H locs cells slots ls hM hS hl h1 h2 h3
    have kf := fun q => hK _ _ _ _ (h.2 q) p l e R s m args below meth c ba D aC xa Qr C H locs cells slots ls hM hS hl h1 h2 h3
    cases cn
    · exact lv_icmp_eq C.1.1 C.1.2.1 hd ht kt kf
    · exact lv_icmp_ne C.1.1 C.1.2.1 hd ht kt (fun q => kf (fun f => f q))
    · exact lv_icmp_lt C.1.1 C.1.2.1 hd ht kt kf
    · exact lv_icmp_ge C.1.1 C.1.2.1 hd ht kt kf
    · exact lv_icmp_gt C.1.1 C.1.2.1 hd ht kt kf
    · exact lv_icmp_le C.1.1 C.1.2.1 hd ht kt kf
  · exact h.elim
theorem so_goto {off : Int} (hd : decode (m_c k) pc = .ok (.goto off, 3)) (ht : (pc : Int) + off = x) (hJ : ∀ L st w g, J x L st w g → RT k x L st w g Q) : ∀ L st w g, stW k J Q (pc, .goto off, x, y, z, u, v) K L st w g → RT k pc L st w g Q := by
  intro L st w g h
  simp only [stW] at h
  intro p l e R s m args below meth c ba D aC xa Qr C H locs cells slots ls hM hS hl h1 h2 h3
  exact lv_goto C.1.1 C.1.2.1 hd ht (hJ _ _ _ _ h p l e R s m args below meth c ba D aC xa Qr C H locs cells slots ls hM hS hl h1 h2 h3)
set_option maxHeartbeats 4000000 in
theorem so_tsw {d lo hi : Int} {offs : Array Int} {ln : Nat} (hd : decode (m_c k) pc = .ok (.tableswitch d lo hi offs, ln)) (h0 : 0 ≤ (pc : Int) + d) (ho : ∀ o ∈ offs.toList, 0 ≤ (pc : Int) + o) (hz : (offs.size : Int) = hi - lo + 1) (hJ : ∀ (t : Int) L st w g, 0 ≤ t → J t L st w g → RT k t.toNat L st w g Q) : ∀ L st w g, stW k J Q (pc, .tableswitch d lo hi offs, x, y, z, u, v) K L st w g → RT k pc L st w g Q := by
  intro L st w g h
  simp only [stW] at h
  split at h
  · rename_i a r
    intro p l e R s m args below meth c ba D aC xa Qr C H locs cells slots ls hM hS hl h1 h2 h3
    by_cases hr : a.toInt < lo ∨ hi < a.toInt
    · rw [tsw, if_pos hr] at h
      exact lv_tableOut C.1.1 C.1.2.1 hd hr (Int.toNat_of_nonneg h0).symm (hJ _ _ _ _ _ h0 h p l e R s m args below meth c ba D aC xa Qr C H locs cells slots ls hM hS hl h1 h2 h3)
    · rw [tsw, if_neg hr] at h
      have g1 : ¬ a.toInt < lo := fun q => hr (Or.inl q)
      have g2 : ¬ hi < a.toInt := fun q => hr (Or.inr q)
      have g3 : (a.toInt - lo).toNat < offs.size := by omega
      have g4 : offs[(a.toInt - lo).toNat]? = some (offs[(a.toInt - lo).toNat]) := Array.getElem?_eq_getElem g3
      have g5 : offs.getD (a.toInt - lo).toNat 0 = offs[(a.toInt - lo).toNat] := by rw [Array.getD_eq_getD_getElem?, g4]; rfl
      rw [g5] at h
      have g6 := ho _ (Array.getElem_mem_toList g3)
      exact lv_tableIn C.1.1 C.1.2.1 hd g1 g2 g4 (Int.toNat_of_nonneg g6).symm (hJ _ _ _ _ _ g6 h p l e R s m args below meth c ba D aC xa Qr C H locs cells slots ls hM hS hl h1 h2 h3)
  · exact h.elim
set_option maxHeartbeats 4000000 in
theorem so_lneg (hd : decode (m_c k) pc = .ok (.lneg, 1)) (hK : ∀ L st w g, K L st w g → RT k (pc + 1) L st w g Q) : ∀ L st w g, stW k J Q (pc, .lneg, x, y, z, u, v) K L st w g → RT k pc L st w g Q := by
  intro L st w g h
  simp only [stW] at h
  split at h
  · rename_i a r
    intro p l e R s m args below meth c ba D aC xa Qr C H locs cells slots ls hM hS hl h1 h2 h3
    exact lv_lneg C.1.1 C.1.2.1 hd (hK _ _ _ _ h p l e R s m args below meth c ba D aC xa Qr C H locs cells slots ls hM hS hl h1 h2 h3)
  · exact h.elim
set_option maxHeartbeats 4000000 in
theorem so_fcmp {op : CmpOp} (hd : decode (m_c k) pc = .ok (.fcmp op, 1)) (hK : ∀ L st w g, K L st w g → RT k (pc + 1) L st w g Q) : ∀ L st w g, stW k J Q (pc, .fcmp op, x, y, z, u, v) K L st w g → RT k pc L st w g Q := by
  intro L st w g h
  simp only [stW] at h
  split at h
  · rename_i b a r
    intro p l e R s m args below meth c ba D aC xa Qr C H locs cells slots ls hM hS hl h1 h2 h3
    exact lv_fcmp C.1.1 C.1.2.1 hd (hK _ _ _ _ h p l e R s m args below meth c ba D aC xa Qr C H locs cells slots ls hM hS hl h1 h2 h3)
  · exact h.elim
set_option maxHeartbeats 4000000 in
theorem so_i2c (hd : decode (m_c k) pc = .ok (.i2c, 1)) (hK : ∀ L st w g, K L st w g → RT k (pc + 1) L st w g Q) : ∀ L st w g, stW k J Q (pc, .i2c, x, y, z, u, v) K L st w g → RT k pc L st w g Q := by
  intro L st w g h
  simp only [stW] at h
  split at h
  · rename_i a r
    intro p l e R s m args below meth c ba D aC xa Qr C H locs cells slots ls hM hS hl h1 h2 h3
    exact lv_i2c C.1.1 C.1.2.1 hd rfl (hK _ _ _ _ h p l e R s m args below meth c ba D aC xa Qr C H locs cells slots ls hM hS hl h1 h2 h3)
  · exact h.elim
set_option maxHeartbeats 4000000 in
theorem so_dup_x1 (hd : decode (m_c k) pc = .ok (.dup_x1, 1)) (hK : ∀ L st w g, K L st w g → RT k (pc + 1) L st w g Q) : ∀ L st w g, stW k J Q (pc, .dup_x1, x, y, z, u, v) K L st w g → RT k pc L st w g Q := by
  intro L st w g h
  simp only [stW] at h
  split at h
  · rename_i a b r
    obtain ⟨ha, hb, h⟩ := h
    intro p l e R s m args below meth c ba D aC xa Qr C H locs cells slots ls hM hS hl h1 h2 h3
    exact lv_dup_x1 C.1.1 C.1.2.1 hd (by rw [trv_c2]; exact c1_cat ha) (by rw [trv_c2]; exact c1_cat hb) (hK _ _ _ _ h p l e R s m args below meth c ba D aC xa Qr C H locs cells slots ls hM hS hl h1 h2 h3)
  · exact h.elim
set_option maxHeartbeats 4000000 in
theorem so_null (hd : decode (m_c k) pc = .ok (.aconst_null, 1)) (hK : ∀ L st w g, K L st w g → RT k (pc + 1) L st w g Q) : ∀ L st w g, stW k J Q (pc, .aconst_null, x, y, z, u, v) K L st w g → RT k pc L st w g Q := by
  intro L st w g h
  simp only [stW] at h
  intro p l e R s m args below meth c ba D aC xa Qr C H locs cells slots ls hM hS hl h1 h2 h3
  exact lv_null C.1.1 C.1.2.1 hd (hK _ _ _ _ h p l e R s m args below meth c ba D aC xa Qr C H locs cells slots ls hM hS hl h1 h2 h3)
set_option maxHeartbeats 4000000 in
theorem so_ifnonnull {off : Int} (hd : decode (m_c k) pc = .ok (.ifnonnull off, 3)) (ht : (pc : Int) + off = x) (hJ : ∀ L st w g, J (x : Int) L st w g → RT k x L st w g Q) : ∀ L st w g, stW k J Q (pc, .ifnonnull off, x, y, z, u, v) K L st w g → RT k pc L st w g Q := by
  intro L st w g h
  simp only [stW] at h
  split at h
  · rename_i a r
    intro p l e R s m args below meth c ba D aC xa Qr C H locs cells slots ls hM hS hl h1 h2 h3
    exact lv_ifnonnull (tgt := x) C.1.1 C.1.2.1 hd ht (hJ _ _ _ _ h p l e R s m args below meth c ba D aC xa Qr C H locs cells slots ls hM hS hl h1 h2 h3)
  · exact h.elim
end ROWS9
