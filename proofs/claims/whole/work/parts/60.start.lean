/-! the law's start: what the Statement gives there -/
def lw_G : List Cond := flatC (Jvm.Cond.and given_1 narrow_1)
theorem z_g {s : State} {args : Array Value} (h : (Jvm.Cond.and given_1 narrow_1).before args s = true) {i : Nat} {w : Cond} (hi : lw_G[i]? = some w) : w.before args s = true := flat_of_before _ h w (List.mem_of_getElem? hi)
theorem z_t {i : Nat} {w : Cond} (hi : tables_1[i]? = some w) : w ∈ lw_tbl := List.mem_append_right _ (List.mem_of_getElem? hi)
def z_str (j : Nat) : String × Nat × String := m_str.getD j ("", 0, "")
def z_thr (j : Nat) : String × Nat × String := m_thr.getD j ("", 0, "")
def z_tm (q : String × Nat × String) : Term := .string q.1 q.2.1
def z_fv (q : String × Nat × String) : Term := .field (z_tm q) "java/lang/String" "value" "[B"
def z_ts : List Nat := [403, 456, 457, 458, 459, 460, 753, 755, 756, 757, 758, 759, 766, 767, 768, 784]
def z_gs : List Nat := [87, 95, 105, 116, 125, 133, 217, 224, 232, 241, 250, 259, 269, 279, 291, 300]
def z_tt : List Nat := [673, 724, 738, 907, 914, 927, 940, 950, 958, 971, 974, 983, 1008, 1046, 1047, 1049, 1075, 1083, 1098, 1152, 1170, 1227, 1235, 1243]
def z_gt : List Nat := [142, 174, 192, 309, 324, 336, 361, 388, 408, 433, 451, 497, 515, 544, 561, 578, 614, 632, 649, 674, 690, 706, 722, 748]
def z_cp : List Nat := [0, 56, 70, 84, 42, 0, 71, 85, 43, 57, 0, 86, 44, 58, 72, 0]
def z_ci : List Nat := [203, 236, 36, 223, 60, 295, 282, 252, 42, 28, 1249]
def z_ar : List Nat := [58, 121, 250, 1388, 1868]
theorem z_s1 : ∀ j, j < 16 → tables_1[z_ts.getD j 0]? = some (.stringRef (z_str j).1 (z_str j).2.1 (z_str j).2.2) := by decide +kernel
theorem z_s2 : ∀ j, j < 16 → lw_G[z_gs.getD j 0]? = some (.exactly (z_tm (z_str j)) "java/lang/String") ∧ lw_G[z_gs.getD j 0 + 1]? = some (.eq (.field (z_tm (z_str j)) "java/lang/String" "coder" "B") (.int 0)) ∧ lw_G[z_gs.getD j 0 + 2]? = some (.arrayOf (z_fv (z_str j)) .byte) ∧ lw_G[z_gs.getD j 0 + 3]? = some (.eq (.length (z_fv (z_str j))) (.int (Int32.ofNat (s_len j)))) := by decide +kernel
theorem z_s3 : ∀ j, j < 16 → s_len j < 2 ^ 31 ∧ ∀ i, i < s_len j → lw_G[z_gs.getD j 0 + 4 + i]? = some (.eq (.elem (z_fv (z_str j)) (.int (Int32.ofNat i))) (.int (s_ch j i))) := by decide +kernel
theorem z_t1 : ∀ j, j < 24 → tables_1[z_tt.getD j 0]? = some (.stringRef (z_thr j).1 (z_thr j).2.1 (z_thr j).2.2) := by decide +kernel
theorem z_t2 : ∀ j, j < 24 → lw_G[z_gt.getD j 0]? = some (.exactly (z_tm (z_thr j)) "java/lang/String") := by decide +kernel
theorem z_c1 : ∀ i, i < 4 → ∀ j, j < 4 → i ≠ j → lw_G[z_cp.getD (4 * i + j) 0]? = some (.not (.castable (m_E i) (m_E j))) := by decide +kernel
theorem z_i1 : ∀ x, x < 11 → tables_1[z_ci.getD x 0]? = some (.instantiable (m_cl x).1 (m_cl x).2.2) := by decide +kernel
theorem z_a1 : ∀ t, t < 5 → tables_1[z_ar.getD t 0]? = some (.arrayClass (m_el t)) := by decide +kernel
theorem z_a2 : tables_1[209]? = some (.arrayOver (.object RX2)) := by decide +kernel
def z_pw : Term := .static "CrankCalculator" "POWERS_OF_TEN" "[J"
theorem z_p1 : lw_G[10]? = some (.arrayOf z_pw .long) ∧ lw_G[10 + 1]? = some (.eq (.length z_pw) (.int (Int32.ofNat 17))) := by decide +kernel
theorem z_p2 : ∀ j, j < 17 → lw_G[10 + 2 + j]? = some (.eq (.elem z_pw (.int (Int32.ofNat j))) (.long (pw10 j))) := by decide +kernel
theorem z_l1 : tables_1[570]? = some (.laysStatic "CrankCalculator" "POWERS_OF_TEN" "[J") ∧ tables_1[1]? = some (.initialized "CrankCalculator") := by decide +kernel
theorem z_l2 : tables_1[658]? = some (.laysStatic Bundle.tN "UNASSIGNED_STACK" Bundle.steD) ∧ tables_1[660]? = some (.laysStatic Bundle.tN "SUPPRESSED_SENTINEL" Bundle.listD) ∧ tables_1[13]? = some (.initialized Bundle.tN) := by decide +kernel
theorem z_l3 : tables_1[417]? = some (.laysStatic "java/lang/String" "COMPACT_STRINGS" "Z") ∧ tables_1[18]? = some (.initialized "java/lang/String") := by decide +kernel
theorem z_l4 : tables_1[433]? = some (.laysStatic "jdk/internal/util/Preconditions" "SIOOBE_FORMATTER" "Ljava/util/function/BiFunction;") ∧ tables_1[20]? = some (.initialized "jdk/internal/util/Preconditions") := by decide +kernel
theorem z_r1 : lw_G[29]? = some (.isRef (.static Bundle.tN "UNASSIGNED_STACK" Bundle.steD)) ∧ lw_G[30]? = some (.isRef (.static Bundle.tN "SUPPRESSED_SENTINEL" Bundle.listD)) ∧ lw_G[5]? = some (.isRef (.static "jdk/internal/util/Preconditions" "SIOOBE_FORMATTER" "Ljava/util/function/BiFunction;")) ∧ lw_G[4]? = some (.eq (.static "java/lang/String" "COMPACT_STRINGS" "Z") (.int 1)) := by decide +kernel
theorem z_arr {s : State} {args : Array Value} {ty : FieldType} (h : (Cond.arrayClass ty).before args s = true) : ∃ cA : ClassId, ArrOfT s cA ty ∧ s.vm.findClass ("[" ++ ty.toString) = some cA := by
  obtain ⟨c, k, comp, h1, h2, h3⟩ := Cond.arrayClass_spec h
  exact ⟨c, fun n z => ⟨fun q hq => (by cases hq), k, h2, comp, h3⟩, h1⟩
theorem z_aro {s : State} {args : Array Value} {C : String} (h : (Cond.arrayOver (.object C)).before args s = true) : ∃ cA : ClassId, ArrOfT s cA (.object C) ∧ va_RA s cA (.object C) := by
  obtain ⟨comp, c, k, h1, h2, h3, h4, h5⟩ := Cond.arrayOver_spec h
  exact ⟨c, fun n z => ⟨fun q hq => (by cases hq), k, h3, comp, h4⟩, k, comp, h3, h4, h1, h5⟩
theorem z_K {s : State} {args : Array Value} (hts : ∀ w ∈ lw_tbl, w.before args s = true) : ∃ (D : va_G) (aC : Nat → Nat), va_K D vwCl (m_tys aC) s := by
  have htT : ∀ w ∈ lw_T, w.before args s = true := fun w hw => hts w (List.mem_filter.mp hw).1
  have h1 : ∀ x : Nat, ∃ q : ClassId × (Nat → Nat), x < 11 → u_Kn s (m_cl x).1 (m_cl x).2.1 (m_cl x).2.2 q.1 q.2 := by
    intro x
    by_cases hx : x < 11
    · obtain ⟨cC, iS, h⟩ := u_known htT (F_in x hx) (hts _ (z_t (z_i1 x hx)))
      exact ⟨(cC, iS), fun _ => h⟩
    · exact ⟨(0, fun _ => 0), fun h => absurd h hx⟩
  have h2 : ∀ t : Nat, ∃ cA : ClassId, (t < 5 → ArrOfT s cA (m_el t) ∧ s.vm.findClass ("[" ++ (m_el t).toString) = some cA) ∧ (t = 5 → ArrOfT s cA (.object RX2) ∧ va_RA s cA (.object RX2)) := by
    intro t
    by_cases ht : t < 5
    · obtain ⟨cA, h⟩ := z_arr (hts _ (z_t (z_a1 t ht)))
      exact ⟨cA, fun _ => h, fun e => by omega⟩
    · obtain ⟨cA, h⟩ := z_aro (hts _ (z_t z_a2))
      exact ⟨cA, fun e => absurd e ht, fun _ => h⟩
  obtain ⟨f, hf⟩ := Classical.axiomOfChoice h1
  obtain ⟨g, hg⟩ := Classical.axiomOfChoice h2
  refine ⟨(fun x => (f x).1, fun x => (f x).2), g, fun c q hq => ?_, fun k q hk => ?_⟩
  · have hc : c < 11 := (List.getElem?_eq_some_iff.mp hq).1
    have e : m_cl c = q := by rw [m_cl, List.getD_eq_getElem?_getD, hq]; rfl
    rw [← e]
    exact hf c hc
  · have hk6 : k < 6 := (List.getElem?_eq_some_iff.mp hk).1
    match k, hk with
    | 0, hk => cases hk; exact (hg 0).1 (by omega)
    | 1, hk => cases hk; exact (hg 1).1 (by omega)
    | 2, hk => cases hk; exact (hg 2).1 (by omega)
    | 3, hk => cases hk; exact (hg 3).1 (by omega)
    | 4, hk => cases hk; exact (hg 4).1 (by omega)
    | 5, hk => cases hk; exact (hg 5).2 rfl
theorem z_sq {j : Nat} {q : String × Nat × String} (h : m_str[j]? = some q) : j < 16 ∧ z_str j = q :=
  ⟨(List.getElem?_eq_some_iff.mp h).1, by rw [z_str, List.getD_eq_getElem?_getD, h]; rfl⟩
theorem z_tq {j : Nat} {q : String × Nat × String} (h : m_thr[j]? = some q) : j < 24 ∧ z_thr j = q :=
  ⟨(List.getElem?_eq_some_iff.mp h).1, by rw [z_thr, List.getD_eq_getElem?_getD, h]; rfl⟩
theorem z_ex {s : State} {args : Array Value} {t : Term} {nm : String} (h : (Cond.exactly t nm).before args s = true) : ∃ a : Nat, t.eval args s none [] s = some (.ref a) := by
  obtain ⟨a, c, cA, kA, q1, -⟩ := Cond.exactly_spec (args := args) (first := s) (o := none) (s := s) (idx := []) (t := t) (cls := nm) h
  exact ⟨a, q1⟩
theorem z_RO {s : State} {args : Array Value} (b : Nat) (hts : ∀ w ∈ lw_tbl, w.before args s = true) (hgv : (Jvm.Cond.and given_1 narrow_1).before args s = true) : ∃ xa : Nat → Nat, xa 0 = b ∧ RO s.heap.size xa s s.heap := by
  have hA : ∀ a : Nat, a < s.heap.size → ¬ aA s.heap.size a := fun a h q => by have q : s.heap.size ≤ a := q; omega
  obtain ⟨t, ht, hT⟩ := va_Tof (N := 17) (f := fun j => .long (pw10 j)) (A := aA s.heap.size) (by decide) (z_g hgv z_p1.1) (va_eqt (z_g hgv z_p1.2)) (fun j hj => va_eqtl (z_g hgv (z_p2 j hj))) hA
  have hs : ∀ j : Nat, ∃ a : Nat, j < 16 → vk_R (z_str j).1 (z_str j).2.1 (z_str j).2.2 a s ∧ ∃ v : Nat, va_O "java/lang/String" a (aA s.heap.size) s s.heap ∧ va_OF "java/lang/String" "coder" "B" (.int 0) a (aA s.heap.size) s s.heap ∧ va_OF "java/lang/String" "value" "[B" (.ref v) a (aA s.heap.size) s s.heap ∧ va_T .byte v (s_len j) (fun i => .int (s_ch j i)) (aA s.heap.size) s s.heap := by
    intro j
    by_cases hj : j < 16
    · obtain ⟨k1, k2, k3, k4⟩ := z_s2 j hj
      obtain ⟨k5, k6⟩ := z_s3 j hj
      obtain ⟨a, ha⟩ := z_ex (z_g hgv k1)
      obtain ⟨v, hv, hV⟩ := va_Tof (f := fun i => .int (s_ch j i)) (A := aA s.heap.size) k5 (z_g hgv k3) (va_eqt (z_g hgv k4)) (fun i hi => va_eqt (z_g hgv (k6 i hi))) hA
      exact ⟨a, fun _ => ⟨vk_R.of (hts _ (z_t (z_s1 j hj))) ha, v, va_Oof (z_g hgv k1) ha hA, vk_OFof ha (va_eqt (z_g hgv k2)) hA, vk_OFof ha hv hA, hV⟩⟩
    · exact ⟨0, fun h => absurd h hj⟩
  obtain ⟨ad, had⟩ := Classical.axiomOfChoice hs
  refine ⟨fun i => if i = 0 then b else if i = 1 then t else ad (i - 2), rfl, ?_, hT, fun j q hj => ?_, fun j q hj => ?_, ⟨?_, ?_⟩, fun j q hj => ?_, ⟨?_, ?_⟩, fun i j hi hj hij => va_Nc.of (z_g hgv (z_c1 i hi j hj hij)), fun w hw => va_Nw.of (isN_on (List.mem_filter.mp hw).2) (hts w (List.mem_filter.mp hw).1), va_AO.of (hts _ (z_t z_a2))⟩
  · exact va_Zof (hts _ (z_t z_l1.1)) (hts _ (z_t z_l1.2)) ht hA
  · obtain ⟨h1, rfl⟩ := z_sq hj
    have e : (if 2 + j = 0 then b else if 2 + j = 1 then t else ad (2 + j - 2)) = ad j := by rw [if_neg (by omega), if_neg (by omega), Nat.add_sub_cancel_left]
    show vk_R _ _ _ (if 2 + j = 0 then b else if 2 + j = 1 then t else ad (2 + j - 2)) s
    rw [e]; exact (had j h1).1
  · obtain ⟨h1, rfl⟩ := z_tq hj
    obtain ⟨a, ha⟩ := z_ex (z_g hgv (z_t2 j h1))
    exact ⟨a, vk_R.of (hts _ (z_t (z_t1 j h1))) ha⟩
  · exact vx_Zqof (hts _ (z_t z_l2.1)) (hts _ (z_t z_l2.2.2)) (z_g hgv z_r1.1) hA
  · exact vx_Zqof (hts _ (z_t z_l2.2.1)) (hts _ (z_t z_l2.2.2)) (z_g hgv z_r1.2.1) hA
  · obtain ⟨h1, rfl⟩ := z_sq hj
    have e : (if 2 + j = 0 then b else if 2 + j = 1 then t else ad (2 + j - 2)) = ad j := by rw [if_neg (by omega), if_neg (by omega), Nat.add_sub_cancel_left]
    show ∃ v : Nat, va_O _ (if 2 + j = 0 then b else if 2 + j = 1 then t else ad (2 + j - 2)) _ _ _ ∧ va_OF _ _ _ _ (if 2 + j = 0 then b else if 2 + j = 1 then t else ad (2 + j - 2)) _ _ _ ∧ va_OF _ _ _ _ (if 2 + j = 0 then b else if 2 + j = 1 then t else ad (2 + j - 2)) _ _ _ ∧ _
    rw [e]; exact (had j h1).2
  · exact va_Zof (hts _ (z_t z_l3.1)) (hts _ (z_t z_l3.2)) (va_eqi (z_g hgv z_r1.2.2.2)) hA
  · exact va_Zqof (hts _ (z_t z_l4.1)) (hts _ (z_t z_l4.2)) (z_g hgv z_r1.2.2.1) hA
