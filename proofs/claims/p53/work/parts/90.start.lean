/-! the law's start: what the Statement gives there -/
def lw_G : List Cond := flatC (Jvm.Cond.and given_1 narrow_1)
theorem z_g {s : State} {args : Array Value} (h : (Jvm.Cond.and given_1 narrow_1).before args s = true) {i : Nat} {w : Cond} (hi : lw_G[i]? = some w) : w.before args s = true := flat_of_before _ h w (List.mem_of_getElem? hi)
theorem z_t {i : Nat} {w : Cond} (hi : tables_1[i]? = some w) : w ∈ lw_tbl := List.mem_append_right _ (List.mem_of_getElem? hi)
def z_str (j : Nat) : String × Nat × String := m_str.getD j ("", 0, "")
def z_thr (j : Nat) : String × Nat × String := m_thr.getD j ("", 0, "")
def z_tm (q : String × Nat × String) : Term := .string q.1 q.2.1
def z_fv (q : String × Nat × String) : Term := .field (z_tm q) "java/lang/String" "value" "[B"
def z_ts : List Nat := [403, 456, 457, 458, 459, 460, 681, 804, 805, 820, 821, 822, 823, 824, 1535, 1536]
def z_gs : List Nat := [253, 261, 271, 282, 291, 299, 308, 319, 325, 334, 347, 353, 363, 372, 838, 843]
def z_tt : List Nat := [939, 981, 1018, 1023, 1041, 1064, 1077, 1091, 1110, 1285, 1290, 1303, 1314, 1341, 1349, 1372, 1382, 1408, 1429, 1431, 1580]
def z_gt : List Nat := [382, 400, 432, 450, 467, 484, 509, 524, 540, 569, 594, 619, 631, 658, 678, 703, 721, 767, 785, 802, 847]
def z_cp : List Nat := [0, 248, 249, 250]
def z_ci : List Nat := [206, 238, 41, 225, 65, 295, 282, 254, 47, 33, 538, 830, 647]
def z_ar : List Nat := [63, 125, 252, 252, 1626]
theorem z_s1 : ∀ j, j < 16 → tables_1[z_ts.getD j 0]? = some (.stringRef (z_str j).1 (z_str j).2.1 (z_str j).2.2) := by decide +kernel
theorem z_s2 : ∀ j, j < 16 → lw_G[z_gs.getD j 0]? = some (.exactly (z_tm (z_str j)) "java/lang/String") ∧ lw_G[z_gs.getD j 0 + 1]? = some (.eq (.field (z_tm (z_str j)) "java/lang/String" "coder" "B") (.int 0)) ∧ lw_G[z_gs.getD j 0 + 2]? = some (.arrayOf (z_fv (z_str j)) .byte) ∧ lw_G[z_gs.getD j 0 + 3]? = some (.eq (.length (z_fv (z_str j))) (.int (Int32.ofNat (s_len j)))) := by decide +kernel
theorem z_s3 : ∀ j, j < 16 → s_len j < 2 ^ 31 ∧ ∀ i, i < s_len j → lw_G[z_gs.getD j 0 + 4 + i]? = some (.eq (.elem (z_fv (z_str j)) (.int (Int32.ofNat i))) (.int (s_ch j i))) := by decide +kernel
theorem z_t1 : ∀ j, j < 21 → tables_1[z_tt.getD j 0]? = some (.stringRef (z_thr j).1 (z_thr j).2.1 (z_thr j).2.2) := by decide +kernel
theorem z_t2 : ∀ j, j < 21 → lw_G[z_gt.getD j 0]? = some (.exactly (z_tm (z_thr j)) "java/lang/String") := by decide +kernel
theorem z_c1 : ∀ i, i < 4 → i ≠ 0 → lw_G[z_cp.getD i 0]? = some (.not (.castable (m_E i) (m_E 0))) := by decide +kernel
theorem z_i1 : ∀ x, x < 13 → tables_1[z_ci.getD x 0]? = some (.instantiable (m_cl x).1 (m_cl x).2.2) := by decide +kernel
theorem z_a1 : ∀ t, t < 5 → tables_1[z_ar.getD t 0]? = some (.arrayClass (m_el t)) := by decide +kernel
theorem z_a2 : tables_1[212]? = some (.arrayOver (.object RX2)) := by decide +kernel
theorem z_a3 : tables_1[544]? = some (.arrayOver (.array .int)) := by decide +kernel
def z_do : Term := .static "java/lang/Integer" "DigitOnes" "[B"
def z_dt : Term := .static "java/lang/Integer" "DigitTens" "[B"
theorem z_d1 : lw_G[10]? = some (.arrayOf z_do .byte) ∧ lw_G[10 + 1]? = some (.eq (.length z_do) (.int (Int32.ofNat 100))) := by decide +kernel
theorem z_d2 : lw_G[113]? = some (.arrayOf z_dt .byte) ∧ lw_G[113 + 1]? = some (.eq (.length z_dt) (.int (Int32.ofNat 100))) := by decide +kernel
theorem z_d3 : ∀ j, j < 100 → lw_G[10 + 2 + j]? = some (.eq (.elem z_do (.int (Int32.ofNat j))) (.int (dgO j))) := by decide +kernel
theorem z_d4 : ∀ j, j < 100 → lw_G[113 + 2 + j]? = some (.eq (.elem z_dt (.int (Int32.ofNat j))) (.int (dgT j))) := by decide +kernel
theorem z_d5 : tables_1[793]? = some (.laysStatic "java/lang/Integer" "DigitOnes" "[B") ∧ tables_1[795]? = some (.laysStatic "java/lang/Integer" "DigitTens" "[B") ∧ tables_1[14]? = some (.initialized "java/lang/Integer") := by decide +kernel
def z_pw : Term := .static "CrankCalculator" "POWERS_OF_TEN" "[J"
theorem z_p1 : lw_G[218]? = some (.arrayOf z_pw .long) ∧ lw_G[218 + 1]? = some (.eq (.length z_pw) (.int (Int32.ofNat 17))) := by decide +kernel
theorem z_p2 : ∀ j, j < 17 → lw_G[218 + 2 + j]? = some (.eq (.elem z_pw (.int (Int32.ofNat j))) (.long (pw10 j))) := by decide +kernel
theorem z_l1 : tables_1[1233]? = some (.laysStatic "CrankCalculator" "POWERS_OF_TEN" "[J") ∧ tables_1[1]? = some (.initialized "CrankCalculator") := by decide +kernel
theorem z_l2 : tables_1[924]? = some (.laysStatic Bundle.tN "UNASSIGNED_STACK" Bundle.steD) ∧ tables_1[926]? = some (.laysStatic Bundle.tN "SUPPRESSED_SENTINEL" Bundle.listD) ∧ tables_1[15]? = some (.initialized Bundle.tN) := by decide +kernel
theorem z_l3 : tables_1[417]? = some (.laysStatic "java/lang/String" "COMPACT_STRINGS" "Z") ∧ tables_1[24]? = some (.initialized "java/lang/String") := by decide +kernel
theorem z_l4 : tables_1[433]? = some (.laysStatic "jdk/internal/util/Preconditions" "SIOOBE_FORMATTER" "Ljava/util/function/BiFunction;") ∧ tables_1[29]? = some (.initialized "jdk/internal/util/Preconditions") := by decide +kernel
theorem z_r1 : lw_G[215]? = some (.isRef (.static Bundle.tN "UNASSIGNED_STACK" Bundle.steD)) ∧ lw_G[216]? = some (.isRef (.static Bundle.tN "SUPPRESSED_SENTINEL" Bundle.listD)) ∧ lw_G[5]? = some (.isRef (.static "jdk/internal/util/Preconditions" "SIOOBE_FORMATTER" "Ljava/util/function/BiFunction;")) ∧ lw_G[4]? = some (.eq (.static "java/lang/String" "COMPACT_STRINGS" "Z") (.int 1)) := by decide +kernel
theorem z_arr {s : State} {args : Array Value} {ty : FieldType} (h : (Cond.arrayClass ty).before args s = true) : ∃ cA : ClassId, ArrOfT s cA ty ∧ s.vm.findClass ("[" ++ ty.toString) = some cA := by
  obtain ⟨c, k, comp, h1, h2, h3⟩ := Cond.arrayClass_spec h
  exact ⟨c, fun n z => ⟨fun q hq => (by cases hq), k, h2, comp, h3⟩, h1⟩
theorem z_aro {s : State} {args : Array Value} {C : String} (h : (Cond.arrayOver (.object C)).before args s = true) : ∃ cA : ClassId, ArrOfT s cA (.object C) ∧ va_RA s cA (.object C) := by
  obtain ⟨comp, c, k, h1, h2, h3, h4, h5⟩ := Cond.arrayOver_spec h
  exact ⟨c, fun n z => ⟨fun q hq => (by cases hq), k, h3, comp, h4⟩, k, comp, h3, h4, h1, h5⟩
theorem z_ari {s : State} {args : Array Value} (h : (Cond.arrayOver (.array .int)).before args s = true) : ∃ cA : ClassId, ArrOfT s cA (.array .int) ∧ va_RA s cA (.array .int) := by
  obtain ⟨comp, c, k, h1, h2, h3, h4, h5⟩ := AI_spec h
  exact ⟨c, fun n z => ⟨fun q hq => (by cases hq), k, h3, comp, h4⟩, h5⟩
theorem z_x0 : tables_1[647]? = some (.instantiable RJ4 4) := by decide +kernel
theorem z_x1 : tables_1[694]? = some (.privateMethod yJ5_ensureCapacityInternal_d00df) ∧ tables_1[695]? = some (.instanceMethod yJ5_ensureCapacityInternal_d00df) ∧ tables_1[1597]? = some (.sameMethod yJ5_ensureCapacityInternal_d00df.cls yJ5_ensureCapacityInternal_d00df.cls yJ5_ensureCapacityInternal_d00df.name yJ5_ensureCapacityInternal_d00df.desc) := by decide +kernel
theorem z_x2 : tables_1[698]? = some (.privateMethod yJ5_newCapacity_0f7a4) ∧ tables_1[699]? = some (.instanceMethod yJ5_newCapacity_0f7a4) ∧ tables_1[1598]? = some (.sameMethod yJ5_newCapacity_0f7a4.cls yJ5_newCapacity_0f7a4.cls yJ5_newCapacity_0f7a4.name yJ5_newCapacity_0f7a4.desc) := by decide +kernel
theorem z_x3 : tables_1[746]? = some (.privateMethod yJ5_putStringAt_47b60) ∧ tables_1[747]? = some (.instanceMethod yJ5_putStringAt_47b60) ∧ tables_1[1599]? = some (.sameMethod yJ5_putStringAt_47b60.cls yJ5_putStringAt_47b60.cls yJ5_putStringAt_47b60.name yJ5_putStringAt_47b60.desc) := by decide +kernel
theorem z_x4 : tables_1[750]? = some (.privateMethod yJ5_inflateIfNeededFor_a7421) ∧ tables_1[751]? = some (.instanceMethod yJ5_inflateIfNeededFor_a7421) ∧ tables_1[1600]? = some (.sameMethod yJ5_inflateIfNeededFor_a7421.cls yJ5_inflateIfNeededFor_a7421.cls yJ5_inflateIfNeededFor_a7421.name yJ5_inflateIfNeededFor_a7421.desc) := by decide +kernel
theorem z_X {s : State} {args : Array Value} (hts : ∀ w ∈ lw_tbl, w.before args s = true) : ∀ w ∈ lw_X, w.before args s = true := by
  have one : ∀ (i1 i2 i3 : Nat) (y : MethodName), tables_1[i1]? = some (.privateMethod y) → tables_1[i2]? = some (.instanceMethod y) → tables_1[i3]? = some (.sameMethod y.cls y.cls y.name y.desc) → (y.cls ≠ "java/lang/invoke/MethodHandle" ∧ y.cls ≠ "java/lang/invoke/VarHandle") → (Cond.selects RJ4 y y).before args s = true :=
    fun i1 i2 i3 y h1 h2 h3 hy => sel_up hy (hts _ (z_t z_x0)) (hts _ (z_t h1)) (hts _ (z_t h2)) (hts _ (z_t h3))
  intro w hw
  simp only [lw_X, List.mem_cons, List.not_mem_nil, or_false] at hw
  rcases hw with rfl | rfl | rfl | rfl
  · exact one _ _ _ _ z_x1.1 z_x1.2.1 z_x1.2.2 ⟨by decide, by decide⟩
  · exact one _ _ _ _ z_x2.1 z_x2.2.1 z_x2.2.2 ⟨by decide, by decide⟩
  · exact one _ _ _ _ z_x3.1 z_x3.2.1 z_x3.2.2 ⟨by decide, by decide⟩
  · exact one _ _ _ _ z_x4.1 z_x4.2.1 z_x4.2.2 ⟨by decide, by decide⟩
theorem z_T {s : State} {args : Array Value} (hts : ∀ w ∈ lw_tbl, w.before args s = true) : ∀ w ∈ lw_T, w.before args s = true := fun w hw => by
  rcases List.mem_append.mp hw with q | q
  · exact hts w (List.mem_filter.mp q).1
  · exact z_X hts w q
theorem z_K {s : State} {args : Array Value} (hts : ∀ w ∈ lw_tbl, w.before args s = true) : ∃ (D : va_G) (aC : Nat → Nat), va_K D vwCl (m_tys aC) s := by
  have htT : ∀ w ∈ lw_T, w.before args s = true := z_T hts
  have h1 : ∀ x : Nat, ∃ q : ClassId × (Nat → Nat), x < 13 → u_Kn s (m_cl x).1 (m_cl x).2.1 (m_cl x).2.2 q.1 q.2 := by
    intro x
    by_cases hx : x < 13
    · obtain ⟨cC, iS, h⟩ := u_known htT (F_in x hx) (hts _ (z_t (z_i1 x hx)))
      exact ⟨(cC, iS), fun _ => h⟩
    · exact ⟨(0, fun _ => 0), fun h => absurd h hx⟩
  have h2 : ∀ t : Nat, ∃ cA : ClassId, (t < 5 → ArrOfT s cA (m_el t) ∧ s.vm.findClass ("[" ++ (m_el t).toString) = some cA) ∧ (t = 5 → ArrOfT s cA (.object RX2) ∧ va_RA s cA (.object RX2)) ∧ (t = 6 → ArrOfT s cA (.array .int) ∧ va_RA s cA (.array .int)) := by
    intro t
    by_cases ht : t < 5
    · obtain ⟨cA, h⟩ := z_arr (hts _ (z_t (z_a1 t ht)))
      exact ⟨cA, fun _ => h, fun e => by omega, fun e => by omega⟩
    · by_cases h6 : t = 6
      · obtain ⟨cA, h⟩ := z_ari (hts _ (z_t z_a3))
        exact ⟨cA, fun e => absurd e ht, fun e => by omega, fun _ => h⟩
      · obtain ⟨cA, h⟩ := z_aro (hts _ (z_t z_a2))
        exact ⟨cA, fun e => absurd e ht, fun _ => h, fun e => absurd e h6⟩
  obtain ⟨f, hf⟩ := Classical.axiomOfChoice h1
  obtain ⟨g, hg⟩ := Classical.axiomOfChoice h2
  refine ⟨(fun x => (f x).1, fun x => (f x).2), g, fun c q hq => ?_, fun k q hk => ?_⟩
  · have hc : c < 13 := (List.getElem?_eq_some_iff.mp hq).1
    have e : m_cl c = q := by rw [m_cl, List.getD_eq_getElem?_getD, hq]; rfl
    rw [← e]
    exact hf c hc
  · have hk6 : k < 7 := (List.getElem?_eq_some_iff.mp hk).1
    match k, hk with
    | 0, hk => cases hk; exact (hg 0).1 (by omega)
    | 1, hk => cases hk; exact (hg 1).1 (by omega)
    | 2, hk => cases hk; exact (hg 2).1 (by omega)
    | 3, hk => cases hk; exact (hg 3).1 (by omega)
    | 4, hk => cases hk; exact (hg 4).1 (by omega)
    | 5, hk => cases hk; exact (hg 5).2.1 rfl
    | 6, hk => cases hk; exact (hg 6).2.2 rfl
theorem z_sq {j : Nat} {q : String × Nat × String} (h : m_str[j]? = some q) : j < 16 ∧ z_str j = q :=
  ⟨(List.getElem?_eq_some_iff.mp h).1, by rw [z_str, List.getD_eq_getElem?_getD, h]; rfl⟩
theorem z_tq {j : Nat} {q : String × Nat × String} (h : m_thr[j]? = some q) : j < 21 ∧ z_thr j = q :=
  ⟨(List.getElem?_eq_some_iff.mp h).1, by rw [z_thr, List.getD_eq_getElem?_getD, h]; rfl⟩
theorem z_ex {s : State} {args : Array Value} {t : Term} {nm : String} (h : (Cond.exactly t nm).before args s = true) : ∃ a : Nat, t.eval args s none [] s = some (.ref a) := by
  obtain ⟨a, c, cA, kA, q1, -⟩ := Cond.exactly_spec (args := args) (first := s) (o := none) (s := s) (idx := []) (t := t) (cls := nm) h
  exact ⟨a, q1⟩
theorem z_RO {s : State} {args : Array Value} (b : Nat) (hts : ∀ w ∈ lw_tbl, w.before args s = true) (hgv : (Jvm.Cond.and given_1 narrow_1).before args s = true) : ∃ xa : Nat → Nat, xa 0 = b ∧ RO s.heap.size xa s s.heap := by
  have hA : ∀ a : Nat, a < s.heap.size → ¬ aA s.heap.size a := fun a h q => by have q : s.heap.size ≤ a := q; omega
  obtain ⟨t, ht, hT⟩ := va_Tof (N := 17) (f := fun j => .long (pw10 j)) (A := aA s.heap.size) (by decide) (z_g hgv z_p1.1) (va_eqt (z_g hgv z_p1.2)) (fun j hj => va_eqtl (z_g hgv (z_p2 j hj))) hA
  obtain ⟨d1, hd1, hD1⟩ := va_Tof (N := 100) (f := fun j => .int (dgO j)) (A := aA s.heap.size) (by decide) (z_g hgv z_d1.1) (va_eqt (z_g hgv z_d1.2)) (fun j hj => va_eqt (z_g hgv (z_d3 j hj))) hA
  obtain ⟨d2, hd2, hD2⟩ := va_Tof (N := 100) (f := fun j => .int (dgT j)) (A := aA s.heap.size) (by decide) (z_g hgv z_d2.1) (va_eqt (z_g hgv z_d2.2)) (fun j hj => va_eqt (z_g hgv (z_d4 j hj))) hA
  have hsi := va_Zqof (A := aA s.heap.size) (hts _ (z_t z_l4.1)) (hts _ (z_t z_l4.2)) (z_g hgv z_r1.2.2.1) hA
  obtain ⟨sf, hsf⟩ : ∃ sf : Nat, va_Z "jdk/internal/util/Preconditions" "SIOOBE_FORMATTER" "Ljava/util/function/BiFunction;" .null (aA s.heap.size) s s.heap ∨ va_Z "jdk/internal/util/Preconditions" "SIOOBE_FORMATTER" "Ljava/util/function/BiFunction;" (.ref sf) (aA s.heap.size) s s.heap := by
    rcases hsi with q | ⟨r, q⟩
    · exact ⟨0, Or.inl q⟩
    · exact ⟨r, Or.inr q⟩
  have hs : ∀ j : Nat, ∃ a : Nat × Nat, j < 16 → vk_R (z_str j).1 (z_str j).2.1 (z_str j).2.2 a.1 s ∧ va_O "java/lang/String" a.1 (aA s.heap.size) s s.heap ∧ va_OF "java/lang/String" "coder" "B" (.int 0) a.1 (aA s.heap.size) s s.heap ∧ va_OF "java/lang/String" "value" "[B" (.ref a.2) a.1 (aA s.heap.size) s s.heap ∧ va_T .byte a.2 (s_len j) (fun i => .int (s_ch j i)) (aA s.heap.size) s s.heap := by
    intro j
    by_cases hj : j < 16
    · obtain ⟨k1, k2, k3, k4⟩ := z_s2 j hj
      obtain ⟨k5, k6⟩ := z_s3 j hj
      obtain ⟨a, ha⟩ := z_ex (z_g hgv k1)
      obtain ⟨v, hv, hV⟩ := va_Tof (f := fun i => .int (s_ch j i)) (A := aA s.heap.size) k5 (z_g hgv k3) (va_eqt (z_g hgv k4)) (fun i hi => va_eqt (z_g hgv (k6 i hi))) hA
      exact ⟨(a, v), fun _ => ⟨vk_R.of (hts _ (z_t (z_s1 j hj))) ha, va_Oof (z_g hgv k1) ha hA, vk_OFof ha (va_eqt (z_g hgv k2)) hA, vk_OFof ha hv hA, hV⟩⟩
    · exact ⟨(0, 0), fun h => absurd h hj⟩
  obtain ⟨ad, had⟩ := Classical.axiomOfChoice hs
  obtain ⟨xa, hxa⟩ : ∃ xa : Nat → Nat, xa = fun i => if i = 0 then b else if i = 1 then t else if i = 40 then d1 else if i = 41 then d2 else if i = 42 then sf else if i < 18 then (ad (i - 2)).1 else (ad (i - 52)).2 := ⟨_, rfl⟩
  have x0 : xa 0 = b := by rw [hxa]; rfl
  have x1 : xa 1 = t := by rw [hxa]; rfl
  have x40 : xa 40 = d1 := by rw [hxa]; rfl
  have x41 : xa 41 = d2 := by rw [hxa]; rfl
  have x42 : xa 42 = sf := by rw [hxa]; rfl
  have xs : ∀ j, j < 16 → xa (2 + j) = (ad j).1 ∧ xa (52 + j) = (ad j).2 := by
    intro j hj
    rw [hxa]
    simp only
    rw [if_neg (by omega), if_neg (by omega), if_neg (by omega), if_neg (by omega), if_neg (by omega), if_pos (by omega), if_neg (by omega), if_neg (by omega), if_neg (by omega), if_neg (by omega), if_neg (by omega), if_neg (by omega), Nat.add_sub_cancel_left, Nat.add_sub_cancel_left]
    exact ⟨rfl, rfl⟩
  clear hxa
  refine ⟨xa, x0, ?_, by rw [x1]; exact hT, fun j q hj => ?_, fun j q hj => ?_, ⟨?_, ?_⟩, fun j q hj => ?_, ⟨?_, hsi⟩, fun i j hi hj hij => ?_, fun w hw => va_Nw.of (isN_on (List.mem_filter.mp hw).2) (hts w (List.mem_filter.mp hw).1), va_AO.of (hts _ (z_t z_a2)), ?_, fun j q hj => ?_, ⟨?_, by rw [x40]; exact hD1⟩, ⟨?_, by rw [x41]; exact hD2⟩, by rw [x42]; exact hsf⟩
  · rw [x1]; exact va_Zof (hts _ (z_t z_l1.1)) (hts _ (z_t z_l1.2)) ht hA
  · obtain ⟨h1, rfl⟩ := z_sq hj
    rw [(xs j h1).1]; exact (had j h1).1
  · obtain ⟨h1, rfl⟩ := z_tq hj
    obtain ⟨a, ha⟩ := z_ex (z_g hgv (z_t2 j h1))
    exact ⟨a, vk_R.of (hts _ (z_t (z_t1 j h1))) ha⟩
  · exact vx_Zqof (hts _ (z_t z_l2.1)) (hts _ (z_t z_l2.2.2)) (z_g hgv z_r1.1) hA
  · exact vx_Zqof (hts _ (z_t z_l2.2.1)) (hts _ (z_t z_l2.2.2)) (z_g hgv z_r1.2.1) hA
  · obtain ⟨h1, rfl⟩ := z_sq hj
    rw [(xs j h1).1]
    exact ⟨(ad j).2, (had j h1).2⟩
  · exact va_Zof (hts _ (z_t z_l3.1)) (hts _ (z_t z_l3.2)) (va_eqi (z_g hgv z_r1.2.2.2)) hA
  · have j0 : j = 0 := by omega
    subst j0
    exact va_Nc.of (z_g hgv (z_c1 i hi hij))
  · exact hts _ (z_t z_a3)
  · obtain ⟨h1, rfl⟩ := z_sq hj
    rw [(xs j h1).1, (xs j h1).2]
    exact (had j h1).2.2.2
  · rw [x40]; exact va_Zof (hts _ (z_t z_d5.1)) (hts _ (z_t z_d5.2.2)) hd1 hA
  · rw [x41]; exact va_Zof (hts _ (z_t z_d5.2.1)) (hts _ (z_t z_d5.2.2)) hd2 hA
