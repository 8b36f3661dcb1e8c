/-! what the real heap holds of a pure world -/
def sgm (ba : Nat) (xa : Nat → Nat) (i : Nat) : Nat := if i < 100 then xa i else ba + (i - 100)
def trv (ba : Nat) (xa : Nat → Nat) : Value → Value
  | .ref i => .ref (sgm ba xa i)
  | v => v
def fld (ba : Nat) (xa : Nat → Nat) (w : mW) (c a j : Nat) : Value := match m_ty c j with
  | .long => .long (w_J w a j)
  | .object _ => va_rf ((w_R w a j).map (sgm ba xa))
  | .array _ => va_rf ((w_R w a j).map (sgm ba xa))
  | _ => .int (w_I w a j)
def flds (ba : Nat) (xa : Nat → Nat) (w : mW) (c a : Nat) : List Value := (List.range (m_cl c).2.2).map (fld ba xa w c a)
def arc (ba : Nat) (xa : Nat → Nat) (w : mW) (t a : Nat) : (Nat → Int32) ⊕ (Nat → Int64) ⊕ (Nat → UInt32) ⊕ (Nat → UInt64) ⊕ (Nat → Option Nat) :=
  if t = 5 then .inr (.inl (w_J w a)) else if t = 6 then .inr (.inr (.inr (.inr (fun i => (w_R w a i).map (sgm ba xa))))) else .inl (w_I w a)
def cel (ba : Nat) (xa aC : Nat → Nat) (w : mW) (a : Nat) : va_E :=
  if (w_sh w a).1 = 0 then .inr ((w_sh w a).2, flds ba xa w (w_sh w a).2 a) else .inl (aC ((w_sh w a).1 - 1), (w_sh w a).2, arc ba xa w (w_sh w a).1 a)
def wld (ba : Nat) (xa aC : Nat → Nat) (w : mW) : va_W := (List.range (w_n w)).map (fun i => (ba + i, cel ba xa aC w (100 + i)))
abbrev aA (ba : Nat) : Nat → Prop := fun q => ba ≤ q
/-- what lies below and never changes -/
def RO (ba : Nat) (xa : Nat → Nat) (U : State) (H : Heap) : Prop :=
  va_Z "CrankCalculator" "POWERS_OF_TEN" "[J" (.ref (xa 1)) (aA ba) U H ∧ va_T .long (xa 1) 17 (fun j => .long (pw10 j)) (aA ba) U H ∧
  (∀ (j : Nat) (q : String × Nat × String), m_str[j]? = some q → vk_R q.1 q.2.1 q.2.2 (xa (2 + j)) U) ∧
  (∀ (j : Nat) (q : String × Nat × String), m_thr[j]? = some q → ∃ a : Nat, vk_R q.1 q.2.1 q.2.2 a U) ∧
  (vx_Zq Bundle.tN "UNASSIGNED_STACK" Bundle.steD (aA ba) U H ∧ vx_Zq Bundle.tN "SUPPRESSED_SENTINEL" Bundle.listD (aA ba) U H) ∧
  (∀ (j : Nat) (q : String × Nat × String), m_str[j]? = some q → ∃ v : Nat, va_O "java/lang/String" (xa (2 + j)) (aA ba) U H ∧ va_OF "java/lang/String" "coder" "B" (.int 0) (xa (2 + j)) (aA ba) U H ∧ va_OF "java/lang/String" "value" "[B" (.ref v) (xa (2 + j)) (aA ba) U H ∧ va_T .byte v (s_len j) (fun i => .int (s_ch j i)) (aA ba) U H) ∧
  (va_Z "java/lang/String" "COMPACT_STRINGS" "Z" (.int 1) (aA ba) U H ∧ va_Zq "jdk/internal/util/Preconditions" "SIOOBE_FORMATTER" "Ljava/util/function/BiFunction;" (aA ba) U H) ∧
  (∀ i j : Nat, i < 4 → j < 4 → i ≠ j → va_Nc (m_E i) (m_E j) U) ∧ (∀ w ∈ lw_N, va_Nw w U) ∧ va_AO RX2 U
theorem RO.kept {ba : Nat} {xa : Nat → Nat} {U : State} {H H1 : Heap} (h : RO ba xa U H) (hq : ∀ a : Nat, a < H.size → ¬ aA ba a → H1[a]? = H[a]?) : RO ba xa U H1 := by
  obtain ⟨h1, h2, h3, h4, ⟨h5, h6⟩, h7, ⟨h8, h9⟩, h10, h11, h12⟩ := h
  refine ⟨h1.kept hq, h2.kept hq, h3, h4, ⟨h5.kept hq, h6.kept hq⟩, fun j q hj => ?_, ⟨h8.kept hq, h9.kept hq⟩, h10, h11, h12⟩
  obtain ⟨v, a1, a2, a3, a4⟩ := h7 j q hj
  exact ⟨v, a1.kept hq, a2.kept hq, a3.kept hq, a4.kept hq⟩
theorem RO.warm {ba : Nat} {xa : Nat → Nat} {s U : State} {H : Heap} (h : RO ba xa s H) (hW : s.WarmedH U.vm) : RO ba xa U H := by
  have hv : s.vm.Alike U.vm := hW.alike
  obtain ⟨h1, h2, h3, h4, ⟨h5, h6⟩, h7, ⟨h8, h9⟩, h10, h11, h12⟩ := h
  refine ⟨h1.moved hv, h2.moved hv, fun j q hj => (h3 j q hj).warm hW, fun j q hj => ?_, ⟨h5.moved hv, h6.moved hv⟩, fun j q hj => ?_, ⟨h8.moved hv, h9.moved hv⟩, fun i j a b c => (h10 i j a b c).moved hv, fun w hw => isN_warm (List.mem_filter.mp hw).2 hW (h11 w hw), h12.moved hv⟩
  · obtain ⟨a, ha⟩ := h4 j q hj
    exact ⟨a, ha.warm hW⟩
  · obtain ⟨v, a1, a2, a3, a4⟩ := h7 j q hj
    exact ⟨v, a1.moved hv, a2.moved hv, a3.moved hv, a4.moved hv⟩
theorem RO.same {ba : Nat} {xa : Nat → Nat} {s U : State} {H : Heap} (h : RO ba xa s H) (hv : U.vm = s.vm) : RO ba xa U H := by
  have hW : s.vm.Alike U.vm := by rw [hv]; exact Vm.Alike.refl s.vm
  obtain ⟨h1, h2, h3, h4, ⟨h5, h6⟩, h7, ⟨h8, h9⟩, h10, h11, h12⟩ := h
  refine ⟨h1.moved hW, h2.moved hW, fun j q hj => (h3 j q hj).same hv, fun j q hj => ?_, ⟨h5.moved hW, h6.moved hW⟩, fun j q hj => ?_, ⟨h8.moved hW, h9.moved hW⟩, fun i j a b c => (h10 i j a b c).moved hW, fun w hw => (h11 w hw).same (isN_on (List.mem_filter.mp hw).2) hv.symm, h12.moved hW⟩
  · obtain ⟨a, ha⟩ := h4 j q hj
    exact ⟨a, ha.same hv⟩
  · obtain ⟨v, a1, a2, a3, a4⟩ := h7 j q hj
    exact ⟨v, a1.moved hW, a2.moved hW, a3.moved hW, a4.moved hW⟩
/-- the heap H holds the world w -/
def Sim (ba : Nat) (xa aC : Nat → Nat) (D : va_G) (w : mW) (s : State) (H : Heap) : Prop :=
  va_P D vwCl (wld ba xa aC w) H ∧ (∀ a, a < 100 → 50 ≤ (w_sh w a).1) ∧ (∀ a, 100 + w_n w ≤ a → 50 ≤ (w_sh w a).1) ∧ ba + w_n w ≤ H.size ∧
  ((w_sh w 0).1 = 50 ∧ ∀ a, (w_sh w a).1 = 50 → a = 0) ∧ va_X (xa 0) (w_sh w 0).2 (w_I w 0) s H ∧ (w_sh w 0).2 < 2 ^ 31 ∧ xa 0 < ba
theorem wld_len {ba : Nat} {xa aC : Nat → Nat} {w : mW} : (wld ba xa aC w).length = w_n w := by simp [wld]
theorem wld_at {ba : Nat} {xa aC : Nat → Nat} {w : mW} {a : Nat} (h1 : 100 ≤ a) (h2 : a < 100 + w_n w) : (wld ba xa aC w)[a - 100]? = some (sgm ba xa a, cel ba xa aC w a) := by
  have h3 : a - 100 < w_n w := by omega
  have h4 : 100 + (a - 100) = a := by omega
  simp [wld, h3, h4, sgm, Nat.not_lt.mpr h1]
theorem wld_D {ba : Nat} {xa aC : Nat → Nat} {w : mW} : va_D (aA ba) (wld ba xa aC w) := by
  have key : ∀ (k : Nat) (q : Nat × va_E), (wld ba xa aC w)[k]? = some q → q.1 = ba + k := by
    intro k q h
    simp only [wld, List.getElem?_map, Option.map_eq_some_iff] at h
    obtain ⟨i, h1, rfl⟩ := h
    have h2 := List.getElem?_eq_some_iff.mp h1
    obtain ⟨h3, h4⟩ := h2
    simp at h4
    simp [h4]
  refine ⟨fun i j p q hp hq h => ?_, fun k q h => ?_⟩
  · have := key i p hp; have := key j q hq; omega
  · have := key k q h
    show ba ≤ q.1
    omega
/-- one cell changes -/
theorem wld_set {ba : Nat} {xa aC : Nat → Nat} {w w' : mW} {a : Nat} (hn : w_n w' = w_n w) (h1 : 100 ≤ a) (h : ∀ b, b ≠ a → cel ba xa aC w' b = cel ba xa aC w b) :
    wld ba xa aC w' = (wld ba xa aC w).set (a - 100) (sgm ba xa a, cel ba xa aC w' a) := by
  apply List.ext_getElem?
  intro i
  rw [List.getElem?_set]
  by_cases hi : i < w_n w
  · by_cases hia : a - 100 = i
    · subst hia
      have e1 := wld_at (ba := ba) (xa := xa) (aC := aC) (w := w') h1 (by rw [hn]; omega)
      simp only [e1, if_true, wld_len]
      simp [hi]
    · have e1 := wld_at (ba := ba) (xa := xa) (aC := aC) (w := w') (a := 100 + i) (by omega) (by omega)
      have e2 := wld_at (ba := ba) (xa := xa) (aC := aC) (w := w) (a := 100 + i) (by omega) (by omega)
      rw [Nat.add_sub_cancel_left] at e1 e2
      rw [e1, if_neg hia, e2, h (100 + i) (by omega)]
  · have e1 : (wld ba xa aC w')[i]? = none := by rw [List.getElem?_eq_none_iff, wld_len]; omega
    have e2 : (wld ba xa aC w)[i]? = none := by rw [List.getElem?_eq_none_iff, wld_len]; omega
    rw [e1, e2]
    by_cases hia : a - 100 = i
    · rw [if_pos hia, wld_len, if_neg (by omega)]
    · rw [if_neg hia]
/-- the world behind a change of one cell -/
theorem Sim.put {ba : Nat} {xa aC : Nat → Nat} {D : va_G} {w w' : mW} {s : State} {H H1 : Heap} {a : Nat} {e : va_E} (hM : Sim ba xa aC D w s H) (h1 : 100 ≤ a) (hsh : w_sh w' = w_sh w) (hn : w_n w' = w_n w) (hI : w_I w' 0 = w_I w 0)
    (hc : ∀ b, b ≠ a → cel ba xa aC w' b = cel ba xa aC w b) (he : cel ba xa aC w' a = e) (hP : va_P D vwCl ((wld ba xa aC w).set (a - 100) (sgm ba xa a, e)) H1) (hz : H.size ≤ H1.size) (hk : ∀ q : Nat, q < ba → H1[q]? = H[q]?) : Sim ba xa aC D w' s H1 := by
  obtain ⟨-, m2, m3, m4, m6, m7, m8, m9⟩ := hM
  refine ⟨?_, by rw [hsh]; exact m2, by rw [hsh, hn]; exact m3, by rw [hn]; exact Nat.le_trans m4 hz, by rw [hsh]; exact m6, ?_, by rw [hsh]; exact m8, m9⟩
  · rw [wld_set hn h1 hc, he]; exact hP
  · rw [hsh, hI]
    exact m7.kept (hk _ m9)
theorem asc_mem : ∀ (L : List Value) (i j : Nat) (v : Value), (j, v) ∈ asc i L ↔ ∃ n, j = i + n ∧ L[n]? = some v ∧ v ≠ .null
  | [], i, j, v => by simp [asc]
  | a :: L, i, j, v => by
    have ih := asc_mem L (i + 1) j v
    by_cases ha : a = .null
    · rw [asc, if_pos ha, ih]
      constructor
      · rintro ⟨n, h1, h2, h3⟩
        exact ⟨n + 1, by omega, by simpa using h2, h3⟩
      · rintro ⟨n, h1, h2, h3⟩
        cases n with
        | zero => simp at h2; subst h2; exact absurd ha h3
        | succ n => exact ⟨n, by omega, by simpa using h2, h3⟩
    · rw [asc, if_neg ha, List.mem_cons, ih]
      constructor
      · rintro (h | ⟨n, h1, h2, h3⟩)
        · cases h
          exact ⟨0, by omega, by simp, ha⟩
        · exact ⟨n + 1, by omega, by simpa using h2, h3⟩
      · rintro ⟨n, h1, h2, h3⟩
        cases n with
        | zero => simp at h2; subst h2; left; simp [h1]
        | succ n => exact Or.inr ⟨n, by omega, by simpa using h2, h3⟩
theorem lgt_get : ∀ (L : List Value) (n : Nat) (v : Value), lgt L n = v → v ≠ .null → L[n]? = some v
  | [], n, v, h, hv => by cases n <;> exact absurd h.symm hv
  | a :: L, 0, v, h, hv => by simpa [lgt] using h
  | a :: L, n + 1, v, h, hv => by simpa using lgt_get L n v h hv
/-- the frame's locals hold L -/
def lrl (ba : Nat) (xa : Nat → Nat) (nL : Nat) (ls : Array Slot) (L : List Value) : Prop := lv_has ls nL ((asc 0 L).map fun q => (q.1, trv ba xa q.2)) ∧ L.length = nL
theorem lrl.at {ba nL : Nat} {xa : Nat → Nat} {ls : Array Slot} {L : List Value} (h : lrl ba xa nL ls L) {n : Nat} {v : Value} (hv : lgt L n = v) (h0 : v ≠ .null) : ls[n]? = some (.val (trv ba xa v)) := by
  have h1 := lgt_get L n v hv h0
  have h2 : (n, v) ∈ asc 0 L := (asc_mem L 0 n v).mpr ⟨n, by omega, h1, h0⟩
  exact h.1.2.2 (n, trv ba xa v) (List.mem_map.mpr ⟨(n, v), h2, rfl⟩)
theorem lv_mono {ls : Array Slot} {nL : Nat} {l l' : List (Nat × Value)} (h : lv_has ls nL l) (hs : ∀ q ∈ l', q ∈ l) : lv_has ls nL l' := ⟨h.1, h.2.1, fun q hq => h.2.2 q (hs q hq)⟩
/-- weaker locals -/
theorem lrl.le {ba nL : Nat} {xa : Nat → Nat} {ls : Array Slot} {L L' : List Value} (h : lrl ba xa nL ls L) (hl : L'.length = L.length) (hs : ∀ (n : Nat) (v : Value), L'[n]? = some v → v ≠ .null → L[n]? = some v) : lrl ba xa nL ls L' := by
  refine ⟨lv_mono h.1 fun q hq => ?_, by rw [hl]; exact h.2⟩
  obtain ⟨⟨j, v⟩, h1, rfl⟩ := List.mem_map.mp hq
  obtain ⟨n, h2, h3, h4⟩ := (asc_mem L' 0 j v).mp h1
  exact List.mem_map.mpr ⟨(j, v), (asc_mem L 0 j v).mpr ⟨n, h2, hs n v h3 h4, h4⟩, rfl⟩
theorem trv_c2 {ba : Nat} {xa : Nat → Nat} (v : Value) : (trv ba xa v).category = v.category := by cases v <;> rfl
theorem trv_nn {ba : Nat} {xa : Nat → Nat} (v : Value) : trv ba xa v = .null ↔ v = .null := by cases v <;> simp [trv]
theorem c2_cat (v : Value) : v_c2 v = true ↔ v.category = 2 := by cases v <;> simp [v_c2, Value.category]
theorem lpu_len : ∀ (L : List Value) (n : Nat) (v : Value), (lpu L n v).length = L.length
  | [], n, v => by cases n <;> rfl
  | a :: L, 0, v => rfl
  | a :: L, 1, v => by cases L <;> rfl
  | a :: L, n + 2, v => by simp [lpu, lpu_len L (n + 1) v]
/-- what lies where behind a store -/
theorem lpu_at : ∀ (L : List Value) (n : Nat) (v : Value) (j : Nat) (x : Value), (lpu L n v)[j]? = some x → x ≠ .null → (j = n ∧ x = v) ∨ (j ≠ n ∧ L[j]? = some x ∧ ¬ (j + 1 = n ∧ x.category = 2))
  | [], n, v, j, x, h, _ => by cases n <;> simp [lpu] at h
  | a :: L, 0, v, j, x, h, _ => by
    cases j with
    | zero => left; simp [lpu] at h; exact ⟨rfl, h.symm⟩
    | succ j => right; simp [lpu] at h; exact ⟨by omega, by simpa using h, by omega⟩
  | a :: L, 1, v, j, x, h, h0 => by
    cases j with
    | zero =>
      right
      simp only [lpu, List.getElem?_cons_zero, Option.some.injEq] at h
      by_cases hc : v_c2 a = true
      · rw [if_pos hc] at h; exact absurd h.symm h0
      · rw [if_neg hc] at h; subst h
        exact ⟨by omega, by simp, fun q => hc ((c2_cat a).mpr q.2)⟩
    | succ j =>
      cases L with
      | nil => simp [lpu] at h
      | cons b L =>
        simp only [lpu, List.getElem?_cons_succ] at h
        cases j with
        | zero => left; simp at h; exact ⟨rfl, h.symm⟩
        | succ j => right; exact ⟨by omega, by simpa using h, by omega⟩
  | a :: L, n + 2, v, j, x, h, h0 => by
    cases j with
    | zero => right; simp [lpu] at h; subst h; exact ⟨by omega, by simp, by omega⟩
    | succ j =>
      simp only [lpu, List.getElem?_cons_succ] at h
      rcases lpu_at L (n + 1) v j x h h0 with ⟨h1, h2⟩ | ⟨h1, h2, h3⟩
      · left; exact ⟨by omega, h2⟩
      · right; exact ⟨by omega, by simpa using h2, fun q => h3 ⟨by omega, q.2⟩⟩
theorem lrl.put {ba nL : Nat} {xa : Nat → Nat} {ls ls' : Array Slot} {L : List Value} {n : Nat} {v : Value} (h : lrl ba xa nL ls L) (h' : lv_has ls' nL ((n, trv ba xa v) :: ((asc 0 L).map fun q => (q.1, trv ba xa q.2)).filter (fun q => !(q.1 == n) && !(q.1 + 1 == n && q.2.category == 2)))) : lrl ba xa nL ls' (lpu L n v) := by
  refine ⟨lv_mono h' fun q hq => ?_, by rw [lpu_len]; exact h.2⟩
  obtain ⟨⟨j, x⟩, h1, rfl⟩ := List.mem_map.mp hq
  obtain ⟨i, h2, h3, h4⟩ := (asc_mem _ 0 j x).mp h1
  have hij : i = j := by omega
  subst hij
  rcases lpu_at L n v i x h3 h4 with ⟨e1, e2⟩ | ⟨e1, e2, e3⟩
  · subst e1; subst e2; exact List.mem_cons_self
  · refine List.mem_cons_of_mem _ (List.mem_filter.mpr ⟨List.mem_map.mpr ⟨(i, x), (asc_mem L 0 i x).mpr ⟨i, by omega, e2, h4⟩, rfl⟩, ?_⟩)
    simp only [trv_c2]
    simp only [Bool.and_eq_true, Bool.not_eq_true', beq_eq_false_iff_ne, Bool.and_eq_false_iff, ne_eq]
    refine ⟨e1, ?_⟩
    by_cases h5 : i + 1 = n
    · right; exact fun q => e3 ⟨h5, q⟩
    · left; exact h5
theorem lrl.putw {ba nL : Nat} {xa : Nat → Nat} {ls ls' : Array Slot} {L : List Value} {n : Nat} {v : Value} (h : lrl ba xa nL ls L) (h' : lv_has ls' nL ((n, trv ba xa v) :: ((asc 0 L).map fun q => (q.1, trv ba xa q.2)).filter (fun q => !(q.1 == n) && (!(q.1 == n + 1) && !(q.1 + 1 == n && q.2.category == 2))))) : lrl ba xa nL ls' (lpw L n v) := by
  refine ⟨lv_mono h' fun q hq => ?_, by rw [lpw, lpu_len, lpu_len]; exact h.2⟩
  obtain ⟨⟨j, x⟩, h1, rfl⟩ := List.mem_map.mp hq
  obtain ⟨i, h2, h3, h4⟩ := (asc_mem _ 0 j x).mp h1
  have hij : i = j := by omega
  subst hij
  rcases lpu_at _ n v i x h3 h4 with ⟨e1, e2⟩ | ⟨e1, e2, e3⟩
  · subst e1; subst e2; exact List.mem_cons_self
  · rcases lpu_at L (n + 1) .null i x e2 h4 with ⟨f1, f2⟩ | ⟨f1, f2, f3⟩
    · exact absurd f2 h4
    · refine List.mem_cons_of_mem _ (List.mem_filter.mpr ⟨List.mem_map.mpr ⟨(i, x), (asc_mem L 0 i x).mpr ⟨i, by omega, f2, h4⟩, rfl⟩, ?_⟩)
      simp only [trv_c2]
      simp only [Bool.and_eq_true, Bool.not_eq_true', beq_eq_false_iff_ne, Bool.and_eq_false_iff, ne_eq]
      refine ⟨e1, f1, ?_⟩
      by_cases h5 : i + 1 = n
      · right; exact fun q => e3 ⟨h5, q⟩
      · left; exact h5
