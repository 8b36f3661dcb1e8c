/-! arrays of arrays, and string constants by a wide index: rows of my own -/
theorem AI_spec {args : Array Value} {s : State} {t : FieldType} (h : (Cond.arrayOver (.array t)).before args s = true) :
    ∃ comp c k, s.vm.findClass (FieldType.array t).toString = some comp ∧ (s.vm.classes.findIdx? fun x => match x.kind with | .array component _ => component == comp | _ => false) = some c ∧ s.vm.classes[c]? = some k ∧ k.kind = .array comp (.array t) ∧ s.vm.findClass ("[" ++ (FieldType.array t).toString) = some c := by
  have h' : (Cond.arrayOver (.array t)).holds args s none s [] = true := h
  simp only [Cond.holds, Cond.value, beq_iff_eq] at h'
  cases hc : s.vm.findClass (FieldType.array t).toString with
  | none => simp [hc] at h'
  | some comp =>
    simp only [hc, Option.bind_some, Option.bind_eq_some_iff, Option.map_eq_some_iff] at h'
    obtain ⟨c, hi, k, hk, hb⟩ := h'
    obtain ⟨hlt, hp, -⟩ := Array.findIdx?_eq_some_iff_getElem.mp hi
    have hkk : s.vm.classes[c] = k := (Array.getElem?_eq_some_iff.mp hk).2
    rw [hkk] at hp
    cases hkind : k.kind with
    | array component ty =>
      rw [hkind] at hb hp
      simp at hb hp
      exact ⟨comp, c, k, rfl, hi, hk, by rw [hkind, hp, hb.1], hb.2⟩
    | _ => rw [hkind] at hb; simp at hb
theorem AI_moved {u U : State} {t : FieldType} (hvm : u.vm.Alike U.vm) (h : (Cond.arrayOver (.array t)).before #[] u = true) : (Cond.arrayOver (.array t)).before #[] U = true := by
  obtain ⟨comp, c, k, h1, h2, h3, h4, h5⟩ := AI_spec h
  obtain ⟨k', hk', he⟩ := hvm.2.2 _ _ h3
  have hi : (U.vm.classes.findIdx? fun (x : Class) => match x.kind with | .array component _ => component == comp | _ => false) = some c := by
    have e1 := va_idx_bare U.vm comp
    have e2 := va_idx_bare u.vm comp
    have e3 : U.vm.bare = u.vm.bare := by first | exact hvm.bare_eq | exact hvm.bare_eq.symm
    rw [e3] at e1
    exact e1.symm.trans (e2.trans h2)
  have hkind : k'.kind = .array comp (.array t) := by rw [he]; exact h4
  have f1 : U.vm.findClass (FieldType.array t).toString = some comp := by rw [hvm.findClass]; exact h1
  have f2 : U.vm.findClass ("[" ++ (FieldType.array t).toString) = some c := by rw [hvm.findClass]; exact h5
  unfold Cond.before Cond.holds
  simp only [Cond.value]
  rw [f1, Option.bind_some]
  refine (congrArg (fun o : Option Nat => (o.bind (fun c => (U.vm.classes[c]?).map fun (k : Class) => match k.kind with | .array _ ty => decide (ty = FieldType.array t) && decide (U.vm.findClass ("[" ++ (FieldType.array t).toString) = some c) | _ => false) == some true)) hi).trans ?_
  simp [hk', hkind, f2]
/-! what the real heap holds of a pure world -/
def sgm (ba : Nat) (xa : Nat → Nat) (i : Nat) : Nat := if i < 100 then xa i else ba + (i - 100)
def trv (ba : Nat) (xa : Nat → Nat) : Value → Value
  | .ref i => .ref (sgm ba xa i)
  | v => v
def fld (ba : Nat) (xa : Nat → Nat) (w : mW) (c a j : Nat) : Value := match m_ty c j with
  | .long => .long (w_J w a j)
  | .object _ => va_rf ((w_R w a j).map (sgm ba xa))
  | .array _ => va_rf ((w_R w a j).map (sgm ba xa))
  | _ => .int (w_I w a j)
def flds (ba : Nat) (xa : Nat → Nat) (w : mW) (c a : Nat) : List Value := (List.range (m_cl c).2.2).map (fld ba xa w c a)
def arc (ba : Nat) (xa : Nat → Nat) (w : mW) (t a : Nat) : (Nat → Int32) ⊕ (Nat → Int64) ⊕ (Nat → UInt32) ⊕ (Nat → UInt64) ⊕ (Nat → Option Nat) :=
  if t = 5 then .inr (.inl (w_J w a)) else if t = 6 ∨ t = 7 then .inr (.inr (.inr (.inr (fun i => (w_R w a i).map (sgm ba xa))))) else .inl (w_I w a)
def cel (ba : Nat) (xa aC : Nat → Nat) (w : mW) (a : Nat) : va_E :=
  if (w_sh w a).1 = 0 then .inr ((w_sh w a).2, flds ba xa w (w_sh w a).2 a) else .inl (aC ((w_sh w a).1 - 1), (w_sh w a).2, arc ba xa w (w_sh w a).1 a)
/-- the places in use: others were passed over -/
def lv (w : mW) (i : Nat) : Bool := decide ((w_sh w (100 + i)).1 < 50)
def wls (w : mW) : List Nat := (List.range (w_n w)).filter (lv w)
def ix (w : mW) (a : Nat) : Nat := ((List.range (a - 100)).filter (lv w)).length
def wld (ba : Nat) (xa aC : Nat → Nat) (w : mW) : va_W := (wls w).map (fun i => (ba + i, cel ba xa aC w (100 + i)))
theorem flt_at {p : Nat → Bool} : ∀ (n i : Nat), i < n → p i = true → ((List.range n).filter p)[((List.range i).filter p).length]? = some i
  | 0, i, h, _ => absurd h (Nat.not_lt_zero i)
  | n + 1, i, h, hp => by
    rw [List.range_succ, List.filter_append]
    by_cases hi : i < n
    · have ih := flt_at n i hi hp
      rw [List.getElem?_append_left (List.getElem?_eq_some_iff.mp ih).1]
      exact ih
    · have e : i = n := by omega
      subst e
      rw [List.getElem?_append_right (Nat.le_refl _), Nat.sub_self]
      simp [List.filter, hp]
theorem flt_key {p : Nat → Bool} : ∀ (n k i : Nat), ((List.range n).filter p)[k]? = some i → i < n ∧ p i = true ∧ k = ((List.range i).filter p).length
  | 0, k, i, h => by simp at h
  | n + 1, k, i, h => by
    rw [List.range_succ, List.filter_append] at h
    by_cases hk : k < ((List.range n).filter p).length
    · rw [List.getElem?_append_left hk] at h
      obtain ⟨h1, h2, h3⟩ := flt_key n k i h
      exact ⟨by omega, h2, h3⟩
    · rw [List.getElem?_append_right (by omega)] at h
      by_cases hp : p n = true
      · have e : List.filter p [n] = [n] := by simp [List.filter, hp]
        rw [e] at h
        have hk0 : k - ((List.range n).filter p).length = 0 := by
          have := (List.getElem?_eq_some_iff.mp h).1
          simp at this; omega
        rw [hk0] at h
        simp at h
        subst h
        exact ⟨by omega, hp, by omega⟩
      · have e : List.filter p [n] = [] := by simp [List.filter, hp]
        rw [e] at h
        simp at h
abbrev aA (ba : Nat) : Nat → Prop := fun q => ba ≤ q
/-- digits of numbers under 100, as the tables have them -/
def dgO (i : Nat) : Int32 := Int32.ofNat (48 + i % 10)
def dgT (i : Nat) : Int32 := Int32.ofNat (48 + i / 10)
def va_AI (U : State) : Prop := (Cond.arrayOver (.array .int)).before #[] U = true
/-- what the library's own code reads below -/
def RO2 (ba : Nat) (xa : Nat → Nat) (U : State) (H : Heap) : Prop :=
  va_AI U ∧ (∀ (j : Nat) (q : String × Nat × String), m_str[j]? = some q → va_OF "java/lang/String" "value" "[B" (.ref (xa (52 + j))) (xa (2 + j)) (aA ba) U H ∧ va_T .byte (xa (52 + j)) (s_len j) (fun i => .int (s_ch j i)) (aA ba) U H) ∧
  (va_Z "java/lang/Integer" "DigitOnes" "[B" (.ref (xa 40)) (aA ba) U H ∧ va_T .byte (xa 40) 100 (fun i => .int (dgO i)) (aA ba) U H) ∧
  (va_Z "java/lang/Integer" "DigitTens" "[B" (.ref (xa 41)) (aA ba) U H ∧ va_T .byte (xa 41) 100 (fun i => .int (dgT i)) (aA ba) U H) ∧
  (va_Z "jdk/internal/util/Preconditions" "SIOOBE_FORMATTER" "Ljava/util/function/BiFunction;" .null (aA ba) U H ∨ va_Z "jdk/internal/util/Preconditions" "SIOOBE_FORMATTER" "Ljava/util/function/BiFunction;" (.ref (xa 42)) (aA ba) U H)
theorem va_AI.moved {u U : State} (hvm : u.vm.Alike U.vm) (h : va_AI u) : va_AI U := AI_moved hvm h
theorem RO2.kept {ba : Nat} {xa : Nat → Nat} {U : State} {H H1 : Heap} (h : RO2 ba xa U H) (hq : ∀ a : Nat, a < H.size → ¬ aA ba a → H1[a]? = H[a]?) : RO2 ba xa U H1 :=
  ⟨h.1, fun j q hj => ⟨(h.2.1 j q hj).1.kept hq, (h.2.1 j q hj).2.kept hq⟩, ⟨h.2.2.1.1.kept hq, h.2.2.1.2.kept hq⟩, ⟨h.2.2.2.1.1.kept hq, h.2.2.2.1.2.kept hq⟩, h.2.2.2.2.imp (fun g => g.kept hq) (fun g => g.kept hq)⟩
theorem RO2.moved {ba : Nat} {xa : Nat → Nat} {s U : State} {H : Heap} (h : RO2 ba xa s H) (hv : s.vm.Alike U.vm) : RO2 ba xa U H :=
  ⟨h.1.moved hv, fun j q hj => ⟨(h.2.1 j q hj).1.moved hv, (h.2.1 j q hj).2.moved hv⟩, ⟨h.2.2.1.1.moved hv, h.2.2.1.2.moved hv⟩, ⟨h.2.2.2.1.1.moved hv, h.2.2.2.1.2.moved hv⟩, h.2.2.2.2.imp (fun g => g.moved hv) (fun g => g.moved hv)⟩
/-- what lies below and never changes -/
def RO (ba : Nat) (xa : Nat → Nat) (U : State) (H : Heap) : Prop :=
  va_Z "CrankCalculator" "POWERS_OF_TEN" "[J" (.ref (xa 1)) (aA ba) U H ∧ va_T .long (xa 1) 17 (fun j => .long (pw10 j)) (aA ba) U H ∧
  (∀ (j : Nat) (q : String × Nat × String), m_str[j]? = some q → vk_R q.1 q.2.1 q.2.2 (xa (2 + j)) U) ∧
  (∀ (j : Nat) (q : String × Nat × String), m_thr[j]? = some q → ∃ a : Nat, vk_R q.1 q.2.1 q.2.2 a U) ∧
  (vx_Zq Bundle.tN "UNASSIGNED_STACK" Bundle.steD (aA ba) U H ∧ vx_Zq Bundle.tN "SUPPRESSED_SENTINEL" Bundle.listD (aA ba) U H) ∧
  (∀ (j : Nat) (q : String × Nat × String), m_str[j]? = some q → ∃ v : Nat, va_O "java/lang/String" (xa (2 + j)) (aA ba) U H ∧ va_OF "java/lang/String" "coder" "B" (.int 0) (xa (2 + j)) (aA ba) U H ∧ va_OF "java/lang/String" "value" "[B" (.ref v) (xa (2 + j)) (aA ba) U H ∧ va_T .byte v (s_len j) (fun i => .int (s_ch j i)) (aA ba) U H) ∧
  (va_Z "java/lang/String" "COMPACT_STRINGS" "Z" (.int 1) (aA ba) U H ∧ va_Zq "jdk/internal/util/Preconditions" "SIOOBE_FORMATTER" "Ljava/util/function/BiFunction;" (aA ba) U H) ∧
  (∀ i j : Nat, i < 4 → j < 1 → i ≠ j → va_Nc (m_E i) (m_E j) U) ∧ (∀ w ∈ lw_N, va_Nw w U) ∧ (va_AO RX2 U ∧ RO2 ba xa U H)
theorem RO.kept {ba : Nat} {xa : Nat → Nat} {U : State} {H H1 : Heap} (h : RO ba xa U H) (hq : ∀ a : Nat, a < H.size → ¬ aA ba a → H1[a]? = H[a]?) : RO ba xa U H1 := by
  obtain ⟨h1, h2, h3, h4, ⟨h5, h6⟩, h7, ⟨h8, h9⟩, h10, h11, h12, h13⟩ := h
  refine ⟨h1.kept hq, h2.kept hq, h3, h4, ⟨h5.kept hq, h6.kept hq⟩, fun j q hj => ?_, ⟨h8.kept hq, h9.kept hq⟩, h10, h11, h12, h13.kept hq⟩
  obtain ⟨v, a1, a2, a3, a4⟩ := h7 j q hj
  exact ⟨v, a1.kept hq, a2.kept hq, a3.kept hq, a4.kept hq⟩
theorem RO.warm {ba : Nat} {xa : Nat → Nat} {s U : State} {H : Heap} (h : RO ba xa s H) (hW : s.WarmedH U.vm) : RO ba xa U H := by
  have hv : s.vm.Alike U.vm := hW.alike
  obtain ⟨h1, h2, h3, h4, ⟨h5, h6⟩, h7, ⟨h8, h9⟩, h10, h11, h12, h13⟩ := h
  refine ⟨h1.moved hv, h2.moved hv, fun j q hj => (h3 j q hj).warm hW, fun j q hj => ?_, ⟨h5.moved hv, h6.moved hv⟩, fun j q hj => ?_, ⟨h8.moved hv, h9.moved hv⟩, fun i j a b c => (h10 i j a b c).moved hv, fun w hw => isN_warm (List.mem_filter.mp hw).2 hW (h11 w hw), h12.moved hv, h13.moved hv⟩
  · obtain ⟨a, ha⟩ := h4 j q hj
    exact ⟨a, ha.warm hW⟩
  · obtain ⟨v, a1, a2, a3, a4⟩ := h7 j q hj
    exact ⟨v, a1.moved hv, a2.moved hv, a3.moved hv, a4.moved hv⟩
theorem RO.same {ba : Nat} {xa : Nat → Nat} {s U : State} {H : Heap} (h : RO ba xa s H) (hv : U.vm = s.vm) : RO ba xa U H := by
  have hW : s.vm.Alike U.vm := by rw [hv]; exact Vm.Alike.refl s.vm
  obtain ⟨h1, h2, h3, h4, ⟨h5, h6⟩, h7, ⟨h8, h9⟩, h10, h11, h12, h13⟩ := h
  refine ⟨h1.moved hW, h2.moved hW, fun j q hj => (h3 j q hj).same hv, fun j q hj => ?_, ⟨h5.moved hW, h6.moved hW⟩, fun j q hj => ?_, ⟨h8.moved hW, h9.moved hW⟩, fun i j a b c => (h10 i j a b c).moved hW, fun w hw => (h11 w hw).same (isN_on (List.mem_filter.mp hw).2) hv.symm, h12.moved hW, h13.moved hW⟩
  · obtain ⟨a, ha⟩ := h4 j q hj
    exact ⟨a, ha.same hv⟩
  · obtain ⟨v, a1, a2, a3, a4⟩ := h7 j q hj
    exact ⟨v, a1.moved hW, a2.moved hW, a3.moved hW, a4.moved hW⟩
/-- the heap H holds the world w -/
def Sim (ba : Nat) (xa aC : Nat → Nat) (D : va_G) (w : mW) (s : State) (H : Heap) : Prop :=
  va_P D vwCl (wld ba xa aC w) H ∧ (∀ a, a < 100 → 50 ≤ (w_sh w a).1) ∧ (∀ a, 100 + w_n w ≤ a → 50 ≤ (w_sh w a).1) ∧ ba + w_n w ≤ H.size ∧
  ((w_sh w 0).1 = 50 ∧ ∀ a, (w_sh w a).1 = 50 → a = 0) ∧ va_X (xa 0) (w_sh w 0).2 (w_I w 0) s H ∧ (w_sh w 0).2 < 2 ^ 31 ∧ xa 0 < ba
theorem wls_len {w : mW} : (wls w).length ≤ w_n w := by
  have := List.length_filter_le (lv w) (List.range (w_n w))
  rw [List.length_range] at this
  exact this
theorem wld_len {ba : Nat} {xa aC : Nat → Nat} {w : mW} : (wld ba xa aC w).length ≤ w_n w := by rw [wld, List.length_map]; exact wls_len
theorem wls_at {w : mW} {i : Nat} (h2 : i < w_n w) (h3 : (w_sh w (100 + i)).1 < 50) : (wls w)[((List.range i).filter (lv w)).length]? = some i := flt_at _ _ h2 (decide_eq_true h3)
theorem wld_at {ba : Nat} {xa aC : Nat → Nat} {w : mW} {a : Nat} (h1 : 100 ≤ a) (h2 : a < 100 + w_n w) (h5 : (w_sh w a).1 < 50) : (wld ba xa aC w)[ix w a]? = some (sgm ba xa a, cel ba xa aC w a) := by
  have h3 : a - 100 < w_n w := by omega
  have h4 : 100 + (a - 100) = a := by omega
  rw [wld, List.getElem?_map, ix, wls_at h3 (by rw [h4]; exact h5), Option.map_some, h4, sgm, if_neg (Nat.not_lt.mpr h1)]
theorem wld_key {ba : Nat} {xa aC : Nat → Nat} {w : mW} {k : Nat} {q : Nat × va_E} (h : (wld ba xa aC w)[k]? = some q) : ∃ i, i < w_n w ∧ (w_sh w (100 + i)).1 < 50 ∧ k = ix w (100 + i) ∧ q = (ba + i, cel ba xa aC w (100 + i)) := by
  rw [wld, List.getElem?_map, Option.map_eq_some_iff] at h
  obtain ⟨i, h1, rfl⟩ := h
  obtain ⟨h2, h3, h4⟩ := flt_key _ _ _ h1
  exact ⟨i, h2, of_decide_eq_true h3, by rw [ix, Nat.add_sub_cancel_left]; exact h4, rfl⟩
theorem wld_D {ba : Nat} {xa aC : Nat → Nat} {w : mW} : va_D (aA ba) (wld ba xa aC w) := by
  refine ⟨fun i j p q hp hq h => ?_, fun k q h => ?_⟩
  · obtain ⟨i1, -, -, a3, rfl⟩ := wld_key hp
    obtain ⟨i2, -, -, b3, rfl⟩ := wld_key hq
    have e : i1 = i2 := by have h' : ba + i1 = ba + i2 := h; omega
    rw [a3, b3, e]
  · obtain ⟨i1, -, -, -, rfl⟩ := wld_key h
    show ba ≤ ba + i1
    omega
theorem ix_sh {w w' : mW} (h : w_sh w' = w_sh w) (a : Nat) : ix w' a = ix w a := by
  have : lv w' = lv w := by funext i; rw [lv, lv, h]
  rw [ix, ix, this]
/-- one cell changes -/
theorem wld_set {ba : Nat} {xa aC : Nat → Nat} {w w' : mW} {a : Nat} (hn : w_n w' = w_n w) (hs : w_sh w' = w_sh w) (h1 : 100 ≤ a) (h5 : (w_sh w a).1 < 50) (h : ∀ b, b ≠ a → cel ba xa aC w' b = cel ba xa aC w b) :
    wld ba xa aC w' = (wld ba xa aC w).set (ix w a) (sgm ba xa a, cel ba xa aC w' a) := by
  have hl : wls w' = wls w := by
    have : lv w' = lv w := by funext i; rw [lv, lv, hs]
    rw [wls, wls, this, hn]
  apply List.ext_getElem?
  intro k
  rw [List.getElem?_set]
  by_cases hk : k < (wls w).length
  · obtain ⟨i, hi⟩ : ∃ i, (wls w)[k]? = some i := ⟨_, List.getElem?_eq_getElem hk⟩
    obtain ⟨h2, h3, h4⟩ := flt_key _ _ _ hi
    have hk' : k < (wld ba xa aC w).length := by rw [wld, List.length_map]; exact hk
    by_cases hia : ix w a = k
    · rw [if_pos hia, if_pos (by rw [hia]; exact hk')]
      have e : 100 + i = a := by
        by_cases hx : a < 100 + w_n w
        · have e1 := wls_at (w := w) (i := a - 100) (by omega) (by rw [show 100 + (a - 100) = a by omega]; exact h5)
          rw [show ((List.range (a - 100)).filter (lv w)).length = k from hia] at e1
          have := Option.some.inj (e1.symm.trans hi)
          omega
        · exfalso
          have hlen : (wls w).length ≤ ix w a := by
            have hsub : ((List.range (w_n w)).filter (lv w)).length ≤ ((List.range (a - 100)).filter (lv w)).length := by
              have : List.range (a - 100) = List.range (w_n w + (a - 100 - w_n w)) := by congr 1; omega
              rw [this, List.range_add, List.filter_append, List.length_append]
              omega
            exact hsub
          omega
      rw [wld, List.getElem?_map, hl, hi, Option.map_some, e, sgm, if_neg (Nat.not_lt.mpr h1)]
      congr 2
      omega
    · rw [if_neg hia]
      have e : 100 + i ≠ a := by
        rintro rfl
        exact hia (by rw [ix, Nat.add_sub_cancel_left]; exact h4.symm)
      rw [wld, wld, List.getElem?_map, List.getElem?_map, hl, hi, Option.map_some, Option.map_some, h _ e]
  · have e1 : (wld ba xa aC w')[k]? = none := by rw [List.getElem?_eq_none_iff, wld, List.length_map, hl]; omega
    have e2 : (wld ba xa aC w)[k]? = none := by rw [List.getElem?_eq_none_iff, wld, List.length_map]; omega
    rw [e1, e2]
    by_cases hia : ix w a = k
    · rw [if_pos hia, if_neg (by rw [hia, wld, List.length_map]; omega)]
    · rw [if_neg hia]
/-- the world behind a change of one cell -/
theorem Sim.put {ba : Nat} {xa aC : Nat → Nat} {D : va_G} {w w' : mW} {s : State} {H H1 : Heap} {a : Nat} {e : va_E} (hM : Sim ba xa aC D w s H) (h1 : 100 ≤ a) (h5 : (w_sh w a).1 < 50) (hsh : w_sh w' = w_sh w) (hn : w_n w' = w_n w) (hI : w_I w' 0 = w_I w 0)
    (hc : ∀ b, b ≠ a → cel ba xa aC w' b = cel ba xa aC w b) (he : cel ba xa aC w' a = e) (hP : va_P D vwCl ((wld ba xa aC w).set (ix w a) (sgm ba xa a, e)) H1) (hz : H.size ≤ H1.size) (hk : ∀ q : Nat, q < ba → H1[q]? = H[q]?) : Sim ba xa aC D w' s H1 := by
  obtain ⟨-, m2, m3, m4, m6, m7, m8, m9⟩ := hM
  refine ⟨?_, by rw [hsh]; exact m2, by rw [hsh, hn]; exact m3, by rw [hn]; exact Nat.le_trans m4 hz, by rw [hsh]; exact m6, ?_, by rw [hsh]; exact m8, m9⟩
  · rw [wld_set hn hsh h1 h5 hc, he]; exact hP
  · rw [hsh, hI]
    exact m7.kept (hk _ m9)
theorem asc_mem : ∀ (L : List Value) (i j : Nat) (v : Value), (j, v) ∈ asc i L ↔ ∃ n, j = i + n ∧ L[n]? = some v ∧ v ≠ .null
  | [], i, j, v => by simp [asc]
  | a :: L, i, j, v => by
    have ih := asc_mem L (i + 1) j v
    by_cases ha : a = .null
    · rw [asc, if_pos ha, ih]
      constructor
      · rintro ⟨n, h1, h2, h3⟩
        exact ⟨n + 1, by omega, by simpa using h2, h3⟩
      · rintro ⟨n, h1, h2, h3⟩
        cases n with
        | zero => simp at h2; subst h2; exact absurd ha h3
        | succ n => exact ⟨n, by omega, by simpa using h2, h3⟩
    · rw [asc, if_neg ha, List.mem_cons, ih]
      constructor
      · rintro (h | ⟨n, h1, h2, h3⟩)
        · cases h
          exact ⟨0, by omega, by simp, ha⟩
        · exact ⟨n + 1, by omega, by simpa using h2, h3⟩
      · rintro ⟨n, h1, h2, h3⟩
        cases n with
        | zero => simp at h2; subst h2; left; simp [h1]
        | succ n => exact Or.inr ⟨n, by omega, by simpa using h2, h3⟩
theorem lgt_get : ∀ (L : List Value) (n : Nat) (v : Value), lgt L n = v → v ≠ .null → L[n]? = some v
  | [], n, v, h, hv => by cases n <;> exact absurd h.symm hv
  | a :: L, 0, v, h, hv => by simpa [lgt] using h
  | a :: L, n + 1, v, h, hv => by simpa using lgt_get L n v h hv
/-- the frame's locals hold L -/
def lrl (ba : Nat) (xa : Nat → Nat) (nL : Nat) (ls : Array Slot) (L : List Value) : Prop := lv_has ls nL ((asc 0 L).map fun q => (q.1, trv ba xa q.2)) ∧ L.length = nL
theorem lrl.at {ba nL : Nat} {xa : Nat → Nat} {ls : Array Slot} {L : List Value} (h : lrl ba xa nL ls L) {n : Nat} {v : Value} (hv : lgt L n = v) (h0 : v ≠ .null) : ls[n]? = some (.val (trv ba xa v)) := by
  have h1 := lgt_get L n v hv h0
  have h2 : (n, v) ∈ asc 0 L := (asc_mem L 0 n v).mpr ⟨n, by omega, h1, h0⟩
  exact h.1.2.2 (n, trv ba xa v) (List.mem_map.mpr ⟨(n, v), h2, rfl⟩)
theorem lv_mono {ls : Array Slot} {nL : Nat} {l l' : List (Nat × Value)} (h : lv_has ls nL l) (hs : ∀ q ∈ l', q ∈ l) : lv_has ls nL l' := ⟨h.1, h.2.1, fun q hq => h.2.2 q (hs q hq)⟩
/-- weaker locals -/
theorem lrl.le {ba nL : Nat} {xa : Nat → Nat} {ls : Array Slot} {L L' : List Value} (h : lrl ba xa nL ls L) (hl : L'.length = L.length) (hs : ∀ (n : Nat) (v : Value), L'[n]? = some v → v ≠ .null → L[n]? = some v) : lrl ba xa nL ls L' := by
  refine ⟨lv_mono h.1 fun q hq => ?_, by rw [hl]; exact h.2⟩
  obtain ⟨⟨j, v⟩, h1, rfl⟩ := List.mem_map.mp hq
  obtain ⟨n, h2, h3, h4⟩ := (asc_mem L' 0 j v).mp h1
  exact List.mem_map.mpr ⟨(j, v), (asc_mem L 0 j v).mpr ⟨n, h2, hs n v h3 h4, h4⟩, rfl⟩
theorem trv_c2 {ba : Nat} {xa : Nat → Nat} (v : Value) : (trv ba xa v).category = v.category := by cases v <;> rfl
theorem trv_nn {ba : Nat} {xa : Nat → Nat} (v : Value) : trv ba xa v = .null ↔ v = .null := by cases v <;> simp [trv]
theorem c2_cat (v : Value) : v_c2 v = true ↔ v.category = 2 := by cases v <;> simp [v_c2, Value.category]
theorem lpu_len : ∀ (L : List Value) (n : Nat) (v : Value), (lpu L n v).length = L.length
  | [], n, v => by cases n <;> rfl
  | a :: L, 0, v => rfl
  | a :: L, 1, v => by cases L <;> rfl
  | a :: L, n + 2, v => by simp [lpu, lpu_len L (n + 1) v]
/-- what lies where behind a store -/
theorem lpu_at : ∀ (L : List Value) (n : Nat) (v : Value) (j : Nat) (x : Value), (lpu L n v)[j]? = some x → x ≠ .null → (j = n ∧ x = v) ∨ (j ≠ n ∧ L[j]? = some x ∧ ¬ (j + 1 = n ∧ x.category = 2))
  | [], n, v, j, x, h, _ => by cases n <;> simp [lpu] at h
  | a :: L, 0, v, j, x, h, _ => by
    cases j with
    | zero => left; simp [lpu] at h; exact ⟨rfl, h.symm⟩
    | succ j => right; simp [lpu] at h; exact ⟨by omega, by simpa using h, by omega⟩
  | a :: L, 1, v, j, x, h, h0 => by
    cases j with
    | zero =>
      right
      simp only [lpu, List.getElem?_cons_zero, Option.some.injEq] at h
      by_cases hc : v_c2 a = true
      · rw [if_pos hc] at h; exact absurd h.symm h0
      · rw [if_neg hc] at h; subst h
        exact ⟨by omega, by simp, fun q => hc ((c2_cat a).mpr q.2)⟩
    | succ j =>
      cases L with
      | nil => simp [lpu] at h
      | cons b L =>
        simp only [lpu, List.getElem?_cons_succ] at h
        cases j with
        | zero => left; simp at h; exact ⟨rfl, h.symm⟩
        | succ j => right; exact ⟨by omega, by simpa using h, by omega⟩
  | a :: L, n + 2, v, j, x, h, h0 => by
    cases j with
    | zero => right; simp [lpu] at h; subst h; exact ⟨by omega, by simp, by omega⟩
    | succ j =>
      simp only [lpu, List.getElem?_cons_succ] at h
      rcases lpu_at L (n + 1) v j x h h0 with ⟨h1, h2⟩ | ⟨h1, h2, h3⟩
      · left; exact ⟨by omega, h2⟩
      · right; exact ⟨by omega, by simpa using h2, fun q => h3 ⟨by omega, q.2⟩⟩
theorem lrl.put {ba nL : Nat} {xa : Nat → Nat} {ls ls' : Array Slot} {L : List Value} {n : Nat} {v : Value} (h : lrl ba xa nL ls L) (h' : lv_has ls' nL ((n, trv ba xa v) :: ((asc 0 L).map fun q => (q.1, trv ba xa q.2)).filter (fun q => !(q.1 == n) && !(q.1 + 1 == n && q.2.category == 2)))) : lrl ba xa nL ls' (lpu L n v) := by
  refine ⟨lv_mono h' fun q hq => ?_, by rw [lpu_len]; exact h.2⟩
  obtain ⟨⟨j, x⟩, h1, rfl⟩ := List.mem_map.mp hq
  obtain ⟨i, h2, h3, h4⟩ := (asc_mem _ 0 j x).mp h1
  have hij : i = j := by omega
  subst hij
  rcases lpu_at L n v i x h3 h4 with ⟨e1, e2⟩ | ⟨e1, e2, e3⟩
  · subst e1; subst e2; exact List.mem_cons_self
  · refine List.mem_cons_of_mem _ (List.mem_filter.mpr ⟨List.mem_map.mpr ⟨(i, x), (asc_mem L 0 i x).mpr ⟨i, by omega, e2, h4⟩, rfl⟩, ?_⟩)
    simp only [trv_c2]
    simp only [Bool.and_eq_true, Bool.not_eq_true', beq_eq_false_iff_ne, Bool.and_eq_false_iff, ne_eq]
    refine ⟨e1, ?_⟩
    by_cases h5 : i + 1 = n
    · right; exact fun q => e3 ⟨h5, q⟩
    · left; exact h5
theorem lrl.putw {ba nL : Nat} {xa : Nat → Nat} {ls ls' : Array Slot} {L : List Value} {n : Nat} {v : Value} (h : lrl ba xa nL ls L) (h' : lv_has ls' nL ((n, trv ba xa v) :: ((asc 0 L).map fun q => (q.1, trv ba xa q.2)).filter (fun q => !(q.1 == n) && (!(q.1 == n + 1) && !(q.1 + 1 == n && q.2.category == 2))))) : lrl ba xa nL ls' (lpw L n v) := by
  refine ⟨lv_mono h' fun q hq => ?_, by rw [lpw, lpu_len, lpu_len]; exact h.2⟩
  obtain ⟨⟨j, x⟩, h1, rfl⟩ := List.mem_map.mp hq
  obtain ⟨i, h2, h3, h4⟩ := (asc_mem _ 0 j x).mp h1
  have hij : i = j := by omega
  subst hij
  rcases lpu_at _ n v i x h3 h4 with ⟨e1, e2⟩ | ⟨e1, e2, e3⟩
  · subst e1; subst e2; exact List.mem_cons_self
  · rcases lpu_at L (n + 1) .null i x e2 h4 with ⟨f1, f2⟩ | ⟨f1, f2, f3⟩
    · exact absurd f2 h4
    · refine List.mem_cons_of_mem _ (List.mem_filter.mpr ⟨List.mem_map.mpr ⟨(i, x), (asc_mem L 0 i x).mpr ⟨i, by omega, f2, h4⟩, rfl⟩, ?_⟩)
      simp only [trv_c2]
      simp only [Bool.and_eq_true, Bool.not_eq_true', beq_eq_false_iff_ne, Bool.and_eq_false_iff, ne_eq]
      refine ⟨e1, f1, ?_⟩
      by_cases h5 : i + 1 = n
      · right; exact fun q => e3 ⟨h5, q⟩
      · left; exact h5
