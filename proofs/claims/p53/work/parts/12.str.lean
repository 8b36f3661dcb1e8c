/-! length and charAt of the constants -/
abbrev aN : Nat → Prop := fun _ => False
def wj (y : MethodName) (b : ByteArray) (ml : Nat) (r : Option FieldType) : List Cond := .code y b ml r :: lw_T
theorem wj_in {y : MethodName} {b : ByteArray} {ml : Nat} {r : Option FieldType} (h : Cond.code y b ml r ∈ lw_tbl) : ∀ w ∈ wj y b ml r, w ∈ lw_T := fun w hw => by
  rcases List.mem_cons.mp hw with rfl | hw
  · exact T_mem h rfl
  · exact hw
theorem va_Z.no {C n d : String} {v : Value} {A : Nat → Prop} {U : State} {H : Heap} (h : va_Z C n d v A U H) : va_Z C n d v aN U H := va_Z.narrow h (fun _ q => q.elim)
theorem va_OF.no {o n d : String} {v : Value} {t : Nat} {A : Nat → Prop} {U : State} {H : Heap} (h : va_OF o n d v t A U H) : va_OF o n d v t aN U H := va_OF.narrow h (fun _ q => q.elim)
theorem va_T.no {ty : FieldType} {t N : Nat} {f : Nat → Value} {A : Nat → Prop} {U : State} {H : Heap} (h : va_T ty t N f A U H) : va_T ty t N f aN U H := va_T.narrow h (fun _ q => q.elim)
def sB (ba : Nat) (xa : Nat → Nat) : State → Prop := fun U => RO ba xa U U.heap
theorem sB.blind {ba : Nat} {xa : Nat → Nat} {as : List Value} : FrameBlind (va_Pc as (sB ba xa)) := fun a U g mk h => ⟨h.1, RO.same (s := U) (U := U.calling g mk a) h.2 rfl⟩
theorem sB.at {ba : Nat} {xa : Nat → Nat} {s U : State} {H : Heap} {locs : List Loc} (hRO : RO ba xa s s.heap) (hS : va_S aN s.heap H locs) (hU : U.heap = H) (hW : s.WarmedH U.vm) : sB ba xa U := by
  show RO ba xa U U.heap
  rw [hU]
  exact (hRO.kept fun a h1 _ => hS.2.1 a h1 (fun q => q.elim)).warm hW
section STR12
variable {ba : Nat} {xa : Nat → Nat}
abbrev rj (f n : Nat) : Room := { frames := f, cells := 0, slots := 0, locals := n }
set_option maxHeartbeats 4000000 in
theorem c_coder (l : Launch) {j : Nat} {q : String × Nat × String} (hj : m_str[j]? = some q) : Met l yJ0_coder_7d493 (wj yJ0_coder_7d493 cJ0_coder_7d493 1 (some .byte)) (rj 0 0) (va_Pc [.ref (xa (2 + j))] (sB ba xa)) (va_Qi (fun (r : Int32) (_ : Unit) => r = 0) (fun _ _ => True) aN) 0 0 aN := by
  refine Met.ofW (cc := cJ0_coder_7d493) (maxL := 1) (ret := some .byte) (by decide +kernel) rfl ?_
  intro p e s m args below meth c s₁ B hml hv
  obtain ⟨rfl, hRO⟩ := hv
  have hx := B.exec
  have hb := B.bytes
  have hr := B.returns
  have hts : ∀ w ∈ lw_T, w.before _ s = true := fun w hw => atoms_spec (ws := wj yJ0_coder_7d493 cJ0_coder_7d493 1 (some .byte)) B.pre w (List.mem_cons_of_mem _ hw)
  have hown : s.vm.findClass RJ0 = some m.cls := findClass_of_methodNamed B.named
  have hlocks := B.notSynchronized
  have hS : va_S aN s.heap s.heap [] := va_S.rf
  have hl := lv_entry ([.ref (xa (2 + j))]) (n := 1) (Nat.le_of_ble_eq_true rfl)
  rw [lg_entry_eq]
  generalize (lg_sl ([.ref (xa (2 + j))]) ++ List.replicate (1 - (lg_sl ([.ref (xa (2 + j))])).length) Slot.unset).toArray = ls at hl ⊢
  have hl : lv_has ls 1 [(0, .ref (xa (2 + j)))] := hl
  obtain ⟨va, -, s1, s2, s3⟩ := hRO.2.2.2.2.2.1 j q hj
  refine va_gets hx hb hRO.2.2.2.2.2.2.1.1.no hS hown (T_at hts (w := .fieldLink RJ0 38 "java/lang/String" "COMPACT_STRINGS" "Z") (by decide +kernel) rfl) (fun _ h => h) (show decode cJ0_coder_7d493 0 = .ok (.getstatic 38, 3) by decide +kernel) ?_
  refine lv_if_eq (tgt := 13) hx hb (show decode cJ0_coder_7d493 3 = .ok (.ifCond .eq 10, 3) by decide +kernel) (by decide) (fun h => absurd h (by decide)) (fun _ => ?_)
  refine lv_aload_n hx hb (show decode cJ0_coder_7d493 6 = .ok (.aload_n 0, 1) by decide +kernel) rfl (lv_at hl 0 rfl) ?_
  refine vk_getf hx hb s1.no hS hown (T_at hts (w := .fieldLink RJ0 15 "java/lang/String" "coder" "B") (by decide +kernel) rfl) (fun _ h => h) (show decode cJ0_coder_7d493 7 = .ok (.getfield 15, 3) by decide +kernel) ?_
  refine lv_goto (tgt := 14) hx hb (show decode cJ0_coder_7d493 10 = .ok (.goto 4, 3) by decide +kernel) (by decide) ?_
  exact W.zret (v := 0) hx hb hr rfl (fun t ht hW => ⟨⟨0, (), rfl, rfl, trivial⟩, hS.F ht⟩) hS.2.2 (show decode cJ0_coder_7d493 14 = .ok (.ireturn, 1) by decide +kernel)
set_option maxHeartbeats 4000000 in
theorem c_isLatin1 (l : Launch) {j : Nat} {q : String × Nat × String} (hj : m_str[j]? = some q) : Met l yJ0_isLatin1_aae02 (wj yJ0_isLatin1_aae02 cJ0_isLatin1_aae02 1 (some .boolean)) (rj 0 0) (va_Pc [.ref (xa (2 + j))] (sB ba xa)) (va_Qi (fun (r : Int32) (_ : Unit) => r = 1) (fun _ _ => True) aN) 0 0 aN := by
  refine Met.ofW (cc := cJ0_isLatin1_aae02) (maxL := 1) (ret := some .boolean) (by decide +kernel) rfl ?_
  intro p e s m args below meth c s₁ B hml hv
  obtain ⟨rfl, hRO⟩ := hv
  have hx := B.exec
  have hb := B.bytes
  have hr := B.returns
  have hts : ∀ w ∈ lw_T, w.before _ s = true := fun w hw => atoms_spec (ws := wj yJ0_isLatin1_aae02 cJ0_isLatin1_aae02 1 (some .boolean)) B.pre w (List.mem_cons_of_mem _ hw)
  have hown : s.vm.findClass RJ0 = some m.cls := findClass_of_methodNamed B.named
  have hlocks := B.notSynchronized
  have hS : va_S aN s.heap s.heap [] := va_S.rf
  have hl := lv_entry ([.ref (xa (2 + j))]) (n := 1) (Nat.le_of_ble_eq_true rfl)
  rw [lg_entry_eq]
  generalize (lg_sl ([.ref (xa (2 + j))]) ++ List.replicate (1 - (lg_sl ([.ref (xa (2 + j))])).length) Slot.unset).toArray = ls at hl ⊢
  have hl : lv_has ls 1 [(0, .ref (xa (2 + j)))] := hl
  obtain ⟨va, -, s1, s2, s3⟩ := hRO.2.2.2.2.2.1 j q hj
  refine va_gets hx hb hRO.2.2.2.2.2.2.1.1.no hS hown (T_at hts (w := .fieldLink RJ0 38 "java/lang/String" "COMPACT_STRINGS" "Z") (by decide +kernel) rfl) (fun _ h => h) (show decode cJ0_isLatin1_aae02 0 = .ok (.getstatic 38, 3) by decide +kernel) ?_
  refine lv_if_eq (tgt := 17) hx hb (show decode cJ0_isLatin1_aae02 3 = .ok (.ifCond .eq 14, 3) by decide +kernel) (by decide) (fun h => absurd h (by decide)) (fun _ => ?_)
  refine lv_aload_n hx hb (show decode cJ0_isLatin1_aae02 6 = .ok (.aload_n 0, 1) by decide +kernel) rfl (lv_at hl 0 rfl) ?_
  refine vk_getf hx hb s1.no hS hown (T_at hts (w := .fieldLink RJ0 15 "java/lang/String" "coder" "B") (by decide +kernel) rfl) (fun _ h => h) (show decode cJ0_isLatin1_aae02 7 = .ok (.getfield 15, 3) by decide +kernel) ?_
  refine lv_if_ne (tgt := 17) hx hb (show decode cJ0_isLatin1_aae02 10 = .ok (.ifCond .ne 7, 3) by decide +kernel) (by decide) (fun h => absurd rfl h) (fun _ => ?_)
  refine lv_iconst (v := 1) hx hb (show decode cJ0_isLatin1_aae02 13 = .ok (.iconst 1, 1) by decide +kernel) (by decide) ?_
  refine lv_goto (tgt := 18) hx hb (show decode cJ0_isLatin1_aae02 14 = .ok (.goto 4, 3) by decide +kernel) (by decide) ?_
  exact W.zret (v := 1) hx hb hr rfl (fun t ht hW => ⟨⟨1, (), rfl, rfl, trivial⟩, hS.F ht⟩) hS.2.2 (show decode cJ0_isLatin1_aae02 18 = .ok (.ireturn, 1) by decide +kernel)
theorem shr0 (x : Int32) : x >>> ((0 : Int32) &&& 31) = x := by
  have e : (0 : Int32) &&& 31 = 0 := by decide
  rw [e]
  simp
set_option maxHeartbeats 4000000 in
theorem c_length (l : Launch) {j : Nat} {q : String × Nat × String} (hj : m_str[j]? = some q) : Met l yJ0_length_8abf5 (wj yJ0_length_8abf5 cJ0_length_8abf5 1 (some .int)) (rj 1 20) (va_Pc [.ref (xa (2 + j))] (sB ba xa)) (va_Qi (fun (r : Int32) (_ : Unit) => r = Int32.ofNat (s_len j)) (fun _ _ => True) aN) 0 0 aN := by
  refine Met.ofW (cc := cJ0_length_8abf5) (maxL := 1) (ret := some .int) (by decide +kernel) rfl ?_
  intro p e s m args below meth c s₁ B hml hv
  obtain ⟨rfl, hRO⟩ := hv
  have hx := B.exec
  have hb := B.bytes
  have hr := B.returns
  have hts : ∀ w ∈ lw_T, w.before _ s = true := fun w hw => atoms_spec (ws := wj yJ0_length_8abf5 cJ0_length_8abf5 1 (some .int)) B.pre w (List.mem_cons_of_mem _ hw)
  have hown : s.vm.findClass RJ0 = some m.cls := findClass_of_methodNamed B.named
  have hlocks := B.notSynchronized
  have hS : va_S aN s.heap s.heap [] := va_S.rf
  have hl := lv_entry ([.ref (xa (2 + j))]) (n := 1) (Nat.le_of_ble_eq_true rfl)
  rw [lg_entry_eq]
  generalize (lg_sl ([.ref (xa (2 + j))]) ++ List.replicate (1 - (lg_sl ([.ref (xa (2 + j))])).length) Slot.unset).toArray = ls at hl ⊢
  have hl : lv_has ls 1 [(0, .ref (xa (2 + j)))] := hl
  obtain ⟨va, s0, s1, s2, s3⟩ := hRO.2.2.2.2.2.1 j q hj
  refine lv_aload_n hx hb (show decode cJ0_length_8abf5 0 = .ok (.aload_n 0, 1) by decide +kernel) rfl (lv_at hl 0 rfl) ?_
  refine vk_getf hx hb s2.no hS hown (T_at hts (w := .fieldLink RJ0 9 "java/lang/String" "value" "[B") (by decide +kernel) rfl) (fun _ h => h) (show decode cJ0_length_8abf5 1 = .ok (.getfield 9, 3) by decide +kernel) ?_
  refine va_tlen (v := Int32.ofNat (s_len j)) hx hb s3.no hS rfl (show decode cJ0_length_8abf5 4 = .ok (.arraylength, 1) by decide +kernel) ?_
  refine lv_aload_n hx hb (show decode cJ0_length_8abf5 5 = .ok (.aload_n 0, 1) by decide +kernel) rfl (lv_at hl 0 rfl) ?_
  have hgi : GoodIn lw_T (wsV RJ0 335 RJ0 yJ0_coder_7d493 (wj yJ0_coder_7d493 cJ0_coder_7d493 1 (some .byte))) := gi_T fun w hw => by
    simp only [wsV, List.cons_append, List.nil_append, List.mem_cons] at hw
    rcases hw with rfl | rfl | rfl | rfl | hw
    · exact T_mem (by decide +kernel) rfl
    · exact T_mem (by decide +kernel) rfl
    · exact T_mem (by decide +kernel) rfl
    · exact T_mem (by decide +kernel) rfl
    · exact wj_in (by decide +kernel) _ hw
  obtain ⟨cell, g1, g2, g3, -⟩ := id s0
  refine va_calli (va_runV (As := []) (rest := [.int (Int32.ofNat (s_len j))]) ⟨hx, hb, hml, hown, hts⟩ (c_coder (ba := ba) (xa := xa) l hj) (cwV 0 hts hgi rfl rfl rfl (by decide +kernel) ⟨Nat.le_of_ble_eq_true rfl, Nat.le_of_ble_eq_true rfl⟩) ⟨sB.blind, ⟨cell, g1, g2, g3⟩, fun U hU hW => ⟨rfl, sB.at hRO hS hU hW⟩⟩ rfl rfl hl.1 rfl (lv_room (Nat.le_of_ble_eq_true rfl)) (show decode cJ0_length_8abf5 6 = .ok (.invokevirtual 335, 3) by decide +kernel) ⟨Nat.le_of_ble_eq_true rfl, Nat.le_of_ble_eq_true rfl⟩) hS (fun q _ h => h) (fun q h => h) (fun r u t H1 locs ht hvm hw hB hz1 hk1 hS => ?_)
  subst hw
  refine lv_ishr hx hb (show decode cJ0_length_8abf5 9 = .ok (.ishr, 1) by decide +kernel) ?_
  rw [shr0]
  exact W.iret hx hb hr (fun t ht hW => ⟨⟨_, (), rfl, rfl, trivial⟩, hS.F ht⟩) hS.2.2 (show decode cJ0_length_8abf5 10 = .ok (.ireturn, 1) by decide +kernel)
set_option maxHeartbeats 4000000 in
theorem c_pre (l : Launch) {a b : Int32} {f : Value} (hf : f = .null ∨ ∃ t, f = .ref t) (h0 : ¬ a < 0) (h1 : a < b) : Met l yJ3_checkIndex_8e157 (wj yJ3_checkIndex_8e157 cJ3_checkIndex_8e157 3 (some .int)) (rj 0 0) (va_Pc [.int a, .int b, f] (fun _ => True)) (va_Qi (fun (r : Int32) (_ : Unit) => r = a) (fun _ _ => True) aN) 0 0 aN := by
  refine Met.ofW (cc := cJ3_checkIndex_8e157) (maxL := 3) (ret := some .int) (by decide +kernel) rfl ?_
  intro p e s m args below meth c s₁ B hml hv
  obtain ⟨rfl, -⟩ := hv
  have hx := B.exec
  have hb := B.bytes
  have hr := B.returns
  have hlocks := B.notSynchronized
  have hS : va_S aN s.heap s.heap [] := va_S.rf
  have hc : f.category = 1 := by rcases hf with rfl | ⟨t, rfl⟩ <;> rfl
  have hlen : (lg_sl ([.int a, .int b, f])).length ≤ 3 := by rcases hf with rfl | ⟨t, rfl⟩ <;> exact Nat.le_of_ble_eq_true rfl
  have hl := lv_entry ([.int a, .int b, f]) (n := 3) hlen
  rw [lg_entry_eq]
  generalize (lg_sl ([.int a, .int b, f]) ++ List.replicate (3 - (lg_sl ([.int a, .int b, f])).length) Slot.unset).toArray = ls at hl ⊢
  have hl : lv_has ls 3 [(0, .int a), (1, .int b), (2, f)] := hl
  refine lv_iload_n hx hb (show decode cJ3_checkIndex_8e157 0 = .ok (.iload_n 0, 1) by decide +kernel) rfl (lv_at hl 0 rfl) ?_
  refine lv_if_lt (tgt := 9) hx hb (show decode cJ3_checkIndex_8e157 1 = .ok (.ifCond .lt 8, 3) by decide +kernel) (by decide) (fun h => absurd h h0) (fun _ => ?_)
  refine lv_iload_n hx hb (show decode cJ3_checkIndex_8e157 4 = .ok (.iload_n 0, 1) by decide +kernel) rfl (lv_at hl 0 rfl) ?_
  refine lv_iload_n hx hb (show decode cJ3_checkIndex_8e157 5 = .ok (.iload_n 1, 1) by decide +kernel) rfl (lv_at hl 1 rfl) ?_
  refine lv_icmp_lt (tgt := 16) hx hb (show decode cJ3_checkIndex_8e157 6 = .ok (.if_icmp .lt 10, 3) by decide +kernel) (by decide) (fun _ => ?_) (fun h => absurd h1 h)
  refine lv_iload_n hx hb (show decode cJ3_checkIndex_8e157 16 = .ok (.iload_n 0, 1) by decide +kernel) rfl (lv_at hl 0 rfl) ?_
  exact W.iret hx hb hr (fun t ht hW => ⟨⟨_, (), rfl, rfl, trivial⟩, hS.F ht⟩) hS.2.2 (show decode cJ3_checkIndex_8e157 17 = .ok (.ireturn, 1) by decide +kernel)
set_option maxHeartbeats 4000000 in
theorem c_chk (l : Launch) {a b : Int32} (h0 : ¬ a < 0) (h1 : a < b) : Met l yJ0_checkIndex_df160 (wj yJ0_checkIndex_df160 cJ0_checkIndex_df160 2 none) (rj 1 22) (va_Pc [.int a, .int b] (sB ba xa)) (va_Qv (fun (_ : Unit) => True) (fun _ _ => True) aN) 0 0 aN := by
  refine Met.ofW (cc := cJ0_checkIndex_df160) (maxL := 2) (ret := none) (by decide +kernel) rfl ?_
  intro p e s m args below meth c s₁ B hml hv
  obtain ⟨rfl, hRO⟩ := hv
  have hx := B.exec
  have hb := B.bytes
  have hr := B.returns
  have hts : ∀ w ∈ lw_T, w.before _ s = true := fun w hw => atoms_spec (ws := wj yJ0_checkIndex_df160 cJ0_checkIndex_df160 2 none) B.pre w (List.mem_cons_of_mem _ hw)
  have hown : s.vm.findClass RJ0 = some m.cls := findClass_of_methodNamed B.named
  have hlocks := B.notSynchronized
  have hS : va_S aN s.heap s.heap [] := va_S.rf
  have hl := lv_entry ([.int a, .int b]) (n := 2) (Nat.le_of_ble_eq_true rfl)
  rw [lg_entry_eq]
  generalize (lg_sl ([.int a, .int b]) ++ List.replicate (2 - (lg_sl ([.int a, .int b])).length) Slot.unset).toArray = ls at hl ⊢
  have hl : lv_has ls 2 [(0, .int a), (1, .int b)] := hl
  refine lv_iload_n hx hb (show decode cJ0_checkIndex_df160 0 = .ok (.iload_n 0, 1) by decide +kernel) rfl (lv_at hl 0 rfl) ?_
  refine lv_iload_n hx hb (show decode cJ0_checkIndex_df160 1 = .ok (.iload_n 1, 1) by decide +kernel) rfl (lv_at hl 1 rfl) ?_
  have hlk := T_at hts (w := .fieldLink RJ0 1053 "jdk/internal/util/Preconditions" "SIOOBE_FORMATTER" "Ljava/util/function/BiFunction;") (by decide +kernel) rfl
  have hgi : GoodIn lw_T (va_wsS RJ0 1059 yJ3_checkIndex_8e157 (wj yJ3_checkIndex_8e157 cJ3_checkIndex_8e157 3 (some .int))) := gi_T fun w hw => by
    simp only [va_wsS, List.cons_append, List.nil_append, List.mem_cons] at hw
    rcases hw with rfl | rfl | rfl | hw
    · exact T_mem (by decide +kernel) rfl
    · exact T_mem (by decide +kernel) rfl
    · exact T_mem (by decide +kernel) rfl
    · exact wj_in (by decide +kernel) _ hw
  have key : ∀ f : Value, (f = .null ∨ ∃ t, f = .ref t) → va_Z "jdk/internal/util/Preconditions" "SIOOBE_FORMATTER" "Ljava/util/function/BiFunction;" f aN s s.heap → W p l e (headSpec (wj yJ0_checkIndex_df160 cJ0_checkIndex_df160 2 none) (rj 1 22)).room s m [Value.int a, Value.int b].toArray below meth c s.heap [] 0 0 (MQ below (va_Qv (fun (_ : Unit) => True) (fun _ _ => True) aN) [Value.int a, Value.int b].toArray s 0 0 aN) (F0 m 2 ls [.int b, .int a]) := by
    intro f hf hZ
    refine va_gets hx hb hZ hS hown hlk (fun _ h => h) (show decode cJ0_checkIndex_df160 2 = .ok (.getstatic 1053, 3) by decide +kernel) ?_
    refine va_calli (va_runS (As := [.int a, .int b, f]) (rest := []) ⟨hx, hb, hml, hown, hts⟩ (c_pre l hf h0 h1) (va_cwS 3 hts hgi rfl rfl rfl (by decide +kernel) ⟨Nat.le_of_ble_eq_true rfl, Nat.le_of_ble_eq_true rfl⟩) ⟨fun a U g mk h => ⟨h.1, trivial⟩, fun U hU hW => ⟨rfl, trivial⟩⟩ rfl rfl hl.1 rfl (lv_room (Nat.le_of_ble_eq_true rfl)) (show decode cJ0_checkIndex_df160 5 = .ok (.invokestatic 1059, 3) by decide +kernel) ⟨Nat.le_of_ble_eq_true rfl, Nat.le_of_ble_eq_true rfl⟩) hS (fun q _ h => h) (fun q h => h) (fun r u t H1 locs ht hvm hw hB hz1 hk1 hS => ?_)
    refine lv_pop hx hb (show decode cJ0_checkIndex_df160 8 = .ok (.pop, 1) by decide +kernel) rfl ?_
    exact W.vret hx hb hr (fun t ht hW => ⟨⟨(), rfl, trivial, trivial⟩, hS.F ht⟩) hS.2.2 (show decode cJ0_checkIndex_df160 9 = .ok (.return_, 1) by decide +kernel)
  rcases hRO.2.2.2.2.2.2.1.2 with hZ | ⟨t, hZ⟩
  · exact key .null (Or.inl rfl) hZ.no
  · exact key (.ref t) (Or.inr ⟨t, rfl⟩) hZ.no
end STR12
