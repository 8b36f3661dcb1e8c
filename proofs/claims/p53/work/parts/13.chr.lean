theorem s_ok : ∀ j, j < 16 → ∀ i, i < s_len j → ((s_ch j i &&& 255).toUInt32 % 65536).toInt32 = s_ch j i ∧ narrow .char (.int (s_ch j i)) = .int (s_ch j i) := by decide +kernel
theorem s_l31 : ∀ j, j < 16 → s_len j < 100 := by decide +kernel
section CHR13
variable {ba : Nat} {xa : Nat → Nat}
set_option maxHeartbeats 4000000 in
theorem c_l1 (l : Launch) {j : Nat} {q : String × Nat × String} (hj : m_str[j]? = some q) (hj16 : j < 16) {i : Int32} (hi : vp_in i (s_len j)) (v : Nat) : Met l yJ1_charAt_3b067 (wj yJ1_charAt_3b067 cJ1_charAt_3b067 2 (some .char)) (rj 2 64) (va_Pc [.ref v, .int i] (fun U => sB ba xa U ∧ va_T .byte v (s_len j) (fun i => .int (s_ch j i)) aN U U.heap)) (va_Qi (fun (r : Int32) (_ : Unit) => r = s_ch j i.toNatClampNeg) (fun _ _ => True) aN) 0 0 aN := by
  refine Met.ofW (cc := cJ1_charAt_3b067) (maxL := 2) (ret := some .char) (by decide +kernel) rfl ?_
  intro p e s m args below meth c s₁ B hml hv
  obtain ⟨rfl, hRO, hT⟩ := hv
  have hx := B.exec
  have hb := B.bytes
  have hr := B.returns
  have hts : ∀ w ∈ lw_T, w.before _ s = true := fun w hw => atoms_spec (ws := wj yJ1_charAt_3b067 cJ1_charAt_3b067 2 (some .char)) B.pre w (List.mem_cons_of_mem _ hw)
  have hown : s.vm.findClass RJ1 = some m.cls := findClass_of_methodNamed B.named
  have hlocks := B.notSynchronized
  have hS : va_S aN s.heap s.heap [] := va_S.rf
  have hl := lv_entry ([.ref v, .int i]) (n := 2) (Nat.le_of_ble_eq_true rfl)
  rw [lg_entry_eq]
  generalize (lg_sl ([.ref v, .int i]) ++ List.replicate (2 - (lg_sl ([.ref v, .int i])).length) Slot.unset).toArray = ls at hl ⊢
  have hl : lv_has ls 2 [(0, .ref v), (1, .int i)] := hl
  refine lv_iload_n hx hb (show decode cJ1_charAt_3b067 0 = .ok (.iload_n 1, 1) by decide +kernel) rfl (lv_at hl 1 rfl) ?_
  refine lv_aload_n hx hb (show decode cJ1_charAt_3b067 1 = .ok (.aload_n 0, 1) by decide +kernel) rfl (lv_at hl 0 rfl) ?_
  refine va_tlen (v := Int32.ofNat (s_len j)) hx hb hT hS rfl (show decode cJ1_charAt_3b067 2 = .ok (.arraylength, 1) by decide +kernel) ?_
  have hgi : GoodIn lw_T (va_wsS RJ1 9 yJ0_checkIndex_df160 (wj yJ0_checkIndex_df160 cJ0_checkIndex_df160 2 none)) := gi_T fun w hw => by
    simp only [va_wsS, List.cons_append, List.nil_append, List.mem_cons] at hw
    rcases hw with rfl | rfl | rfl | hw
    · exact T_mem (by decide +kernel) rfl
    · exact T_mem (by decide +kernel) rfl
    · exact T_mem (by decide +kernel) rfl
    · exact wj_in (by decide +kernel) _ hw
  have hlen := s_l31 j hj16
  obtain ⟨n, hn, rfl⟩ := vp_in_of hi (by omega)
  have h0 : ¬ nI n < 0 := nI_pos (by omega)
  have h1 : nI n < Int32.ofNat (s_len j) := nI_lt hn (by omega)
  refine va_callv (va_runS (As := [.int (nI n), .int (Int32.ofNat (s_len j))]) (rest := []) ⟨hx, hb, hml, hown, hts⟩ (c_chk (ba := ba) (xa := xa) l h0 h1) (va_cwS 2 hts hgi rfl rfl rfl (by decide +kernel) ⟨Nat.le_of_ble_eq_true rfl, Nat.le_of_ble_eq_true rfl⟩) ⟨sB.blind, fun U hU hW => ⟨rfl, sB.at hRO hS hU hW⟩⟩ rfl rfl hl.1 rfl (lv_room (Nat.le_of_ble_eq_true rfl)) (show decode cJ1_charAt_3b067 3 = .ok (.invokestatic 9, 3) by decide +kernel) ⟨Nat.le_of_ble_eq_true rfl, Nat.le_of_ble_eq_true rfl⟩) hS (fun q _ h => h) (fun q h => h) (fun u t H1 locs ht hvm hw hB hz1 hk1 hS => ?_)
  refine lv_aload_n hx hb (show decode cJ1_charAt_3b067 6 = .ok (.aload_n 0, 1) by decide +kernel) rfl (lv_at hl 0 rfl) ?_
  refine lv_iload_n hx hb (show decode cJ1_charAt_3b067 7 = .ok (.iload_n 1, 1) by decide +kernel) rfl (lv_at hl 1 rfl) ?_
  refine va_tb hx hb hT hS hi rfl (show decode cJ1_charAt_3b067 8 = .ok (.baload, 1) by decide +kernel) ?_
  refine lv_sipush (v := 255) hx hb (show decode cJ1_charAt_3b067 9 = .ok (.sipush 255, 3) by decide +kernel) (by decide) ?_
  refine lv_iand hx hb (show decode cJ1_charAt_3b067 12 = .ok (.iand, 1) by decide +kernel) ?_
  have hnn : (nI n).toNatClampNeg = n := nI_clamp (by omega)
  obtain ⟨o1, o2⟩ := s_ok j hj16 n hn
  refine lv_i2c (v := s_ch j n) hx hb (show decode cJ1_charAt_3b067 13 = .ok (.i2c, 1) by decide +kernel) (by rw [hnn]; exact o1) ?_
  exact W.zret (v := s_ch j n) hx hb hr o2 (fun t ht hW => ⟨⟨_, (), rfl, by rw [hnn], trivial⟩, hS.F ht⟩) hS.2.2 (show decode cJ1_charAt_3b067 14 = .ok (.ireturn, 1) by decide +kernel)
set_option maxHeartbeats 4000000 in
theorem c_chr (l : Launch) {j : Nat} {q : String × Nat × String} (hj : m_str[j]? = some q) (hj16 : j < 16) {i : Int32} (hi : vp_in i (s_len j)) : Met l yJ0_charAt_5068e (wj yJ0_charAt_5068e cJ0_charAt_5068e 2 (some .char)) (rj 3 85) (va_Pc [.ref (xa (2 + j)), .int i] (sB ba xa)) (va_Qi (fun (r : Int32) (_ : Unit) => r = s_ch j i.toNatClampNeg) (fun _ _ => True) aN) 0 0 aN := by
  refine Met.ofW (cc := cJ0_charAt_5068e) (maxL := 2) (ret := some .char) (by decide +kernel) rfl ?_
  intro p e s m args below meth c s₁ B hml hv
  obtain ⟨rfl, hRO⟩ := hv
  have hx := B.exec
  have hb := B.bytes
  have hr := B.returns
  have hts : ∀ w ∈ lw_T, w.before _ s = true := fun w hw => atoms_spec (ws := wj yJ0_charAt_5068e cJ0_charAt_5068e 2 (some .char)) B.pre w (List.mem_cons_of_mem _ hw)
  have hown : s.vm.findClass RJ0 = some m.cls := findClass_of_methodNamed B.named
  have hlocks := B.notSynchronized
  have hS : va_S aN s.heap s.heap [] := va_S.rf
  have hl := lv_entry ([.ref (xa (2 + j)), .int i]) (n := 2) (Nat.le_of_ble_eq_true rfl)
  rw [lg_entry_eq]
  generalize (lg_sl ([.ref (xa (2 + j)), .int i]) ++ List.replicate (2 - (lg_sl ([.ref (xa (2 + j)), .int i])).length) Slot.unset).toArray = ls at hl ⊢
  have hl : lv_has ls 2 [(0, .ref (xa (2 + j))), (1, .int i)] := hl
  obtain ⟨va, s0, s1, s2, s3⟩ := hRO.2.2.2.2.2.1 j q hj
  refine lv_aload_n hx hb (show decode cJ0_charAt_5068e 0 = .ok (.aload_n 0, 1) by decide +kernel) rfl (lv_at hl 0 rfl) ?_
  have hgi : GoodIn lw_T (wsV RJ0 492 RJ0 yJ0_isLatin1_aae02 (wj yJ0_isLatin1_aae02 cJ0_isLatin1_aae02 1 (some .boolean))) := gi_T fun w hw => by
    simp only [wsV, List.cons_append, List.nil_append, List.mem_cons] at hw
    rcases hw with rfl | rfl | rfl | rfl | hw
    · exact T_mem (by decide +kernel) rfl
    · exact T_mem (by decide +kernel) rfl
    · exact T_mem (by decide +kernel) rfl
    · exact T_mem (by decide +kernel) rfl
    · exact wj_in (by decide +kernel) _ hw
  obtain ⟨cell, g1, g2, g3, -⟩ := id s0
  refine va_calli (va_runV (As := []) (rest := []) ⟨hx, hb, hml, hown, hts⟩ (c_isLatin1 (ba := ba) (xa := xa) l hj) (cwV 0 hts hgi rfl rfl rfl (by decide +kernel) ⟨Nat.le_of_ble_eq_true rfl, Nat.le_of_ble_eq_true rfl⟩) ⟨sB.blind, ⟨cell, g1, g2, g3⟩, fun U hU hW => ⟨rfl, sB.at hRO hS hU hW⟩⟩ rfl rfl hl.1 rfl (lv_room (Nat.le_of_ble_eq_true rfl)) (show decode cJ0_charAt_5068e 1 = .ok (.invokevirtual 492, 3) by decide +kernel) ⟨Nat.le_of_ble_eq_true rfl, Nat.le_of_ble_eq_true rfl⟩) hS (fun q _ h => h) (fun q h => h) (fun r u t H1 locs ht hvm hw hB hz1 hk1 hS => ?_)
  subst hw
  refine lv_if_eq (tgt := 16) hx hb (show decode cJ0_charAt_5068e 4 = .ok (.ifCond .eq 12, 3) by decide +kernel) (by decide) (fun h => absurd h (by decide)) (fun _ => ?_)
  refine lv_aload_n hx hb (show decode cJ0_charAt_5068e 7 = .ok (.aload_n 0, 1) by decide +kernel) rfl (lv_at hl 0 rfl) ?_
  refine vk_getf hx hb s2.no hS hown (T_at hts (w := .fieldLink RJ0 9 "java/lang/String" "value" "[B") (by decide +kernel) rfl) (fun _ h => h) (show decode cJ0_charAt_5068e 8 = .ok (.getfield 9, 3) by decide +kernel) ?_
  refine lv_iload_n hx hb (show decode cJ0_charAt_5068e 11 = .ok (.iload_n 1, 1) by decide +kernel) rfl (lv_at hl 1 rfl) ?_
  have hgi2 : GoodIn lw_T (va_wsS RJ0 495 yJ1_charAt_3b067 (wj yJ1_charAt_3b067 cJ1_charAt_3b067 2 (some .char))) := gi_T fun w hw => by
    simp only [va_wsS, List.cons_append, List.nil_append, List.mem_cons] at hw
    rcases hw with rfl | rfl | rfl | hw
    · exact T_mem (by decide +kernel) rfl
    · exact T_mem (by decide +kernel) rfl
    · exact T_mem (by decide +kernel) rfl
    · exact wj_in (by decide +kernel) _ hw
  refine va_calli (va_runS (As := [.ref va, .int i]) (rest := []) ⟨hx, hb, hml, hown, hts⟩ (c_l1 (ba := ba) (xa := xa) l hj hj16 hi va) (va_cwS 2 hts hgi2 rfl rfl rfl (by decide +kernel) ⟨Nat.le_of_ble_eq_true rfl, Nat.le_of_ble_eq_true rfl⟩) ⟨fun a U g mk h => ⟨h.1, RO.same (s := U) (U := U.calling g mk a) h.2.1 rfl, va_T.moved (u := U) (U := U.calling g mk a) (Vm.Alike.refl U.vm) h.2.2⟩, fun U hU hW => ⟨rfl, sB.at hRO hS hU hW, by rw [hU]; exact (s3.no.kept fun a h1 h2 => hS.2.1 a h1 h2).moved hW.alike⟩⟩ rfl rfl hl.1 rfl (lv_room (Nat.le_of_ble_eq_true rfl)) (show decode cJ0_charAt_5068e 12 = .ok (.invokestatic 495, 3) by decide +kernel) ⟨Nat.le_of_ble_eq_true rfl, Nat.le_of_ble_eq_true rfl⟩) hS (fun q _ h => h) (fun q h => h) (fun r u t H1 locs ht hvm hw hB hz1 hk1 hS => ?_)
  subst hw
  have hlen := s_l31 j hj16
  obtain ⟨n, hn, rfl⟩ := vp_in_of hi (by omega)
  have hnn : (nI n).toNatClampNeg = n := nI_clamp (by omega)
  obtain ⟨o1, o2⟩ := s_ok j hj16 n hn
  rw [hnn]
  exact W.zret (v := s_ch j n) hx hb hr o2 (fun t ht hW => ⟨⟨_, (), rfl, rfl, trivial⟩, hS.F ht⟩) hS.2.2 (show decode cJ0_charAt_5068e 15 = .ok (.ireturn, 1) by decide +kernel)
end CHR13
