set_option maxHeartbeats 4000000 in
set_option maxRecDepth 100000 in
theorem c_J3_checkIndex_8e157 (l : Launch) (G : zG) (a1 a2 : Int32) (hneg : ¬ a1 < 0) (hlt : a1 < a2) : Met l yJ3_checkIndex_8e157 wsJ3_checkIndex_8e157 ({ frames := 0, cells := 0, slots := 0, locals := 0 }) (va_Pc [.int a1, .int a2, .null] (zPp G ([] : va_W))) (zQi (fun r : Int32 => r = a1)) 0 0 (fun _ => False) := by
  refine Met.ofW (cc := cJ3_checkIndex_8e157) (maxL := 3) (ret := (some .int)) (by decide) rfl ?_
  intro p e s m args below meth c s₁ B hml hv
  obtain ⟨rfl, hP, hK⟩ := hv
  have hx := B.exec
  have hb := B.bytes
  have hr := B.returns
  have hts := atoms_spec (ws := wsJ3_checkIndex_8e157) B.pre
  have hown : s.vm.findClass RJ3 = some m.cls := findClass_of_methodNamed B.named
  have hlocks := B.notSynchronized
  have hl := lv_entry ([.int a1, .int a2, .null]) (n := 3) (Nat.le_of_ble_eq_true rfl)
  rw [lg_entry_eq]
  generalize (lg_sl ([.int a1, .int a2, .null]) ++ List.replicate (3 - (lg_sl ([.int a1, .int a2, .null])).length) Slot.unset).toArray = ls at hl ⊢
  have hl : lv_has ls 3 [(0, .int a1), (1, .int a2), (2, .null)] := hl
  refine lv_iload_n hx hb dJ3_checkIndex_8e157_0 rfl (lv_at hl 0 rfl) ?_
  refine lv_if_lt (tgt := 9) hx hb dJ3_checkIndex_8e157_1 (by decide) (fun zc_1 => ?_) (fun zc_1 => ?_)
  · skip
    have zd_1 := Int32.not_le.mpr zc_1
    exact absurd zc_1 hneg
  · skip
    have zd_1 := Int32.not_lt.mp zc_1
    refine lv_iload_n hx hb dJ3_checkIndex_8e157_4 rfl (lv_at hl 0 rfl) ?_
    refine lv_iload_n hx hb dJ3_checkIndex_8e157_5 rfl (lv_at hl 1 rfl) ?_
    refine lv_icmp_lt (tgt := 16) hx hb dJ3_checkIndex_8e157_6 (by decide) (fun zc_2 => ?_) (fun zc_2 => ?_)
    · skip
      have zd_2 := Int32.not_le.mpr zc_2
      refine lv_iload_n hx hb dJ3_checkIndex_8e157_16 rfl (lv_at hl 0 rfl) ?_
      exact W.iret (v := a1) hx hb hr (fun t ht hW => ⟨a1, rfl, rfl, ht⟩) (fun _ h => nomatch h) dJ3_checkIndex_8e157_17
    · skip
      have zd_2 := Int32.not_lt.mp zc_2
      exact absurd hlt zc_2

set_option maxHeartbeats 4000000 in
set_option maxRecDepth 100000 in
theorem c_J15_checkIndex_7cf53 (l : Launch) (G : zG) (a1 a2 : Int32) (hneg : ¬ a1 < 0) (hlt : a1 < a2) : Met l yJ15_checkIndex_7cf53 wsJ15_checkIndex_7cf53 ({ frames := 1, cells := 0, slots := 0, locals := 22 }) (va_Pc [.int a1, .int a2] (zPp G ([] : va_W))) (zQi (fun r : Int32 => r = a1)) 0 0 (fun _ => False) := by
  refine Met.ofW (cc := cJ15_checkIndex_7cf53) (maxL := 2) (ret := (some .int)) (by decide) rfl ?_
  intro p e s m args below meth c s₁ B hml hv
  obtain ⟨rfl, hP, hK⟩ := hv
  have hx := B.exec
  have hb := B.bytes
  have hr := B.returns
  have hts := atoms_spec (ws := wsJ15_checkIndex_7cf53) B.pre
  have hown : s.vm.findClass RJ15 = some m.cls := findClass_of_methodNamed B.named
  have hlocks := B.notSynchronized
  have hl := lv_entry ([.int a1, .int a2]) (n := 2) (Nat.le_of_ble_eq_true rfl)
  rw [lg_entry_eq]
  generalize (lg_sl ([.int a1, .int a2]) ++ List.replicate (2 - (lg_sl ([.int a1, .int a2])).length) Slot.unset).toArray = ls at hl ⊢
  have hl : lv_has ls 2 [(0, .int a1), (1, .int a2)] := hl
  refine lv_iload_n hx hb dJ15_checkIndex_7cf53_0 rfl (lv_at hl 0 rfl) ?_
  refine lv_iload_n hx hb dJ15_checkIndex_7cf53_1 rfl (lv_at hl 1 rfl) ?_
  refine lv_null hx hb dJ15_checkIndex_7cf53_2 ?_
  refine z_csi (va_Run.run (va_runS (As := [.int a1, .int a2, .null]) (rest := []) ⟨hx, hb, hml, hown, hts⟩ (c_J3_checkIndex_8e157 l G a1 a2 (by first | assumption | omega | exact sIx_in.mp (by assumption)) (by first | assumption | omega | exact sIx_in.mp (by assumption))) (va_cwS 3 hts gJ15_checkIndex_7cf53_J3_checkIndex_8e157 rfl rfl rfl (by decide +kernel) ⟨Nat.le_of_ble_eq_true rfl, Nat.le_of_ble_eq_true rfl⟩) (z_ps hK z_none) rfl rfl hl.1 rfl (lv_room (Nat.le_of_ble_eq_true rfl)) dJ15_checkIndex_7cf53_3 ⟨(Nat.zero_le _), (Nat.zero_le _)⟩)) (fun zr_1 hzr_1 => ?_)
  rw [hzr_1]
  exact W.iret (v := a1) hx hb hr (fun t ht hW => ⟨a1, rfl, rfl, ht⟩) (fun _ h => nomatch h) dJ15_checkIndex_7cf53_6

set_option maxHeartbeats 4000000 in
set_option maxRecDepth 100000 in
theorem c_Jx4a65c_elementData_915e3 (l : Launch) (G : zG) (w : va_W) (kl bl : Nat) (mc : Int32) (dd : Nat) (ln : Int32) (kd cap : Nat) (ga : Nat → Option Nat) (a1 : Int32) (hhl : w[kl]? = some (bl, .inr (0, [.int mc, .ref dd, .int ln]))) (hhd : w[kd]? = some (dd, .inl (G.2 5, cap, .inr (.inr (.inr (.inr ga)))))) (hin : vp_in a1 cap) : Met l yJx4a65c_elementData_915e3 wsJx4a65c_elementData_915e3 ({ frames := 0, cells := 0, slots := 0, locals := 0 }) (va_Pc [.ref bl, .int a1] (zPp G w)) (zQq (fun r : Option Nat => r = ga a1.toNatClampNeg)) 0 0 (fun _ => False) := by
  refine Met.ofW (cc := cJx4a65c_elementData_915e3) (maxL := 2) (ret := (some (.object "java/lang/Object"))) (by decide) rfl ?_
  intro p e s m args below meth c s₁ B hml hv
  obtain ⟨rfl, hP, hK⟩ := hv
  have hx := B.exec
  have hb := B.bytes
  have hr := B.returns
  have hts := atoms_spec (ws := wsJx4a65c_elementData_915e3) B.pre
  have hown : s.vm.findClass RJx4a65c = some m.cls := findClass_of_methodNamed B.named
  have hlocks := B.notSynchronized
  have hi_Jx4a65c : ∀ w ∈ u_ws RJx4a65c TJx4a65c 3, w ∈ wsJx4a65c_elementData_915e3 := (fun _ h => List.mem_cons_of_mem _ (List.mem_append_right _ h))
  have hl := lv_entry ([.ref bl, .int a1]) (n := 2) (Nat.le_of_ble_eq_true rfl)
  rw [lg_entry_eq]
  generalize (lg_sl ([.ref bl, .int a1]) ++ List.replicate (2 - (lg_sl ([.ref bl, .int a1])).length) Slot.unset).toArray = ls at hl ⊢
  have hl : lv_has ls 2 [(0, .ref bl), (1, .int a1)] := hl
  refine lv_aload_n hx hb dJx4a65c_elementData_915e3_0 rfl (lv_at hl 0 rfl) ?_
  refine va_get (D := G.1) (ci := 0) (v := .ref dd) (C := RJx4a65c) (T := TJx4a65c) (N := 3) hx hb hts hi_Jx4a65c hown hK hP kl hhl rfl 1 (by decide) (hts (.fieldLink RJx4a65c 9 "java/util/ArrayList" "elementData" "[Ljava/lang/Object;") (List.mem_of_getElem? (i := 1) rfl)) (fun _ h9 => h9) rfl dJx4a65c_elementData_915e3_1 ?_
  refine lv_iload_n hx hb dJx4a65c_elementData_915e3_4 rfl (lv_at hl 1 rfl) ?_
  refine va_aldq hx hb hK hP kd 5 hhd rfl hin dJx4a65c_elementData_915e3_5 ?_
  exact W.aret (v := va_rf (ga a1.toNatClampNeg)) hx hb hr (Or.inl ⟨_, rfl⟩) (zRf_v _) (fun t ht hW => ⟨ga a1.toNatClampNeg, rfl, rfl, ht⟩) (fun _ h => nomatch h) dJx4a65c_elementData_915e3_6

set_option maxHeartbeats 4000000 in
set_option maxRecDepth 100000 in
theorem c_Jx4a65c_get_915e3 (l : Launch) (G : zG) (w : va_W) (kl bl : Nat) (mc : Int32) (dd : Nat) (ln : Int32) (kd cap : Nat) (ga : Nat → Option Nat) (a1 : Int32) (hhl : w[kl]? = some (bl, .inr (0, [.int mc, .ref dd, .int ln]))) (hhd : w[kd]? = some (dd, .inl (G.2 5, cap, .inr (.inr (.inr (.inr ga)))))) (hneg : ¬ a1 < 0) (hlt : a1 < ln) (hin : vp_in a1 cap) : Met l yJx4a65c_get_915e3 wsJx4a65c_get_915e3 ({ frames := 2, cells := 0, slots := 0, locals := 43 }) (va_Pc [.ref bl, .int a1] (zPp G w)) (zQq (fun r : Option Nat => r = ga a1.toNatClampNeg)) 0 0 (fun _ => False) := by
  refine Met.ofW (cc := cJx4a65c_get_915e3) (maxL := 2) (ret := (some (.object "java/lang/Object"))) (by decide) rfl ?_
  intro p e s m args below meth c s₁ B hml hv
  obtain ⟨rfl, hP, hK⟩ := hv
  have hx := B.exec
  have hb := B.bytes
  have hr := B.returns
  have hts := atoms_spec (ws := wsJx4a65c_get_915e3) B.pre
  have hown : s.vm.findClass RJx4a65c = some m.cls := findClass_of_methodNamed B.named
  have hlocks := B.notSynchronized
  have hi_Jx4a65c : ∀ w ∈ u_ws RJx4a65c TJx4a65c 3, w ∈ wsJx4a65c_get_915e3 := (fun _ h => List.mem_cons_of_mem _ (List.mem_append_right _ h))
  have hl := lv_entry ([.ref bl, .int a1]) (n := 2) (Nat.le_of_ble_eq_true rfl)
  rw [lg_entry_eq]
  generalize (lg_sl ([.ref bl, .int a1]) ++ List.replicate (2 - (lg_sl ([.ref bl, .int a1])).length) Slot.unset).toArray = ls at hl ⊢
  have hl : lv_has ls 2 [(0, .ref bl), (1, .int a1)] := hl
  refine lv_iload_n hx hb dJx4a65c_get_915e3_0 rfl (lv_at hl 1 rfl) ?_
  refine lv_aload_n hx hb dJx4a65c_get_915e3_1 rfl (lv_at hl 0 rfl) ?_
  refine va_get (D := G.1) (ci := 0) (v := .int ln) (C := RJx4a65c) (T := TJx4a65c) (N := 3) hx hb hts hi_Jx4a65c hown hK hP kl hhl rfl 2 (by decide) (hts (.fieldLink RJx4a65c 48 "java/util/ArrayList" "size" "I") (List.mem_of_getElem? (i := 1) rfl)) (fun _ h9 => h9) rfl dJx4a65c_get_915e3_2 ?_
  refine z_csi (va_Run.run (va_runS (As := [.int a1, .int ln]) (rest := []) ⟨hx, hb, hml, hown, hts⟩ (c_J15_checkIndex_7cf53 l G a1 ln hneg hlt) (va_cwS 2 hts gJx4a65c_get_915e3_J15_checkIndex_7cf53 rfl rfl rfl (by decide +kernel) ⟨Nat.le_of_ble_eq_true rfl, Nat.le_of_ble_eq_true rfl⟩) (z_ps hK z_none) rfl rfl hl.1 rfl (lv_room (Nat.le_of_ble_eq_true rfl)) dJx4a65c_get_915e3_5 ⟨(Nat.zero_le _), (Nat.zero_le _)⟩)) (fun zr_1 hzr_1 => ?_)
  rw [hzr_1]
  refine lv_pop hx hb dJx4a65c_get_915e3_8 rfl ?_
  refine lv_aload_n hx hb dJx4a65c_get_915e3_9 rfl (lv_at hl 0 rfl) ?_
  refine lv_iload_n hx hb dJx4a65c_get_915e3_10 rfl (lv_at hl 1 rfl) ?_
  refine z_csq (va_Run.run (va_runV (As := [.int a1]) (rest := []) ⟨hx, hb, hml, hown, hts⟩ (c_Jx4a65c_elementData_915e3 l G w kl bl mc dd ln kd cap ga a1 hhl hhd hin) (cwV 1 hts gJx4a65c_get_915e3_Jx4a65c_elementData_915e3 rfl rfl rfl (by decide +kernel) ⟨Nat.le_of_ble_eq_true rfl, Nat.le_of_ble_eq_true rfl⟩) (z_pv hK hP (ci := 0) (q0 := kl) rfl hhl hP) rfl rfl hl.1 rfl (lv_room (Nat.le_of_ble_eq_true rfl)) dJx4a65c_get_915e3_11 ⟨(Nat.zero_le _), (Nat.zero_le _)⟩)) (fun zr_2 hzr_2 => ?_)
  subst hzr_2
  exact W.aret (v := va_rf (ga a1.toNatClampNeg)) hx hb hr (Or.inl ⟨_, rfl⟩) (zRf_v _) (fun t ht hW => ⟨ga a1.toNatClampNeg, rfl, rfl, ht⟩) (fun _ h => nomatch h) dJx4a65c_get_915e3_14

set_option maxHeartbeats 4000000 in
set_option maxRecDepth 100000 in
theorem c_X6_isOnDuty (l : Launch) (G : zG) (d : Nat) (r A : Nat → Nat) (mc : Nat → Int32) (g : Nat → Nat → Int32) (N : Nat → Nat) (T : Nat → Nat → Int32) (w : va_W) (a1 : Int32) (hC : sCQ G d r A mc g N T w) (hp : vp_in a1 9) : Met l yX6_isOnDuty wsX6_isOnDuty ({ frames := 0, cells := 0, slots := 0, locals := 0 }) (va_Pc [.ref (r 0), .int a1] (zPp G w)) (zQi (fun r : Int32 => r = zb (sDuty N T a1))) 0 0 (fun _ => False) := by
  refine Met.ofW (cc := cX6_isOnDuty) (maxL := 2) (ret := (some .boolean)) (by decide) rfl ?_
  intro p e s m args below meth c s₁ B hml hv
  obtain ⟨rfl, hP, hK⟩ := hv
  have hx := B.exec
  have hb := B.bytes
  have hr := B.returns
  have hts := atoms_spec (ws := wsX6_isOnDuty) B.pre
  have hown : s.vm.findClass RX6 = some m.cls := findClass_of_methodNamed B.named
  have hlocks := B.notSynchronized
  have hi_X6 : ∀ w ∈ u_ws RX6 TX6 14, w ∈ wsX6_isOnDuty := (fun _ h => List.mem_cons_of_mem _ (List.mem_append_right _ h))
  have hl := lv_entry ([.ref (r 0), .int a1]) (n := 2) (Nat.le_of_ble_eq_true rfl)
  rw [lg_entry_eq]
  generalize (lg_sl ([.ref (r 0), .int a1]) ++ List.replicate (2 - (lg_sl ([.ref (r 0), .int a1])).length) Slot.unset).toArray = ls at hl ⊢
  have hl : lv_has ls 2 [(0, .ref (r 0)), (1, .int a1)] := hl
  have hh0 : w[0]? = some (r 0, .inr (7, [.ref (r 1), .ref (r 2), .ref (r 3), .ref (r 4), .ref (r 5), .ref (r 6), .ref (r 7), .ref (r 8), .ref (r 9), .ref (r 10), .int (nI (N 0)), .int ((T 19) 0), .int ((T 19) 1), .int (nI (N 6))])) := hC.1.1 0 (by omega)
  have hh3 : w[3]? = some (r 3, .inl (G.2 2, 9, .inl (T 2))) := hC.1.1 3 (by omega)
  refine lv_aload_n hx hb dX6_isOnDuty_0 rfl (lv_at hl 0 rfl) ?_
  refine va_get (D := G.1) (ci := 7) (v := .ref (r 3)) (C := RX6) (T := TX6) (N := 14) hx hb hts hi_X6 hown hK hP 0 hh0 rfl 2 (by decide) (hts (.fieldLink RX6 19 "BoilerLog" "gone" "[Z") (List.mem_of_getElem? (i := 1) rfl)) (fun _ h9 => h9) rfl dX6_isOnDuty_1 ?_
  refine lv_iload_n hx hb dX6_isOnDuty_4 rfl (lv_at hl 1 rfl) ?_
  refine va_zald hx hb hK hP 3 2 hh3 rfl hp dX6_isOnDuty_5 ?_
  refine lv_if_ne (tgt := 28) hx hb dX6_isOnDuty_6 (by decide) (fun zc_1 => ?_) (fun zc_1 => ?_)
  · skip
    refine lv_iconst (v := 0) hx hb dX6_isOnDuty_28 (by decide) ?_
    exact W.zret (v := 0) hx hb hr rfl (fun t ht hW => ⟨0, rfl, (by simp [sDuty, zb, zc_1]), ht⟩) (fun _ h => nomatch h) dX6_isOnDuty_29
  · skip
    refine lv_iload_n hx hb dX6_isOnDuty_9 rfl (lv_at hl 1 rfl) ?_
    refine lv_iconst (v := 3) hx hb dX6_isOnDuty_10 (by decide) ?_
    refine lv_irem hx hb dX6_isOnDuty_11 (by decide) ?_
    refine lv_aload_n hx hb dX6_isOnDuty_12 rfl (lv_at hl 0 rfl) ?_
    refine va_get (D := G.1) (ci := 7) (v := .int (nI (N 0))) (C := RX6) (T := TX6) (N := 14) hx hb hts hi_X6 hown hK hP 0 hh0 rfl 10 (by decide) (hts (.fieldLink RX6 56 "BoilerLog" "now" "I") (List.mem_of_getElem? (i := 2) rfl)) (fun _ h9 => h9) rfl dX6_isOnDuty_13 ?_
    refine lv_bipush (v := 8) hx hb dX6_isOnDuty_16 (by decide) ?_
    refine lv_idiv hx hb dX6_isOnDuty_18 (by decide) ?_
    refine lv_iconst (v := 3) hx hb dX6_isOnDuty_19 (by decide) ?_
    refine lv_irem hx hb dX6_isOnDuty_20 (by decide) ?_
    refine lv_icmp_ne (tgt := 28) hx hb dX6_isOnDuty_21 (by decide) (fun zc_2 => ?_) (fun zc_2 => ?_)
    · skip
      refine lv_iconst (v := 0) hx hb dX6_isOnDuty_28 (by decide) ?_
      exact W.zret (v := 0) hx hb hr rfl (fun t ht hW => ⟨0, rfl, (by simp [sDuty, zb, zc_1, zc_2]), ht⟩) (fun _ h => nomatch h) dX6_isOnDuty_29
    · skip
      refine lv_iconst (v := 1) hx hb dX6_isOnDuty_24 (by decide) ?_
      refine lv_goto (tgt := 29) hx hb dX6_isOnDuty_25 (by decide) ?_
      exact W.zret (v := 1) hx hb hr rfl (fun t ht hW => ⟨1, rfl, (by simp [sDuty, zb, zc_1, zc_2]), ht⟩) (fun _ h => nomatch h) dX6_isOnDuty_29

set_option maxHeartbeats 4000000 in
set_option maxRecDepth 100000 in
theorem c_X6_isAble (l : Launch) (G : zG) (d : Nat) (r A : Nat → Nat) (mc : Nat → Int32) (g : Nat → Nat → Int32) (N : Nat → Nat) (T : Nat → Nat → Int32) (w : va_W) (a1 : Int32) (hC : sCQ G d r A mc g N T w) (hp : vp_in a1 9) : Met l yX6_isAble wsX6_isAble ({ frames := 1, cells := 0, slots := 0, locals := 21 }) (va_Pc [.ref (r 0), .int a1] (zPp G w)) (zQi (fun r : Int32 => r = zb (sMay N T a1))) 0 0 (fun _ => False) := by
  refine Met.ofW (cc := cX6_isAble) (maxL := 2) (ret := (some .boolean)) (by decide) rfl ?_
  intro p e s m args below meth c s₁ B hml hv
  obtain ⟨rfl, hP, hK⟩ := hv
  have hx := B.exec
  have hb := B.bytes
  have hr := B.returns
  have hts := atoms_spec (ws := wsX6_isAble) B.pre
  have hown : s.vm.findClass RX6 = some m.cls := findClass_of_methodNamed B.named
  have hlocks := B.notSynchronized
  have hi_X6 : ∀ w ∈ u_ws RX6 TX6 14, w ∈ wsX6_isAble := (fun _ h => List.mem_cons_of_mem _ (List.mem_append_right _ h))
  have hl := lv_entry ([.ref (r 0), .int a1]) (n := 2) (Nat.le_of_ble_eq_true rfl)
  rw [lg_entry_eq]
  generalize (lg_sl ([.ref (r 0), .int a1]) ++ List.replicate (2 - (lg_sl ([.ref (r 0), .int a1])).length) Slot.unset).toArray = ls at hl ⊢
  have hl : lv_has ls 2 [(0, .ref (r 0)), (1, .int a1)] := hl
  have hh0 : w[0]? = some (r 0, .inr (7, [.ref (r 1), .ref (r 2), .ref (r 3), .ref (r 4), .ref (r 5), .ref (r 6), .ref (r 7), .ref (r 8), .ref (r 9), .ref (r 10), .int (nI (N 0)), .int ((T 19) 0), .int ((T 19) 1), .int (nI (N 6))])) := hC.1.1 0 (by omega)
  have hh4 : w[4]? = some (r 4, .inl (G.2 0, 9, .inl (T 1))) := hC.1.1 4 (by omega)
  refine lv_aload_n hx hb dX6_isAble_0 rfl (lv_at hl 0 rfl) ?_
  refine lv_iload_n hx hb dX6_isAble_1 rfl (lv_at hl 1 rfl) ?_
  refine z_csi (va_Run.run (va_runV (As := [.int a1]) (rest := []) ⟨hx, hb, hml, hown, hts⟩ (c_X6_isOnDuty l G d r A mc g N T w a1 (by first | assumption | omega | exact sIx_in.mp (by assumption)) (by first | assumption | omega | exact sIx_in.mp (by assumption))) (cwV 1 hts gX6_isAble_X6_isOnDuty rfl rfl rfl (by decide +kernel) ⟨Nat.le_of_ble_eq_true rfl, Nat.le_of_ble_eq_true rfl⟩) (z_pv hK hP (ci := 7) (q0 := 0) rfl hh0 hP) rfl rfl hl.1 rfl (lv_room (Nat.le_of_ble_eq_true rfl)) dX6_isAble_2 ⟨(Nat.zero_le _), (Nat.zero_le _)⟩)) (fun zr_1 hzr_1 => ?_)
  subst hzr_1
  refine lv_if_eq (tgt := 25) hx hb dX6_isAble_5 (by decide) (fun zc_2 => ?_) (fun zc_2 => ?_)
  · skip
    have zc_2 := zb_0.mp zc_2
    refine lv_iconst (v := 0) hx hb dX6_isAble_25 (by decide) ?_
    exact W.zret (v := 0) hx hb hr rfl (fun t ht hW => ⟨0, rfl, (by simp [sMay, zb, zc_2]), ht⟩) (fun _ h => nomatch h) dX6_isAble_26
  · skip
    have zc_2 := zb_n0 zc_2
    refine lv_aload_n hx hb dX6_isAble_8 rfl (lv_at hl 0 rfl) ?_
    refine va_get (D := G.1) (ci := 7) (v := .ref (r 4)) (C := RX6) (T := TX6) (N := 14) hx hb hts hi_X6 hown hK hP 0 hh0 rfl 3 (by decide) (hts (.fieldLink RX6 23 "BoilerLog" "entriesRead" "[I") (List.mem_of_getElem? (i := 1) rfl)) (fun _ h9 => h9) rfl dX6_isAble_9 ?_
    refine lv_iload_n hx hb dX6_isAble_12 rfl (lv_at hl 1 rfl) ?_
    refine va_iald hx hb hK hP 4 0 hh4 rfl hp dX6_isAble_13 ?_
    refine lv_aload_n hx hb dX6_isAble_14 rfl (lv_at hl 0 rfl) ?_
    refine va_get (D := G.1) (ci := 7) (v := .int ((T 19) 0)) (C := RX6) (T := TX6) (N := 14) hx hb hts hi_X6 hown hK hP 0 hh0 rfl 11 (by decide) (hts (.fieldLink RX6 60 "BoilerLog" "entriesAtShiftStart" "I") (List.mem_of_getElem? (i := 2) rfl)) (fun _ h9 => h9) rfl dX6_isAble_15 ?_
    refine lv_icmp_lt (tgt := 25) hx hb dX6_isAble_18 (by decide) (fun zc_3 => ?_) (fun zc_3 => ?_)
    · skip
      have zd_3 := Int32.not_le.mpr zc_3
      refine lv_iconst (v := 0) hx hb dX6_isAble_25 (by decide) ?_
      exact W.zret (v := 0) hx hb hr rfl (fun t ht hW => ⟨0, rfl, (by simp [sMay, zb, zc_2, zc_3, zd_3]), ht⟩) (fun _ h => nomatch h) dX6_isAble_26
    · skip
      have zd_3 := Int32.not_lt.mp zc_3
      refine lv_iconst (v := 1) hx hb dX6_isAble_21 (by decide) ?_
      refine lv_goto (tgt := 26) hx hb dX6_isAble_22 (by decide) ?_
      exact W.zret (v := 1) hx hb hr rfl (fun t ht hW => ⟨1, rfl, (by simp [sMay, zb, zc_2, zc_3, zd_3]), ht⟩) (fun _ h => nomatch h) dX6_isAble_26
