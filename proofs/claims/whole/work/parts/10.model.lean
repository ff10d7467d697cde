set_option maxHeartbeats 4000000 in
set_option maxRecDepth 100000 in
theorem c_X7_in (l : Launch) (G : zG) (v lo hi : Int32)  : Met l yX7_in wsX7_in ({ frames := 0, cells := 0, slots := 0, locals := 0 }) (va_Pc [.int v, .int lo, .int hi] (zPp G ([] : va_W))) (zQi (fun r : Int32 => r = zb (sIn v lo hi))) 0 0 (fun _ => False) := by
  refine Met.ofW (cc := cX7_in) (maxL := 3) (ret := (some .boolean)) (by decide) rfl ?_
  intro p e s m args below meth c s₁ B hml hv
  obtain ⟨rfl, hP, hK⟩ := hv
  have hx := B.exec
  have hb := B.bytes
  have hr := B.returns
  have hts := atoms_spec (ws := wsX7_in) B.pre
  have hown : s.vm.findClass RX7 = some m.cls := findClass_of_methodNamed B.named
  have hlocks := B.notSynchronized
  have hl := lv_entry ([.int v, .int lo, .int hi]) (n := 3) (Nat.le_of_ble_eq_true rfl)
  rw [lg_entry_eq]
  generalize (lg_sl ([.int v, .int lo, .int hi]) ++ List.replicate (3 - (lg_sl ([.int v, .int lo, .int hi])).length) Slot.unset).toArray = ls at hl ⊢
  have hl : lv_has ls 3 [(0, .int v), (1, .int lo), (2, .int hi)] := hl
  refine lv_iload_n hx hb dX7_in_0 rfl (lv_at hl 0 rfl) ?_
  refine lv_iload_n hx hb dX7_in_1 rfl (lv_at hl 1 rfl) ?_
  refine lv_icmp_lt (tgt := 14) hx hb dX7_in_2 (by decide) (fun zc_1 => ?_) (fun zc_1 => ?_)
  · skip
    have zd_1 := Int32.not_le.mpr zc_1
    refine lv_iconst (v := 0) hx hb dX7_in_14 (by decide) ?_
    exact W.zret (v := 0) hx hb hr rfl (fun t ht hW => ⟨0, rfl, (by simp [sIn, zb, zc_1, zd_1]), ht⟩) (fun _ h => nomatch h) dX7_in_15
  · skip
    have zd_1 := Int32.not_lt.mp zc_1
    refine lv_iload_n hx hb dX7_in_5 rfl (lv_at hl 0 rfl) ?_
    refine lv_iload_n hx hb dX7_in_6 rfl (lv_at hl 2 rfl) ?_
    refine lv_icmp_gt (tgt := 14) hx hb dX7_in_7 (by decide) (fun zc_2 => ?_) (fun zc_2 => ?_)
    · skip
      have zd_2 := Int32.not_le.mpr zc_2
      refine lv_iconst (v := 0) hx hb dX7_in_14 (by decide) ?_
      exact W.zret (v := 0) hx hb hr rfl (fun t ht hW => ⟨0, rfl, (by simp [sIn, zb, zc_1, zd_1, zc_2, zd_2]), ht⟩) (fun _ h => nomatch h) dX7_in_15
    · skip
      have zd_2 := Int32.not_lt.mp zc_2
      refine lv_iconst (v := 1) hx hb dX7_in_10 (by decide) ?_
      refine lv_goto (tgt := 15) hx hb dX7_in_11 (by decide) ?_
      exact W.zret (v := 1) hx hb hr rfl (fun t ht hW => ⟨1, rfl, (by simp [sIn, zb, zc_1, zd_1, zc_2, zd_2]), ht⟩) (fun _ h => nomatch h) dX7_in_15

set_option maxHeartbeats 4000000 in
set_option maxRecDepth 100000 in
theorem c_X7_isPerson (l : Launch) (G : zG) (v : Int32)  : Met l yX7_isPerson wsX7_isPerson ({ frames := 1, cells := 0, slots := 0, locals := 22 }) (va_Pc [.int v] (zPp G ([] : va_W))) (zQi (fun r : Int32 => r = zb (sIx v 9))) 0 0 (fun _ => False) := by
  refine Met.ofW (cc := cX7_isPerson) (maxL := 1) (ret := (some .boolean)) (by decide) rfl ?_
  intro p e s m args below meth c s₁ B hml hv
  obtain ⟨rfl, hP, hK⟩ := hv
  have hx := B.exec
  have hb := B.bytes
  have hr := B.returns
  have hts := atoms_spec (ws := wsX7_isPerson) B.pre
  have hown : s.vm.findClass RX7 = some m.cls := findClass_of_methodNamed B.named
  have hlocks := B.notSynchronized
  have hl := lv_entry ([.int v]) (n := 1) (Nat.le_of_ble_eq_true rfl)
  rw [lg_entry_eq]
  generalize (lg_sl ([.int v]) ++ List.replicate (1 - (lg_sl ([.int v])).length) Slot.unset).toArray = ls at hl ⊢
  have hl : lv_has ls 1 [(0, .int v)] := hl
  refine lv_iload_n hx hb dX7_isPerson_0 rfl (lv_at hl 0 rfl) ?_
  refine lv_iconst (v := 0) hx hb dX7_isPerson_1 (by decide) ?_
  refine lv_bipush (v := 8) hx hb dX7_isPerson_2 (by decide) ?_
  refine z_csi (va_Run.run (va_runS (As := [.int v, .int 0, .int 8]) (rest := []) ⟨hx, hb, hml, hown, hts⟩ (c_X7_in l G v 0 8) (va_cwS 3 hts gX7_isPerson_X7_in rfl rfl rfl (by decide +kernel) ⟨Nat.le_of_ble_eq_true rfl, Nat.le_of_ble_eq_true rfl⟩) (z_ps hK z_none) rfl rfl hl.1 rfl (lv_room (Nat.le_of_ble_eq_true rfl)) dX7_isPerson_4 ⟨(Nat.zero_le _), (Nat.zero_le _)⟩)) (fun zr_1 hzr_1 => ?_)
  subst hzr_1
  exact W.zret (v := zb (sIn v 0 8)) hx hb hr (zn_zb _) (fun t ht hW => ⟨zb (sIn v 0 8), rfl, (by rw [sIn_8]), ht⟩) (fun _ h => nomatch h) dX7_isPerson_7

set_option maxHeartbeats 4000000 in
set_option maxRecDepth 100000 in
theorem c_X7_isValve (l : Launch) (G : zG) (v : Int32)  : Met l yX7_isValve wsX7_isValve ({ frames := 1, cells := 0, slots := 0, locals := 22 }) (va_Pc [.int v] (zPp G ([] : va_W))) (zQi (fun r : Int32 => r = zb (sIx v 8))) 0 0 (fun _ => False) := by
  refine Met.ofW (cc := cX7_isValve) (maxL := 1) (ret := (some .boolean)) (by decide) rfl ?_
  intro p e s m args below meth c s₁ B hml hv
  obtain ⟨rfl, hP, hK⟩ := hv
  have hx := B.exec
  have hb := B.bytes
  have hr := B.returns
  have hts := atoms_spec (ws := wsX7_isValve) B.pre
  have hown : s.vm.findClass RX7 = some m.cls := findClass_of_methodNamed B.named
  have hlocks := B.notSynchronized
  have hl := lv_entry ([.int v]) (n := 1) (Nat.le_of_ble_eq_true rfl)
  rw [lg_entry_eq]
  generalize (lg_sl ([.int v]) ++ List.replicate (1 - (lg_sl ([.int v])).length) Slot.unset).toArray = ls at hl ⊢
  have hl : lv_has ls 1 [(0, .int v)] := hl
  refine lv_iload_n hx hb dX7_isValve_0 rfl (lv_at hl 0 rfl) ?_
  refine lv_iconst (v := 0) hx hb dX7_isValve_1 (by decide) ?_
  refine lv_bipush (v := 7) hx hb dX7_isValve_2 (by decide) ?_
  refine z_csi (va_Run.run (va_runS (As := [.int v, .int 0, .int 7]) (rest := []) ⟨hx, hb, hml, hown, hts⟩ (c_X7_in l G v 0 7) (va_cwS 3 hts gX7_isValve_X7_in rfl rfl rfl (by decide +kernel) ⟨Nat.le_of_ble_eq_true rfl, Nat.le_of_ble_eq_true rfl⟩) (z_ps hK z_none) rfl rfl hl.1 rfl (lv_room (Nat.le_of_ble_eq_true rfl)) dX7_isValve_4 ⟨(Nat.zero_le _), (Nat.zero_le _)⟩)) (fun zr_1 hzr_1 => ?_)
  subst hzr_1
  exact W.zret (v := zb (sIn v 0 7)) hx hb hr (zn_zb _) (fun t ht hW => ⟨zb (sIn v 0 7), rfl, (by rw [sIn_7]), ht⟩) (fun _ h => nomatch h) dX7_isValve_7

set_option maxHeartbeats 4000000 in
set_option maxRecDepth 100000 in
theorem c_X7_isVessel (l : Launch) (G : zG) (v : Int32)  : Met l yX7_isVessel wsX7_isVessel ({ frames := 1, cells := 0, slots := 0, locals := 22 }) (va_Pc [.int v] (zPp G ([] : va_W))) (zQi (fun r : Int32 => r = zb (sIx v 3))) 0 0 (fun _ => False) := by
  refine Met.ofW (cc := cX7_isVessel) (maxL := 1) (ret := (some .boolean)) (by decide) rfl ?_
  intro p e s m args below meth c s₁ B hml hv
  obtain ⟨rfl, hP, hK⟩ := hv
  have hx := B.exec
  have hb := B.bytes
  have hr := B.returns
  have hts := atoms_spec (ws := wsX7_isVessel) B.pre
  have hown : s.vm.findClass RX7 = some m.cls := findClass_of_methodNamed B.named
  have hlocks := B.notSynchronized
  have hl := lv_entry ([.int v]) (n := 1) (Nat.le_of_ble_eq_true rfl)
  rw [lg_entry_eq]
  generalize (lg_sl ([.int v]) ++ List.replicate (1 - (lg_sl ([.int v])).length) Slot.unset).toArray = ls at hl ⊢
  have hl : lv_has ls 1 [(0, .int v)] := hl
  refine lv_iload_n hx hb dX7_isVessel_0 rfl (lv_at hl 0 rfl) ?_
  refine lv_iconst (v := 0) hx hb dX7_isVessel_1 (by decide) ?_
  refine lv_iconst (v := 2) hx hb dX7_isVessel_2 (by decide) ?_
  refine z_csi (va_Run.run (va_runS (As := [.int v, .int 0, .int 2]) (rest := []) ⟨hx, hb, hml, hown, hts⟩ (c_X7_in l G v 0 2) (va_cwS 3 hts gX7_isVessel_X7_in rfl rfl rfl (by decide +kernel) ⟨Nat.le_of_ble_eq_true rfl, Nat.le_of_ble_eq_true rfl⟩) (z_ps hK z_none) rfl rfl hl.1 rfl (lv_room (Nat.le_of_ble_eq_true rfl)) dX7_isVessel_3 ⟨(Nat.zero_le _), (Nat.zero_le _)⟩)) (fun zr_1 hzr_1 => ?_)
  subst hzr_1
  exact W.zret (v := zb (sIn v 0 2)) hx hb hr (zn_zb _) (fun t ht hW => ⟨zb (sIn v 0 2), rfl, (by rw [sIn_2]), ht⟩) (fun _ h => nomatch h) dX7_isVessel_6

set_option maxHeartbeats 4000000 in
set_option maxRecDepth 100000 in
theorem c_X7_isHighOne (l : Launch) (G : zG) (v : Int32)  : Met l yX7_isHighOne wsX7_isHighOne ({ frames := 0, cells := 0, slots := 0, locals := 0 }) (va_Pc [.int v] (zPp G ([] : va_W))) (zQi (fun r : Int32 => r = zb (sHi v))) 0 0 (fun _ => False) := by
  refine Met.ofW (cc := cX7_isHighOne) (maxL := 1) (ret := (some .boolean)) (by decide) rfl ?_
  intro p e s m args below meth c s₁ B hml hv
  obtain ⟨rfl, hP, hK⟩ := hv
  have hx := B.exec
  have hb := B.bytes
  have hr := B.returns
  have hts := atoms_spec (ws := wsX7_isHighOne) B.pre
  have hown : s.vm.findClass RX7 = some m.cls := findClass_of_methodNamed B.named
  have hlocks := B.notSynchronized
  have hl := lv_entry ([.int v]) (n := 1) (Nat.le_of_ble_eq_true rfl)
  rw [lg_entry_eq]
  generalize (lg_sl ([.int v]) ++ List.replicate (1 - (lg_sl ([.int v])).length) Slot.unset).toArray = ls at hl ⊢
  have hl : lv_has ls 1 [(0, .int v)] := hl
  refine lv_iload_n hx hb dX7_isHighOne_0 rfl (lv_at hl 0 rfl) ?_
  refine lv_ldc (v := 55296) hx hb hown (hts _ (List.mem_of_getElem? (i := 1) rfl)) dX7_isHighOne_1 ?_
  refine lv_icmp_lt (tgt := 16) hx hb dX7_isHighOne_3 (by decide) (fun zc_1 => ?_) (fun zc_1 => ?_)
  · skip
    have zd_1 := Int32.not_le.mpr zc_1
    refine lv_iconst (v := 0) hx hb dX7_isHighOne_16 (by decide) ?_
    exact W.zret (v := 0) hx hb hr rfl (fun t ht hW => ⟨0, rfl, (by simp [sHi, zb, zc_1, zd_1]), ht⟩) (fun _ h => nomatch h) dX7_isHighOne_17
  · skip
    have zd_1 := Int32.not_lt.mp zc_1
    refine lv_iload_n hx hb dX7_isHighOne_6 rfl (lv_at hl 0 rfl) ?_
    refine lv_ldc (v := 56319) hx hb hown (hts _ (List.mem_of_getElem? (i := 2) rfl)) dX7_isHighOne_7 ?_
    refine lv_icmp_gt (tgt := 16) hx hb dX7_isHighOne_9 (by decide) (fun zc_2 => ?_) (fun zc_2 => ?_)
    · skip
      have zd_2 := Int32.not_le.mpr zc_2
      refine lv_iconst (v := 0) hx hb dX7_isHighOne_16 (by decide) ?_
      exact W.zret (v := 0) hx hb hr rfl (fun t ht hW => ⟨0, rfl, (by simp [sHi, zb, zc_1, zd_1, zc_2, zd_2]), ht⟩) (fun _ h => nomatch h) dX7_isHighOne_17
    · skip
      have zd_2 := Int32.not_lt.mp zc_2
      refine lv_iconst (v := 1) hx hb dX7_isHighOne_12 (by decide) ?_
      refine lv_goto (tgt := 17) hx hb dX7_isHighOne_13 (by decide) ?_
      exact W.zret (v := 1) hx hb hr rfl (fun t ht hW => ⟨1, rfl, (by simp [sHi, zb, zc_1, zd_1, zc_2, zd_2]), ht⟩) (fun _ h => nomatch h) dX7_isHighOne_17

set_option maxHeartbeats 4000000 in
set_option maxRecDepth 100000 in
theorem c_X7_isLowOne (l : Launch) (G : zG) (v : Int32)  : Met l yX7_isLowOne wsX7_isLowOne ({ frames := 0, cells := 0, slots := 0, locals := 0 }) (va_Pc [.int v] (zPp G ([] : va_W))) (zQi (fun r : Int32 => r = zb (sLo v))) 0 0 (fun _ => False) := by
  refine Met.ofW (cc := cX7_isLowOne) (maxL := 1) (ret := (some .boolean)) (by decide) rfl ?_
  intro p e s m args below meth c s₁ B hml hv
  obtain ⟨rfl, hP, hK⟩ := hv
  have hx := B.exec
  have hb := B.bytes
  have hr := B.returns
  have hts := atoms_spec (ws := wsX7_isLowOne) B.pre
  have hown : s.vm.findClass RX7 = some m.cls := findClass_of_methodNamed B.named
  have hlocks := B.notSynchronized
  have hl := lv_entry ([.int v]) (n := 1) (Nat.le_of_ble_eq_true rfl)
  rw [lg_entry_eq]
  generalize (lg_sl ([.int v]) ++ List.replicate (1 - (lg_sl ([.int v])).length) Slot.unset).toArray = ls at hl ⊢
  have hl : lv_has ls 1 [(0, .int v)] := hl
  refine lv_iload_n hx hb dX7_isLowOne_0 rfl (lv_at hl 0 rfl) ?_
  refine lv_ldc (v := 56320) hx hb hown (hts _ (List.mem_of_getElem? (i := 1) rfl)) dX7_isLowOne_1 ?_
  refine lv_icmp_lt (tgt := 16) hx hb dX7_isLowOne_3 (by decide) (fun zc_1 => ?_) (fun zc_1 => ?_)
  · skip
    have zd_1 := Int32.not_le.mpr zc_1
    refine lv_iconst (v := 0) hx hb dX7_isLowOne_16 (by decide) ?_
    exact W.zret (v := 0) hx hb hr rfl (fun t ht hW => ⟨0, rfl, (by simp [sLo, zb, zc_1, zd_1]), ht⟩) (fun _ h => nomatch h) dX7_isLowOne_17
  · skip
    have zd_1 := Int32.not_lt.mp zc_1
    refine lv_iload_n hx hb dX7_isLowOne_6 rfl (lv_at hl 0 rfl) ?_
    refine lv_ldc (v := 57343) hx hb hown (hts _ (List.mem_of_getElem? (i := 2) rfl)) dX7_isLowOne_7 ?_
    refine lv_icmp_gt (tgt := 16) hx hb dX7_isLowOne_9 (by decide) (fun zc_2 => ?_) (fun zc_2 => ?_)
    · skip
      have zd_2 := Int32.not_le.mpr zc_2
      refine lv_iconst (v := 0) hx hb dX7_isLowOne_16 (by decide) ?_
      exact W.zret (v := 0) hx hb hr rfl (fun t ht hW => ⟨0, rfl, (by simp [sLo, zb, zc_1, zd_1, zc_2, zd_2]), ht⟩) (fun _ h => nomatch h) dX7_isLowOne_17
    · skip
      have zd_2 := Int32.not_lt.mp zc_2
      refine lv_iconst (v := 1) hx hb dX7_isLowOne_12 (by decide) ?_
      refine lv_goto (tgt := 17) hx hb dX7_isLowOne_13 (by decide) ?_
      exact W.zret (v := 1) hx hb hr rfl (fun t ht hW => ⟨1, rfl, (by simp [sLo, zb, zc_1, zd_1, zc_2, zd_2]), ht⟩) (fun _ h => nomatch h) dX7_isLowOne_17

set_option maxHeartbeats 4000000 in
set_option maxRecDepth 100000 in
theorem c_X7_isTag (l : Launch) (G : zG) (q : Nat → Nat) (th : Int32) (N : Nat → Nat) (T : Nat → Nat → Int32) (E : Nat → Int64) (hg ag mn sd tk : Nat → Int32) (sg : Int32) (sn : Nat → Int32) (a1 : Int32) (hn2 : N 2 < 2 ^ 31) : Met l yX7_isTag wsX7_isTag ({ frames := 1, cells := 0, slots := 0, locals := 22 }) (va_Pc [.ref (q 0), .int a1] (zPp G (mW G q th N T E hg ag mn sd tk sg sn))) (zQi (fun r : Int32 => r = zb (sIx a1 (N 2)))) 0 0 (fun _ => False) := by
  refine Met.ofW (cc := cX7_isTag) (maxL := 2) (ret := (some .boolean)) (by decide) rfl ?_
  intro p e s m args below meth c s₁ B hml hv
  obtain ⟨rfl, hP, hK⟩ := hv
  have hx := B.exec
  have hb := B.bytes
  have hr := B.returns
  have hts := atoms_spec (ws := wsX7_isTag) B.pre
  have hown : s.vm.findClass RX7 = some m.cls := findClass_of_methodNamed B.named
  have hlocks := B.notSynchronized
  have hi_X7 : ∀ w ∈ u_ws RX7 TX7 32, w ∈ wsX7_isTag := (fun _ h => List.mem_cons_of_mem _ (List.mem_append_right _ h))
  have hP : va_P G.1 vwCl [(q 0, .inr (8, [.int th, .int (nI (N 0)), .int (nI (N 1)), .ref (q 1), .int (T 19 0), .ref (q 2), .ref (q 3), .ref (q 4), .ref (q 5), .ref (q 6), .ref (q 7), .int (T 19 1), .int (nI (N 2)), .ref (q 8), .ref (q 9), .ref (q 10), .int (nI (N 3)), .ref (q 11), .ref (q 12), .ref (q 13), .ref (q 14), .ref (q 15), .ref (q 16), .int (nI (N 4)), .ref (q 17), .int (nI (N 5)), .ref (q 18), .ref (q 19), .int (nI (N 6)), .ref (q 20), .int sg, .ref (q 21)])), (q 1, .inl (G.2 1, 12500, .inr (.inl E))), (q 2, .inl (G.2 0, 9, .inl (T 1))), (q 3, .inl (G.2 2, 9, .inl (T 2))), (q 4, .inl (G.2 2, 8, .inl (T 3))), (q 5, .inl (G.2 0, 8, .inl (T 4))), (q 6, .inl (G.2 0, 8, .inl (T 5))), (q 7, .inl (G.2 0, 3, .inl (T 6))), (q 8, .inl (G.2 0, 40, .inl hg)), (q 9, .inl (G.2 0, 40, .inl (T 7))), (q 10, .inl (G.2 0, 40, .inl ag)), (q 11, .inl (G.2 0, 10, .inl (T 11))), (q 12, .inl (G.2 0, 10, .inl (T 12))), (q 13, .inl (G.2 2, 10, .inl (T 13))), (q 14, .inl (G.2 0, 10, .inl (T 14))), (q 15, .inl (G.2 2, 10, .inl (T 15))), (q 16, .inl (G.2 0, 10, .inl (T 16))), (q 17, .inl (G.2 3, 40, .inl (T 17))), (q 18, .inl (G.2 0, 60, .inl mn)), (q 19, .inl (G.2 3, 2400, .inl sd)), (q 20, .inl (G.2 0, 60, .inl tk)), (q 21, .inl (G.2 0, 40, .inl sn))] s.heap := hP
  have hl := lv_entry ([.ref (q 0), .int a1]) (n := 2) (Nat.le_of_ble_eq_true rfl)
  rw [lg_entry_eq]
  generalize (lg_sl ([.ref (q 0), .int a1]) ++ List.replicate (2 - (lg_sl ([.ref (q 0), .int a1])).length) Slot.unset).toArray = ls at hl ⊢
  have hl : lv_has ls 2 [(0, .ref (q 0)), (1, .int a1)] := hl
  refine lv_iload_n hx hb dX7_isTag_0 rfl (lv_at hl 1 rfl) ?_
  refine lv_iconst (v := 0) hx hb dX7_isTag_1 (by decide) ?_
  refine lv_aload_n hx hb dX7_isTag_2 rfl (lv_at hl 0 rfl) ?_
  refine va_get (D := G.1) (ci := 8) (v := .int (nI (N 2))) (C := RX7) (T := TX7) (N := 32) hx hb hts hi_X7 hown hK hP 0 rfl rfl 12 (by decide) (hts (.fieldLink RX7 84 "BoilerLogModel" "tags" "I") (List.mem_of_getElem? (i := 1) rfl)) (fun _ h9 => h9) rfl dX7_isTag_3 ?_
  refine lv_iconst (v := 1) hx hb dX7_isTag_6 (by decide) ?_
  refine lv_isub hx hb dX7_isTag_7 ?_
  refine z_csi (va_Run.run (va_runS (As := [.int a1, .int 0, .int ((nI (N 2)) - 1)]) (rest := []) ⟨hx, hb, hml, hown, hts⟩ (c_X7_in l G a1 0 ((nI (N 2)) - 1)) (va_cwS 3 hts gX7_isTag_X7_in rfl rfl rfl (by decide +kernel) ⟨Nat.le_of_ble_eq_true rfl, Nat.le_of_ble_eq_true rfl⟩) (z_ps hK z_none) rfl rfl hl.1 rfl (lv_room (Nat.le_of_ble_eq_true rfl)) dX7_isTag_8 ⟨(Nat.zero_le _), (Nat.zero_le _)⟩)) (fun zr_1 hzr_1 => ?_)
  subst hzr_1
  exact W.zret (v := zb (sIn a1 0 ((nI (N 2)) - 1))) hx hb hr (zn_zb _) (fun t ht hW => ⟨zb (sIn a1 0 ((nI (N 2)) - 1)), rfl, (by rw [sIn_ix hn2]), ht⟩) (fun _ h => nomatch h) dX7_isTag_11

set_option maxHeartbeats 4000000 in
set_option maxRecDepth 100000 in
theorem c_X7_isThread (l : Launch) (G : zG) (q : Nat → Nat) (th : Int32) (N : Nat → Nat) (T : Nat → Nat → Int32) (E : Nat → Int64) (hg ag mn sd tk : Nat → Int32) (sg : Int32) (sn : Nat → Int32) (a1 : Int32) (hn6 : N 6 < 2 ^ 31) : Met l yX7_isThread wsX7_isThread ({ frames := 1, cells := 0, slots := 0, locals := 22 }) (va_Pc [.ref (q 0), .int a1] (zPp G (mW G q th N T E hg ag mn sd tk sg sn))) (zQi (fun r : Int32 => r = zb (sIx a1 (N 6)))) 0 0 (fun _ => False) := by
  refine Met.ofW (cc := cX7_isThread) (maxL := 2) (ret := (some .boolean)) (by decide) rfl ?_
  intro p e s m args below meth c s₁ B hml hv
  obtain ⟨rfl, hP, hK⟩ := hv
  have hx := B.exec
  have hb := B.bytes
  have hr := B.returns
  have hts := atoms_spec (ws := wsX7_isThread) B.pre
  have hown : s.vm.findClass RX7 = some m.cls := findClass_of_methodNamed B.named
  have hlocks := B.notSynchronized
  have hi_X7 : ∀ w ∈ u_ws RX7 TX7 32, w ∈ wsX7_isThread := (fun _ h => List.mem_cons_of_mem _ (List.mem_append_right _ h))
  have hP : va_P G.1 vwCl [(q 0, .inr (8, [.int th, .int (nI (N 0)), .int (nI (N 1)), .ref (q 1), .int (T 19 0), .ref (q 2), .ref (q 3), .ref (q 4), .ref (q 5), .ref (q 6), .ref (q 7), .int (T 19 1), .int (nI (N 2)), .ref (q 8), .ref (q 9), .ref (q 10), .int (nI (N 3)), .ref (q 11), .ref (q 12), .ref (q 13), .ref (q 14), .ref (q 15), .ref (q 16), .int (nI (N 4)), .ref (q 17), .int (nI (N 5)), .ref (q 18), .ref (q 19), .int (nI (N 6)), .ref (q 20), .int sg, .ref (q 21)])), (q 1, .inl (G.2 1, 12500, .inr (.inl E))), (q 2, .inl (G.2 0, 9, .inl (T 1))), (q 3, .inl (G.2 2, 9, .inl (T 2))), (q 4, .inl (G.2 2, 8, .inl (T 3))), (q 5, .inl (G.2 0, 8, .inl (T 4))), (q 6, .inl (G.2 0, 8, .inl (T 5))), (q 7, .inl (G.2 0, 3, .inl (T 6))), (q 8, .inl (G.2 0, 40, .inl hg)), (q 9, .inl (G.2 0, 40, .inl (T 7))), (q 10, .inl (G.2 0, 40, .inl ag)), (q 11, .inl (G.2 0, 10, .inl (T 11))), (q 12, .inl (G.2 0, 10, .inl (T 12))), (q 13, .inl (G.2 2, 10, .inl (T 13))), (q 14, .inl (G.2 0, 10, .inl (T 14))), (q 15, .inl (G.2 2, 10, .inl (T 15))), (q 16, .inl (G.2 0, 10, .inl (T 16))), (q 17, .inl (G.2 3, 40, .inl (T 17))), (q 18, .inl (G.2 0, 60, .inl mn)), (q 19, .inl (G.2 3, 2400, .inl sd)), (q 20, .inl (G.2 0, 60, .inl tk)), (q 21, .inl (G.2 0, 40, .inl sn))] s.heap := hP
  have hl := lv_entry ([.ref (q 0), .int a1]) (n := 2) (Nat.le_of_ble_eq_true rfl)
  rw [lg_entry_eq]
  generalize (lg_sl ([.ref (q 0), .int a1]) ++ List.replicate (2 - (lg_sl ([.ref (q 0), .int a1])).length) Slot.unset).toArray = ls at hl ⊢
  have hl : lv_has ls 2 [(0, .ref (q 0)), (1, .int a1)] := hl
  refine lv_iload_n hx hb dX7_isThread_0 rfl (lv_at hl 1 rfl) ?_
  refine lv_iconst (v := 0) hx hb dX7_isThread_1 (by decide) ?_
  refine lv_aload_n hx hb dX7_isThread_2 rfl (lv_at hl 0 rfl) ?_
  refine va_get (D := G.1) (ci := 8) (v := .int (nI (N 6))) (C := RX7) (T := TX7) (N := 32) hx hb hts hi_X7 hown hK hP 0 rfl rfl 28 (by decide) (hts (.fieldLink RX7 173 "BoilerLogModel" "threads" "I") (List.mem_of_getElem? (i := 1) rfl)) (fun _ h9 => h9) rfl dX7_isThread_3 ?_
  refine lv_iconst (v := 1) hx hb dX7_isThread_6 (by decide) ?_
  refine lv_isub hx hb dX7_isThread_7 ?_
  refine z_csi (va_Run.run (va_runS (As := [.int a1, .int 0, .int ((nI (N 6)) - 1)]) (rest := []) ⟨hx, hb, hml, hown, hts⟩ (c_X7_in l G a1 0 ((nI (N 6)) - 1)) (va_cwS 3 hts gX7_isThread_X7_in rfl rfl rfl (by decide +kernel) ⟨Nat.le_of_ble_eq_true rfl, Nat.le_of_ble_eq_true rfl⟩) (z_ps hK z_none) rfl rfl hl.1 rfl (lv_room (Nat.le_of_ble_eq_true rfl)) dX7_isThread_8 ⟨(Nat.zero_le _), (Nat.zero_le _)⟩)) (fun zr_1 hzr_1 => ?_)
  subst hzr_1
  exact W.zret (v := zb (sIn a1 0 ((nI (N 6)) - 1))) hx hb hr (zn_zb _) (fun t ht hW => ⟨zb (sIn a1 0 ((nI (N 6)) - 1)), rfl, (by rw [sIn_ix hn6]), ht⟩) (fun _ h => nomatch h) dX7_isThread_11

set_option maxHeartbeats 4000000 in
set_option maxRecDepth 100000 in
theorem c_X7_isOnDuty (l : Launch) (G : zG) (q : Nat → Nat) (th : Int32) (N : Nat → Nat) (T : Nat → Nat → Int32) (E : Nat → Int64) (hg ag mn sd tk : Nat → Int32) (sg : Int32) (sn : Nat → Int32) (a1 : Int32) (hp : vp_in a1 9) : Met l yX7_isOnDuty wsX7_isOnDuty ({ frames := 0, cells := 0, slots := 0, locals := 0 }) (va_Pc [.ref (q 0), .int a1] (zPp G (mW G q th N T E hg ag mn sd tk sg sn))) (zQi (fun r : Int32 => r = zb (sDuty N T a1))) 0 0 (fun _ => False) := by
  refine Met.ofW (cc := cX7_isOnDuty) (maxL := 2) (ret := (some .boolean)) (by decide) rfl ?_
  intro p e s m args below meth c s₁ B hml hv
  obtain ⟨rfl, hP, hK⟩ := hv
  have hx := B.exec
  have hb := B.bytes
  have hr := B.returns
  have hts := atoms_spec (ws := wsX7_isOnDuty) B.pre
  have hown : s.vm.findClass RX7 = some m.cls := findClass_of_methodNamed B.named
  have hlocks := B.notSynchronized
  have hi_X7 : ∀ w ∈ u_ws RX7 TX7 32, w ∈ wsX7_isOnDuty := (fun _ h => List.mem_cons_of_mem _ (List.mem_append_right _ h))
  have hP : va_P G.1 vwCl [(q 0, .inr (8, [.int th, .int (nI (N 0)), .int (nI (N 1)), .ref (q 1), .int (T 19 0), .ref (q 2), .ref (q 3), .ref (q 4), .ref (q 5), .ref (q 6), .ref (q 7), .int (T 19 1), .int (nI (N 2)), .ref (q 8), .ref (q 9), .ref (q 10), .int (nI (N 3)), .ref (q 11), .ref (q 12), .ref (q 13), .ref (q 14), .ref (q 15), .ref (q 16), .int (nI (N 4)), .ref (q 17), .int (nI (N 5)), .ref (q 18), .ref (q 19), .int (nI (N 6)), .ref (q 20), .int sg, .ref (q 21)])), (q 1, .inl (G.2 1, 12500, .inr (.inl E))), (q 2, .inl (G.2 0, 9, .inl (T 1))), (q 3, .inl (G.2 2, 9, .inl (T 2))), (q 4, .inl (G.2 2, 8, .inl (T 3))), (q 5, .inl (G.2 0, 8, .inl (T 4))), (q 6, .inl (G.2 0, 8, .inl (T 5))), (q 7, .inl (G.2 0, 3, .inl (T 6))), (q 8, .inl (G.2 0, 40, .inl hg)), (q 9, .inl (G.2 0, 40, .inl (T 7))), (q 10, .inl (G.2 0, 40, .inl ag)), (q 11, .inl (G.2 0, 10, .inl (T 11))), (q 12, .inl (G.2 0, 10, .inl (T 12))), (q 13, .inl (G.2 2, 10, .inl (T 13))), (q 14, .inl (G.2 0, 10, .inl (T 14))), (q 15, .inl (G.2 2, 10, .inl (T 15))), (q 16, .inl (G.2 0, 10, .inl (T 16))), (q 17, .inl (G.2 3, 40, .inl (T 17))), (q 18, .inl (G.2 0, 60, .inl mn)), (q 19, .inl (G.2 3, 2400, .inl sd)), (q 20, .inl (G.2 0, 60, .inl tk)), (q 21, .inl (G.2 0, 40, .inl sn))] s.heap := hP
  have hl := lv_entry ([.ref (q 0), .int a1]) (n := 2) (Nat.le_of_ble_eq_true rfl)
  rw [lg_entry_eq]
  generalize (lg_sl ([.ref (q 0), .int a1]) ++ List.replicate (2 - (lg_sl ([.ref (q 0), .int a1])).length) Slot.unset).toArray = ls at hl ⊢
  have hl : lv_has ls 2 [(0, .ref (q 0)), (1, .int a1)] := hl
  refine lv_aload_n hx hb dX7_isOnDuty_0 rfl (lv_at hl 0 rfl) ?_
  refine va_get (D := G.1) (ci := 8) (v := .ref (q 3)) (C := RX7) (T := TX7) (N := 32) hx hb hts hi_X7 hown hK hP 0 rfl rfl 6 (by decide) (hts (.fieldLink RX7 17 "BoilerLogModel" "hasLeft" "[Z") (List.mem_of_getElem? (i := 1) rfl)) (fun _ h9 => h9) rfl dX7_isOnDuty_1 ?_
  refine lv_iload_n hx hb dX7_isOnDuty_4 rfl (lv_at hl 1 rfl) ?_
  refine va_zald hx hb hK hP 3 2 rfl rfl (by first | assumption | exact sIx_in.mp (by assumption) | exact vp_in_nI (by omega) (by omega)) dX7_isOnDuty_5 ?_
  refine lv_if_ne (tgt := 28) hx hb dX7_isOnDuty_6 (by decide) (fun zc_1 => ?_) (fun zc_1 => ?_)
  · skip
    refine lv_iconst (v := 0) hx hb dX7_isOnDuty_28 (by decide) ?_
    exact W.zret (v := 0) hx hb hr rfl (fun t ht hW => ⟨0, rfl, (by simp [sDuty, zb, zc_1]), ht⟩) (fun _ h => nomatch h) dX7_isOnDuty_29
  · skip
    refine lv_iload_n hx hb dX7_isOnDuty_9 rfl (lv_at hl 1 rfl) ?_
    refine lv_iconst (v := 3) hx hb dX7_isOnDuty_10 (by decide) ?_
    refine lv_irem hx hb dX7_isOnDuty_11 (by decide) ?_
    refine lv_aload_n hx hb dX7_isOnDuty_12 rfl (lv_at hl 0 rfl) ?_
    refine va_get (D := G.1) (ci := 8) (v := .int (nI (N 0))) (C := RX7) (T := TX7) (N := 32) hx hb hts hi_X7 hown hK hP 0 rfl rfl 1 (by decide) (hts (.fieldLink RX7 89 "BoilerLogModel" "hour" "I") (List.mem_of_getElem? (i := 2) rfl)) (fun _ h9 => h9) rfl dX7_isOnDuty_13 ?_
    refine lv_bipush (v := 8) hx hb dX7_isOnDuty_16 (by decide) ?_
    refine lv_idiv hx hb dX7_isOnDuty_18 (by decide) ?_
    refine lv_iconst (v := 3) hx hb dX7_isOnDuty_19 (by decide) ?_
    refine lv_irem hx hb dX7_isOnDuty_20 (by decide) ?_
    refine lv_icmp_ne (tgt := 28) hx hb dX7_isOnDuty_21 (by decide) (fun zc_2 => ?_) (fun zc_2 => ?_)
    · skip
      refine lv_iconst (v := 0) hx hb dX7_isOnDuty_28 (by decide) ?_
      exact W.zret (v := 0) hx hb hr rfl (fun t ht hW => ⟨0, rfl, (by simp [sDuty, zb, zc_1, zc_2]), ht⟩) (fun _ h => nomatch h) dX7_isOnDuty_29
    · skip
      refine lv_iconst (v := 1) hx hb dX7_isOnDuty_24 (by decide) ?_
      refine lv_goto (tgt := 29) hx hb dX7_isOnDuty_25 (by decide) ?_
      exact W.zret (v := 1) hx hb hr rfl (fun t ht hW => ⟨1, rfl, (by simp [sDuty, zb, zc_1, zc_2]), ht⟩) (fun _ h => nomatch h) dX7_isOnDuty_29

set_option maxHeartbeats 4000000 in
set_option maxRecDepth 100000 in
theorem c_X7_may (l : Launch) (G : zG) (q : Nat → Nat) (th : Int32) (N : Nat → Nat) (T : Nat → Nat → Int32) (E : Nat → Int64) (hg ag mn sd tk : Nat → Int32) (sg : Int32) (sn : Nat → Int32) (a1 : Int32) (hp : vp_in a1 9) : Met l yX7_may wsX7_may ({ frames := 1, cells := 0, slots := 0, locals := 21 }) (va_Pc [.ref (q 0), .int a1] (zPp G (mW G q th N T E hg ag mn sd tk sg sn))) (zQi (fun r : Int32 => r = zb (sMay N T a1))) 0 0 (fun _ => False) := by
  refine Met.ofW (cc := cX7_may) (maxL := 2) (ret := (some .boolean)) (by decide) rfl ?_
  intro p e s m args below meth c s₁ B hml hv
  obtain ⟨rfl, hP, hK⟩ := hv
  have hx := B.exec
  have hb := B.bytes
  have hr := B.returns
  have hts := atoms_spec (ws := wsX7_may) B.pre
  have hown : s.vm.findClass RX7 = some m.cls := findClass_of_methodNamed B.named
  have hlocks := B.notSynchronized
  have hi_X7 : ∀ w ∈ u_ws RX7 TX7 32, w ∈ wsX7_may := (fun _ h => List.mem_cons_of_mem _ (List.mem_append_right _ h))
  have hP : va_P G.1 vwCl [(q 0, .inr (8, [.int th, .int (nI (N 0)), .int (nI (N 1)), .ref (q 1), .int (T 19 0), .ref (q 2), .ref (q 3), .ref (q 4), .ref (q 5), .ref (q 6), .ref (q 7), .int (T 19 1), .int (nI (N 2)), .ref (q 8), .ref (q 9), .ref (q 10), .int (nI (N 3)), .ref (q 11), .ref (q 12), .ref (q 13), .ref (q 14), .ref (q 15), .ref (q 16), .int (nI (N 4)), .ref (q 17), .int (nI (N 5)), .ref (q 18), .ref (q 19), .int (nI (N 6)), .ref (q 20), .int sg, .ref (q 21)])), (q 1, .inl (G.2 1, 12500, .inr (.inl E))), (q 2, .inl (G.2 0, 9, .inl (T 1))), (q 3, .inl (G.2 2, 9, .inl (T 2))), (q 4, .inl (G.2 2, 8, .inl (T 3))), (q 5, .inl (G.2 0, 8, .inl (T 4))), (q 6, .inl (G.2 0, 8, .inl (T 5))), (q 7, .inl (G.2 0, 3, .inl (T 6))), (q 8, .inl (G.2 0, 40, .inl hg)), (q 9, .inl (G.2 0, 40, .inl (T 7))), (q 10, .inl (G.2 0, 40, .inl ag)), (q 11, .inl (G.2 0, 10, .inl (T 11))), (q 12, .inl (G.2 0, 10, .inl (T 12))), (q 13, .inl (G.2 2, 10, .inl (T 13))), (q 14, .inl (G.2 0, 10, .inl (T 14))), (q 15, .inl (G.2 2, 10, .inl (T 15))), (q 16, .inl (G.2 0, 10, .inl (T 16))), (q 17, .inl (G.2 3, 40, .inl (T 17))), (q 18, .inl (G.2 0, 60, .inl mn)), (q 19, .inl (G.2 3, 2400, .inl sd)), (q 20, .inl (G.2 0, 60, .inl tk)), (q 21, .inl (G.2 0, 40, .inl sn))] s.heap := hP
  have hl := lv_entry ([.ref (q 0), .int a1]) (n := 2) (Nat.le_of_ble_eq_true rfl)
  rw [lg_entry_eq]
  generalize (lg_sl ([.ref (q 0), .int a1]) ++ List.replicate (2 - (lg_sl ([.ref (q 0), .int a1])).length) Slot.unset).toArray = ls at hl ⊢
  have hl : lv_has ls 2 [(0, .ref (q 0)), (1, .int a1)] := hl
  refine lv_aload_n hx hb dX7_may_0 rfl (lv_at hl 0 rfl) ?_
  refine lv_iload_n hx hb dX7_may_1 rfl (lv_at hl 1 rfl) ?_
  refine z_csi (va_Run.run (va_runV (As := [.int a1]) (rest := []) ⟨hx, hb, hml, hown, hts⟩ (c_X7_isOnDuty l G q th N T E hg ag mn sd tk sg sn a1 (by first | assumption | omega | exact sIx_in.mp (by assumption))) (cwV 1 hts gX7_may_X7_isOnDuty rfl rfl rfl (by decide +kernel) ⟨Nat.le_of_ble_eq_true rfl, Nat.le_of_ble_eq_true rfl⟩) (z_pv hK hP (ci := 8) (q0 := 0) rfl rfl hP) rfl rfl hl.1 rfl (lv_room (Nat.le_of_ble_eq_true rfl)) dX7_may_2 ⟨(Nat.zero_le _), (Nat.zero_le _)⟩)) (fun zr_1 hzr_1 => ?_)
  subst hzr_1
  refine lv_if_eq (tgt := 25) hx hb dX7_may_5 (by decide) (fun zc_2 => ?_) (fun zc_2 => ?_)
  · skip
    have zc_2 := zb_0.mp zc_2
    refine lv_iconst (v := 0) hx hb dX7_may_25 (by decide) ?_
    exact W.zret (v := 0) hx hb hr rfl (fun t ht hW => ⟨0, rfl, (by simp [sMay, zb, zc_2]), ht⟩) (fun _ h => nomatch h) dX7_may_26
  · skip
    have zc_2 := zb_n0 zc_2
    refine lv_aload_n hx hb dX7_may_8 rfl (lv_at hl 0 rfl) ?_
    refine va_get (D := G.1) (ci := 8) (v := .ref (q 2)) (C := RX7) (T := TX7) (N := 32) hx hb hts hi_X7 hown hK hP 0 rfl rfl 5 (by decide) (hts (.fieldLink RX7 13 "BoilerLogModel" "hasRead" "[I") (List.mem_of_getElem? (i := 1) rfl)) (fun _ h9 => h9) rfl dX7_may_9 ?_
    refine lv_iload_n hx hb dX7_may_12 rfl (lv_at hl 1 rfl) ?_
    refine va_iald hx hb hK hP 2 0 rfl rfl (by first | assumption | exact sIx_in.mp (by assumption) | exact vp_in_nI (by omega) (by omega)) dX7_may_13 ?_
    refine lv_aload_n hx hb dX7_may_14 rfl (lv_at hl 0 rfl) ?_
    refine va_get (D := G.1) (ci := 8) (v := .int (T 19 0)) (C := RX7) (T := TX7) (N := 32) hx hb hts hi_X7 hown hK hP 0 rfl rfl 4 (by decide) (hts (.fieldLink RX7 99 "BoilerLogModel" "atShift" "I") (List.mem_of_getElem? (i := 2) rfl)) (fun _ h9 => h9) rfl dX7_may_15 ?_
    refine lv_icmp_lt (tgt := 25) hx hb dX7_may_18 (by decide) (fun zc_3 => ?_) (fun zc_3 => ?_)
    · skip
      have zd_3 := Int32.not_le.mpr zc_3
      refine lv_iconst (v := 0) hx hb dX7_may_25 (by decide) ?_
      exact W.zret (v := 0) hx hb hr rfl (fun t ht hW => ⟨0, rfl, (by simp [sMay, zb, zc_2, zc_3, zd_3]), ht⟩) (fun _ h => nomatch h) dX7_may_26
    · skip
      have zd_3 := Int32.not_lt.mp zc_3
      refine lv_iconst (v := 1) hx hb dX7_may_21 (by decide) ?_
      refine lv_goto (tgt := 26) hx hb dX7_may_22 (by decide) ?_
      exact W.zret (v := 1) hx hb hr rfl (fun t ht hW => ⟨1, rfl, (by simp [sMay, zb, zc_2, zc_3, zd_3]), ht⟩) (fun _ h => nomatch h) dX7_may_26

set_option maxHeartbeats 4000000 in
set_option maxRecDepth 100000 in
theorem c_X7_tagsOn (l : Launch) (G : zG) (q : Nat → Nat) (th : Int32) (N : Nat → Nat) (T : Nat → Nat → Int32) (E : Nat → Int64) (hg ag mn sd tk : Nat → Int32) (sg : Int32) (sn : Nat → Int32) (a1 : Int32) (hn2 : N 2 ≤ 40) (hG1 : sHG N T hg) (hv : vp_in a1 8) : Met l yX7_tagsOn wsX7_tagsOn ({ frames := 0, cells := 0, slots := 0, locals := 0 }) (va_Pc [.ref (q 0), .int a1] (zPp G (mW G q th N T E hg ag mn sd tk sg sn))) (zQi (fun r : Int32 => r = nI (sOn N T a1))) 0 0 (fun _ => False) := by
  refine Met.ofW (cc := cX7_tagsOn) (maxL := 4) (ret := (some .int)) (by decide) rfl ?_
  intro p e s m args below meth c s₁ B hml hv
  obtain ⟨rfl, hP, hK⟩ := hv
  have hx := B.exec
  have hb := B.bytes
  have hr := B.returns
  have hts := atoms_spec (ws := wsX7_tagsOn) B.pre
  have hown : s.vm.findClass RX7 = some m.cls := findClass_of_methodNamed B.named
  have hlocks := B.notSynchronized
  have hi_X7 : ∀ w ∈ u_ws RX7 TX7 32, w ∈ wsX7_tagsOn := (fun _ h => List.mem_cons_of_mem _ (List.mem_append_right _ h))
  have hP : va_P G.1 vwCl [(q 0, .inr (8, [.int th, .int (nI (N 0)), .int (nI (N 1)), .ref (q 1), .int (T 19 0), .ref (q 2), .ref (q 3), .ref (q 4), .ref (q 5), .ref (q 6), .ref (q 7), .int (T 19 1), .int (nI (N 2)), .ref (q 8), .ref (q 9), .ref (q 10), .int (nI (N 3)), .ref (q 11), .ref (q 12), .ref (q 13), .ref (q 14), .ref (q 15), .ref (q 16), .int (nI (N 4)), .ref (q 17), .int (nI (N 5)), .ref (q 18), .ref (q 19), .int (nI (N 6)), .ref (q 20), .int sg, .ref (q 21)])), (q 1, .inl (G.2 1, 12500, .inr (.inl E))), (q 2, .inl (G.2 0, 9, .inl (T 1))), (q 3, .inl (G.2 2, 9, .inl (T 2))), (q 4, .inl (G.2 2, 8, .inl (T 3))), (q 5, .inl (G.2 0, 8, .inl (T 4))), (q 6, .inl (G.2 0, 8, .inl (T 5))), (q 7, .inl (G.2 0, 3, .inl (T 6))), (q 8, .inl (G.2 0, 40, .inl hg)), (q 9, .inl (G.2 0, 40, .inl (T 7))), (q 10, .inl (G.2 0, 40, .inl ag)), (q 11, .inl (G.2 0, 10, .inl (T 11))), (q 12, .inl (G.2 0, 10, .inl (T 12))), (q 13, .inl (G.2 2, 10, .inl (T 13))), (q 14, .inl (G.2 0, 10, .inl (T 14))), (q 15, .inl (G.2 2, 10, .inl (T 15))), (q 16, .inl (G.2 0, 10, .inl (T 16))), (q 17, .inl (G.2 3, 40, .inl (T 17))), (q 18, .inl (G.2 0, 60, .inl mn)), (q 19, .inl (G.2 3, 2400, .inl sd)), (q 20, .inl (G.2 0, 60, .inl tk)), (q 21, .inl (G.2 0, 40, .inl sn))] s.heap := hP
  have hl := lv_entry ([.ref (q 0), .int a1]) (n := 4) (Nat.le_of_ble_eq_true rfl)
  rw [lg_entry_eq]
  generalize (lg_sl ([.ref (q 0), .int a1]) ++ List.replicate (4 - (lg_sl ([.ref (q 0), .int a1])).length) Slot.unset).toArray = ls at hl ⊢
  have hl : lv_has ls 4 [(0, .ref (q 0)), (1, .int a1)] := hl
  refine lv_iconst (v := 0) hx hb dX7_tagsOn_0 (by decide) ?_
  refine lv_istore_n (lv' := [(2, .int 0), (0, .ref (q 0)), (1, .int a1)]) hx hb dX7_tagsOn_1 rfl hl (by decide) rfl (fun ls hl => ?_)
  refine lv_iconst (v := 0) hx hb dX7_tagsOn_2 (by decide) ?_
  refine lv_istore_n (lv' := [(3, .int 0), (2, .int 0), (0, .ref (q 0)), (1, .int a1)]) hx hb dX7_tagsOn_3 rfl hl (by decide) rfl (fun ls hl => ?_)
  have key_4 : ∀ (n i : Nat), i ≤ N 2 → N 2 < i + n → ∀ ls : Array Slot, lv_has ls 4 [(0, .ref (q 0)), (1, .int a1), (2, .int (nI (sCnt (fun t => decide (hg t = a1)) i))), (3, .int (nI i))] → W p l e (headSpec wsX7_tagsOn ({ frames := 0, cells := 0, slots := 0, locals := 0 })).room s m ([.ref (q 0), .int a1] : List Value).toArray below meth c s.heap [] 0 0 (MQ below (zQi (fun r : Int32 => r = nI (sOn N T a1))) ([.ref (q 0), .int a1] : List Value).toArray s 0 0 (fun _ => False)) (F0 m 4 ls []) := by
    intro n
    induction n with
    | zero => intro i h1 h2; exact absurd h2 (by omega)
    | succ n ih =>
      intro i hi hn ls hl
      refine lv_iload_n hx hb dX7_tagsOn_4 rfl (lv_at hl 3 rfl) ?_
      refine lv_aload_n hx hb dX7_tagsOn_5 rfl (lv_at hl 0 rfl) ?_
      refine va_get (D := G.1) (ci := 8) (v := .int (nI (N 2))) (C := RX7) (T := TX7) (N := 32) hx hb hts hi_X7 hown hK hP 0 rfl rfl 12 (by decide) (hts (.fieldLink RX7 84 "BoilerLogModel" "tags" "I") (List.mem_of_getElem? (i := 1) rfl)) (fun _ h9 => h9) rfl dX7_tagsOn_6 ?_
      refine lv_icmp_ge (tgt := 36) hx hb dX7_tagsOn_9 (by decide) (fun zc_1 => ?_) (fun zc_1 => ?_)
      · skip
        have zd_1 := Int32.not_lt.mpr zc_1
        have zhc := (nI_leI (by omega) (by omega)).mp zc_1
        have zie := Nat.le_antisymm hi zhc
        subst zie
        refine lv_iload_n hx hb dX7_tagsOn_36 rfl (lv_at hl 2 rfl) ?_
        exact W.iret (v := nI (sCnt (fun t => decide (hg t = a1)) (N 2))) hx hb hr (fun t ht hW => ⟨nI (sCnt (fun t => decide (hg t = a1)) (N 2)), rfl, (by rw [sOn_hg hG1 hv]), ht⟩) (fun _ h => nomatch h) dX7_tagsOn_37
      · skip
        have zd_1 := Int32.not_le.mp zc_1
        have zhc := Nat.lt_of_not_le (fun z => zc_1 ((nI_leI (by omega) (by omega)).mpr z))
        refine lv_iload_n hx hb dX7_tagsOn_12 rfl (lv_at hl 2 rfl) ?_
        refine lv_aload_n hx hb dX7_tagsOn_13 rfl (lv_at hl 0 rfl) ?_
        refine va_get (D := G.1) (ci := 8) (v := .ref (q 8)) (C := RX7) (T := TX7) (N := 32) hx hb hts hi_X7 hown hK hP 0 rfl rfl 13 (by decide) (hts (.fieldLink RX7 33 "BoilerLogModel" "hangsOn" "[I") (List.mem_of_getElem? (i := 2) rfl)) (fun _ h9 => h9) rfl dX7_tagsOn_14 ?_
        refine lv_iload_n hx hb dX7_tagsOn_17 rfl (lv_at hl 3 rfl) ?_
        refine va_iald hx hb hK hP 8 0 rfl rfl (vp_in_nI (by omega) (by omega)) dX7_tagsOn_18 ?_
        refine W.eq (g2 := F0 m 19 ls [.int (hg i), .int (nI (sCnt (fun t => decide (hg t = a1)) i))]) (by first | (rw [nI_clamp (by omega)]; done) | (rw [nI_clamp (by omega)]; rfl)) ?_
        refine lv_iload_n hx hb dX7_tagsOn_19 rfl (lv_at hl 1 rfl) ?_
        refine lv_icmp_ne (tgt := 27) hx hb dX7_tagsOn_20 (by decide) (fun zc_2 => ?_) (fun zc_2 => ?_)
        · skip
          refine lv_iconst (v := 0) hx hb dX7_tagsOn_27 (by decide) ?_
          refine lv_iadd hx hb dX7_tagsOn_28 ?_
          refine lv_istore_n (lv' := [(2, .int ((nI (sCnt (fun t => decide (hg t = a1)) i)) + 0)), (0, .ref (q 0)), (1, .int a1), (3, .int (nI i))]) hx hb dX7_tagsOn_29 rfl hl (by decide) rfl (fun ls hl => ?_)
          refine lv_iinc (v := (nI (i + 1))) (lv' := [(3, .int (nI (i + 1))), (2, .int ((nI (sCnt (fun t => decide (hg t = a1)) i)) + 0)), (0, .ref (q 0)), (1, .int a1)]) hx hb dX7_tagsOn_30 hl (k := 3) rfl (by first | exact nI_1 _ | rfl) (by decide) rfl (fun ls hl => ?_)
          refine lv_goto (tgt := 4) hx hb dX7_tagsOn_33 (by decide) ?_
          have hl2 := lv_sub (l' := [(0, .ref (q 0)), (1, .int a1), (2, .int ((nI (sCnt (fun t => decide (hg t = a1)) i)) + 0)), (3, .int (nI (i + 1)))]) hl [2, 3, 1, 0] rfl
          have e_2 : (nI (sCnt (fun t => decide (hg t = a1)) i)) + 0 = nI (sCnt (fun t => decide (hg t = a1)) (i + 1)) := by simp [sCnt, nI_succ, zc_2]
          rw [e_2] at hl2
          exact ih (i + 1) (by omega) (by omega) ls hl2
        · skip
          refine lv_iconst (v := 1) hx hb dX7_tagsOn_23 (by decide) ?_
          refine lv_goto (tgt := 28) hx hb dX7_tagsOn_24 (by decide) ?_
          refine lv_iadd hx hb dX7_tagsOn_28 ?_
          refine lv_istore_n (lv' := [(2, .int ((nI (sCnt (fun t => decide (hg t = a1)) i)) + 1)), (0, .ref (q 0)), (1, .int a1), (3, .int (nI i))]) hx hb dX7_tagsOn_29 rfl hl (by decide) rfl (fun ls hl => ?_)
          refine lv_iinc (v := (nI (i + 1))) (lv' := [(3, .int (nI (i + 1))), (2, .int ((nI (sCnt (fun t => decide (hg t = a1)) i)) + 1)), (0, .ref (q 0)), (1, .int a1)]) hx hb dX7_tagsOn_30 hl (k := 3) rfl (by first | exact nI_1 _ | rfl) (by decide) rfl (fun ls hl => ?_)
          refine lv_goto (tgt := 4) hx hb dX7_tagsOn_33 (by decide) ?_
          have hl2 := lv_sub (l' := [(0, .ref (q 0)), (1, .int a1), (2, .int ((nI (sCnt (fun t => decide (hg t = a1)) i)) + 1)), (3, .int (nI (i + 1)))]) hl [2, 3, 1, 0] rfl
          have e_2 : (nI (sCnt (fun t => decide (hg t = a1)) i)) + 1 = nI (sCnt (fun t => decide (hg t = a1)) (i + 1)) := by simp [sCnt, nI_succ, zc_2]
          rw [e_2] at hl2
          exact ih (i + 1) (by omega) (by omega) ls hl2
  exact key_4 (N 2 + 1) 0 (Nat.zero_le _) (by omega) ls (lv_sub hl [2, 3, 1, 0] rfl)

set_option maxHeartbeats 4000000 in
set_option maxRecDepth 100000 in
theorem c_X7_isBarred (l : Launch) (G : zG) (q : Nat → Nat) (th : Int32) (N : Nat → Nat) (T : Nat → Nat → Int32) (E : Nat → Int64) (hg ag mn sd tk : Nat → Int32) (sg : Int32) (sn : Nat → Int32) (a1 a2 : Int32) (hn2 : N 2 ≤ 40) (hG1 : sHG N T hg) (hv : vp_in a2 8) : Met l yX7_isBarred wsX7_isBarred ({ frames := 0, cells := 0, slots := 0, locals := 0 }) (va_Pc [.ref (q 0), .int a1, .int a2] (zPp G (mW G q th N T E hg ag mn sd tk sg sn))) (zQi (fun r : Int32 => r = zb (sBar N T a1 a2))) 0 0 (fun _ => False) := by
  refine Met.ofW (cc := cX7_isBarred) (maxL := 5) (ret := (some .boolean)) (by decide) rfl ?_
  intro p e s m args below meth c s₁ B hml hv
  obtain ⟨rfl, hP, hK⟩ := hv
  have hx := B.exec
  have hb := B.bytes
  have hr := B.returns
  have hts := atoms_spec (ws := wsX7_isBarred) B.pre
  have hown : s.vm.findClass RX7 = some m.cls := findClass_of_methodNamed B.named
  have hlocks := B.notSynchronized
  have hi_X7 : ∀ w ∈ u_ws RX7 TX7 32, w ∈ wsX7_isBarred := (fun _ h => List.mem_cons_of_mem _ (List.mem_append_right _ h))
  have hP : va_P G.1 vwCl [(q 0, .inr (8, [.int th, .int (nI (N 0)), .int (nI (N 1)), .ref (q 1), .int (T 19 0), .ref (q 2), .ref (q 3), .ref (q 4), .ref (q 5), .ref (q 6), .ref (q 7), .int (T 19 1), .int (nI (N 2)), .ref (q 8), .ref (q 9), .ref (q 10), .int (nI (N 3)), .ref (q 11), .ref (q 12), .ref (q 13), .ref (q 14), .ref (q 15), .ref (q 16), .int (nI (N 4)), .ref (q 17), .int (nI (N 5)), .ref (q 18), .ref (q 19), .int (nI (N 6)), .ref (q 20), .int sg, .ref (q 21)])), (q 1, .inl (G.2 1, 12500, .inr (.inl E))), (q 2, .inl (G.2 0, 9, .inl (T 1))), (q 3, .inl (G.2 2, 9, .inl (T 2))), (q 4, .inl (G.2 2, 8, .inl (T 3))), (q 5, .inl (G.2 0, 8, .inl (T 4))), (q 6, .inl (G.2 0, 8, .inl (T 5))), (q 7, .inl (G.2 0, 3, .inl (T 6))), (q 8, .inl (G.2 0, 40, .inl hg)), (q 9, .inl (G.2 0, 40, .inl (T 7))), (q 10, .inl (G.2 0, 40, .inl ag)), (q 11, .inl (G.2 0, 10, .inl (T 11))), (q 12, .inl (G.2 0, 10, .inl (T 12))), (q 13, .inl (G.2 2, 10, .inl (T 13))), (q 14, .inl (G.2 0, 10, .inl (T 14))), (q 15, .inl (G.2 2, 10, .inl (T 15))), (q 16, .inl (G.2 0, 10, .inl (T 16))), (q 17, .inl (G.2 3, 40, .inl (T 17))), (q 18, .inl (G.2 0, 60, .inl mn)), (q 19, .inl (G.2 3, 2400, .inl sd)), (q 20, .inl (G.2 0, 60, .inl tk)), (q 21, .inl (G.2 0, 40, .inl sn))] s.heap := hP
  have hl := lv_entry ([.ref (q 0), .int a1, .int a2]) (n := 5) (Nat.le_of_ble_eq_true rfl)
  rw [lg_entry_eq]
  generalize (lg_sl ([.ref (q 0), .int a1, .int a2]) ++ List.replicate (5 - (lg_sl ([.ref (q 0), .int a1, .int a2])).length) Slot.unset).toArray = ls at hl ⊢
  have hl : lv_has ls 5 [(0, .ref (q 0)), (1, .int a1), (2, .int a2)] := hl
  refine lv_iconst (v := 0) hx hb dX7_isBarred_0 (by decide) ?_
  refine lv_istore_n (lv' := [(3, .int 0), (0, .ref (q 0)), (1, .int a1), (2, .int a2)]) hx hb dX7_isBarred_1 rfl hl (by decide) rfl (fun ls hl => ?_)
  refine lv_iconst (v := 0) hx hb dX7_isBarred_2 (by decide) ?_
  refine lv_istore (lv' := [(4, .int 0), (3, .int 0), (0, .ref (q 0)), (1, .int a1), (2, .int a2)]) hx hb dX7_isBarred_3 hl (by decide) rfl (fun ls hl => ?_)
  have key_5 : ∀ (n i : Nat), i ≤ N 2 → N 2 < i + n → ∀ ls : Array Slot, lv_has ls 5 [(0, .ref (q 0)), (1, .int a1), (2, .int a2), (3, .int (zb (sAny (fun t => decide (hg t = a2) && !decide (T 7 t = a1)) i))), (4, .int (nI i))] → W p l e (headSpec wsX7_isBarred ({ frames := 0, cells := 0, slots := 0, locals := 0 })).room s m ([.ref (q 0), .int a1, .int a2] : List Value).toArray below meth c s.heap [] 0 0 (MQ below (zQi (fun r : Int32 => r = zb (sBar N T a1 a2))) ([.ref (q 0), .int a1, .int a2] : List Value).toArray s 0 0 (fun _ => False)) (F0 m 5 ls []) := by
    intro n
    induction n with
    | zero => intro i h1 h2; exact absurd h2 (by omega)
    | succ n ih =>
      intro i hi hn ls hl
      refine lv_iload hx hb dX7_isBarred_5 (lv_at hl 4 rfl) ?_
      refine lv_aload_n hx hb dX7_isBarred_7 rfl (lv_at hl 0 rfl) ?_
      refine va_get (D := G.1) (ci := 8) (v := .int (nI (N 2))) (C := RX7) (T := TX7) (N := 32) hx hb hts hi_X7 hown hK hP 0 rfl rfl 12 (by decide) (hts (.fieldLink RX7 84 "BoilerLogModel" "tags" "I") (List.mem_of_getElem? (i := 1) rfl)) (fun _ h9 => h9) rfl dX7_isBarred_8 ?_
      refine lv_icmp_ge (tgt := 52) hx hb dX7_isBarred_11 (by decide) (fun zc_1 => ?_) (fun zc_1 => ?_)
      · skip
        have zd_1 := Int32.not_lt.mpr zc_1
        have zhc := (nI_leI (by omega) (by omega)).mp zc_1
        have zie := Nat.le_antisymm hi zhc
        subst zie
        refine lv_iload_n hx hb dX7_isBarred_52 rfl (lv_at hl 3 rfl) ?_
        exact W.zret (v := zb (sAny (fun t => decide (hg t = a2) && !decide (T 7 t = a1)) (N 2))) hx hb hr (zn_zb _) (fun t ht hW => ⟨zb (sAny (fun t => decide (hg t = a2) && !decide (T 7 t = a1)) (N 2)), rfl, (by rw [sBar_hg hG1 hv]), ht⟩) (fun _ h => nomatch h) dX7_isBarred_53
      · skip
        have zd_1 := Int32.not_le.mp zc_1
        have zhc := Nat.lt_of_not_le (fun z => zc_1 ((nI_leI (by omega) (by omega)).mpr z))
        refine lv_iload_n hx hb dX7_isBarred_14 rfl (lv_at hl 3 rfl) ?_
        refine lv_if_ne (tgt := 40) hx hb dX7_isBarred_15 (by decide) (fun zc_2 => ?_) (fun zc_2 => ?_)
        · skip
          have zc_2 := zb_n0 zc_2
          refine lv_iconst (v := 1) hx hb dX7_isBarred_40 (by decide) ?_
          refine lv_goto (tgt := 45) hx hb dX7_isBarred_41 (by decide) ?_
          refine lv_istore_n (lv' := [(3, .int 1), (0, .ref (q 0)), (1, .int a1), (2, .int a2), (4, .int (nI i))]) hx hb dX7_isBarred_45 rfl hl (by decide) rfl (fun ls hl => ?_)
          refine lv_iinc (v := (nI (i + 1))) (lv' := [(4, .int (nI (i + 1))), (3, .int 1), (0, .ref (q 0)), (1, .int a1), (2, .int a2)]) hx hb dX7_isBarred_46 hl (k := 4) rfl (by first | exact nI_1 _ | rfl) (by decide) rfl (fun ls hl => ?_)
          refine lv_goto (tgt := 5) hx hb dX7_isBarred_49 (by decide) ?_
          have hl2 := lv_sub (l' := [(0, .ref (q 0)), (1, .int a1), (2, .int a2), (3, .int 1), (4, .int (nI (i + 1)))]) hl [2, 3, 4, 1, 0] rfl
          have e_3 : 1 = zb (sAny (fun t => decide (hg t = a2) && !decide (T 7 t = a1)) (i + 1)) := by simp [sAny, zb, zc_1, zd_1, zc_2]
          rw [e_3] at hl2
          exact ih (i + 1) (by omega) (by omega) ls hl2
        · skip
          have zc_2 := zb_0.mp zc_2
          refine lv_aload_n hx hb dX7_isBarred_18 rfl (lv_at hl 0 rfl) ?_
          refine va_get (D := G.1) (ci := 8) (v := .ref (q 8)) (C := RX7) (T := TX7) (N := 32) hx hb hts hi_X7 hown hK hP 0 rfl rfl 13 (by decide) (hts (.fieldLink RX7 33 "BoilerLogModel" "hangsOn" "[I") (List.mem_of_getElem? (i := 2) rfl)) (fun _ h9 => h9) rfl dX7_isBarred_19 ?_
          refine lv_iload hx hb dX7_isBarred_22 (lv_at hl 4 rfl) ?_
          refine va_iald hx hb hK hP 8 0 rfl rfl (vp_in_nI (by omega) (by omega)) dX7_isBarred_24 ?_
          refine W.eq (g2 := F0 m 25 ls [.int (hg i)]) (by first | (rw [nI_clamp (by omega)]; done) | (rw [nI_clamp (by omega)]; rfl)) ?_
          refine lv_iload_n hx hb dX7_isBarred_25 rfl (lv_at hl 2 rfl) ?_
          refine lv_icmp_ne (tgt := 44) hx hb dX7_isBarred_26 (by decide) (fun zc_3 => ?_) (fun zc_3 => ?_)
          · skip
            refine lv_iconst (v := 0) hx hb dX7_isBarred_44 (by decide) ?_
            refine lv_istore_n (lv' := [(3, .int 0), (0, .ref (q 0)), (1, .int a1), (2, .int a2), (4, .int (nI i))]) hx hb dX7_isBarred_45 rfl hl (by decide) rfl (fun ls hl => ?_)
            refine lv_iinc (v := (nI (i + 1))) (lv' := [(4, .int (nI (i + 1))), (3, .int 0), (0, .ref (q 0)), (1, .int a1), (2, .int a2)]) hx hb dX7_isBarred_46 hl (k := 4) rfl (by first | exact nI_1 _ | rfl) (by decide) rfl (fun ls hl => ?_)
            refine lv_goto (tgt := 5) hx hb dX7_isBarred_49 (by decide) ?_
            have hl2 := lv_sub (l' := [(0, .ref (q 0)), (1, .int a1), (2, .int a2), (3, .int 0), (4, .int (nI (i + 1)))]) hl [2, 3, 4, 1, 0] rfl
            have e_3 : 0 = zb (sAny (fun t => decide (hg t = a2) && !decide (T 7 t = a1)) (i + 1)) := by simp [sAny, zb, zc_1, zd_1, zc_2, zc_3]
            rw [e_3] at hl2
            exact ih (i + 1) (by omega) (by omega) ls hl2
          · skip
            refine lv_aload_n hx hb dX7_isBarred_29 rfl (lv_at hl 0 rfl) ?_
            refine va_get (D := G.1) (ci := 8) (v := .ref (q 9)) (C := RX7) (T := TX7) (N := 32) hx hb hts hi_X7 hown hK hP 0 rfl rfl 14 (by decide) (hts (.fieldLink RX7 36 "BoilerLogModel" "owner" "[I") (List.mem_of_getElem? (i := 3) rfl)) (fun _ h9 => h9) rfl dX7_isBarred_30 ?_
            refine lv_iload hx hb dX7_isBarred_33 (lv_at hl 4 rfl) ?_
            refine va_iald hx hb hK hP 9 0 rfl rfl (vp_in_nI (by omega) (by omega)) dX7_isBarred_35 ?_
            refine W.eq (g2 := F0 m 36 ls [.int ((T 7) i)]) (by first | (rw [nI_clamp (by omega)]; done) | (rw [nI_clamp (by omega)]; rfl)) ?_
            refine lv_iload_n hx hb dX7_isBarred_36 rfl (lv_at hl 1 rfl) ?_
            refine lv_icmp_eq (tgt := 44) hx hb dX7_isBarred_37 (by decide) (fun zc_4 => ?_) (fun zc_4 => ?_)
            · skip
              refine lv_iconst (v := 0) hx hb dX7_isBarred_44 (by decide) ?_
              refine lv_istore_n (lv' := [(3, .int 0), (0, .ref (q 0)), (1, .int a1), (2, .int a2), (4, .int (nI i))]) hx hb dX7_isBarred_45 rfl hl (by decide) rfl (fun ls hl => ?_)
              refine lv_iinc (v := (nI (i + 1))) (lv' := [(4, .int (nI (i + 1))), (3, .int 0), (0, .ref (q 0)), (1, .int a1), (2, .int a2)]) hx hb dX7_isBarred_46 hl (k := 4) rfl (by first | exact nI_1 _ | rfl) (by decide) rfl (fun ls hl => ?_)
              refine lv_goto (tgt := 5) hx hb dX7_isBarred_49 (by decide) ?_
              have hl2 := lv_sub (l' := [(0, .ref (q 0)), (1, .int a1), (2, .int a2), (3, .int 0), (4, .int (nI (i + 1)))]) hl [2, 3, 4, 1, 0] rfl
              have e_3 : 0 = zb (sAny (fun t => decide (hg t = a2) && !decide (T 7 t = a1)) (i + 1)) := by simp [sAny, zb, zc_1, zd_1, zc_2, zc_3, zc_4]
              rw [e_3] at hl2
              exact ih (i + 1) (by omega) (by omega) ls hl2
            · skip
              refine lv_iconst (v := 1) hx hb dX7_isBarred_40 (by decide) ?_
              refine lv_goto (tgt := 45) hx hb dX7_isBarred_41 (by decide) ?_
              refine lv_istore_n (lv' := [(3, .int 1), (0, .ref (q 0)), (1, .int a1), (2, .int a2), (4, .int (nI i))]) hx hb dX7_isBarred_45 rfl hl (by decide) rfl (fun ls hl => ?_)
              refine lv_iinc (v := (nI (i + 1))) (lv' := [(4, .int (nI (i + 1))), (3, .int 1), (0, .ref (q 0)), (1, .int a1), (2, .int a2)]) hx hb dX7_isBarred_46 hl (k := 4) rfl (by first | exact nI_1 _ | rfl) (by decide) rfl (fun ls hl => ?_)
              refine lv_goto (tgt := 5) hx hb dX7_isBarred_49 (by decide) ?_
              have hl2 := lv_sub (l' := [(0, .ref (q 0)), (1, .int a1), (2, .int a2), (3, .int 1), (4, .int (nI (i + 1)))]) hl [2, 3, 4, 1, 0] rfl
              have e_3 : 1 = zb (sAny (fun t => decide (hg t = a2) && !decide (T 7 t = a1)) (i + 1)) := by simp [sAny, zb, zc_1, zd_1, zc_2, zc_3, zc_4]
              rw [e_3] at hl2
              exact ih (i + 1) (by omega) (by omega) ls hl2
  exact key_5 (N 2 + 1) 0 (Nat.zero_le _) (by omega) ls (lv_sub hl [2, 3, 4, 1, 0] rfl)

set_option maxHeartbeats 4000000 in
set_option maxRecDepth 100000 in
theorem c_X7_bars (l : Launch) (G : zG) (q : Nat → Nat) (th : Int32) (N : Nat → Nat) (T : Nat → Nat → Int32) (E : Nat → Int64) (hg ag mn sd tk : Nat → Int32) (sg : Int32) (sn : Nat → Int32) (a1 a2 : Int32) (hn2 : N 2 ≤ 40) (hG1 : sHG N T hg) (hp : vp_in a1 9) (hv : vp_in a2 8) : Met l yX7_bars wsX7_bars ({ frames := 2, cells := 0, slots := 0, locals := 42 }) (va_Pc [.ref (q 0), .int a1, .int a2] (zPp G (mW G q th N T E hg ag mn sd tk sg sn))) (zQi (fun r : Int32 => r = sBars N T a1 a2)) 0 0 (fun _ => False) := by
  refine Met.ofW (cc := cX7_bars) (maxL := 3) (ret := (some .int)) (by decide) rfl ?_
  intro p e s m args below meth c s₁ B hml hv
  obtain ⟨rfl, hP, hK⟩ := hv
  have hx := B.exec
  have hb := B.bytes
  have hr := B.returns
  have hts := atoms_spec (ws := wsX7_bars) B.pre
  have hown : s.vm.findClass RX7 = some m.cls := findClass_of_methodNamed B.named
  have hlocks := B.notSynchronized
  have hP : va_P G.1 vwCl [(q 0, .inr (8, [.int th, .int (nI (N 0)), .int (nI (N 1)), .ref (q 1), .int (T 19 0), .ref (q 2), .ref (q 3), .ref (q 4), .ref (q 5), .ref (q 6), .ref (q 7), .int (T 19 1), .int (nI (N 2)), .ref (q 8), .ref (q 9), .ref (q 10), .int (nI (N 3)), .ref (q 11), .ref (q 12), .ref (q 13), .ref (q 14), .ref (q 15), .ref (q 16), .int (nI (N 4)), .ref (q 17), .int (nI (N 5)), .ref (q 18), .ref (q 19), .int (nI (N 6)), .ref (q 20), .int sg, .ref (q 21)])), (q 1, .inl (G.2 1, 12500, .inr (.inl E))), (q 2, .inl (G.2 0, 9, .inl (T 1))), (q 3, .inl (G.2 2, 9, .inl (T 2))), (q 4, .inl (G.2 2, 8, .inl (T 3))), (q 5, .inl (G.2 0, 8, .inl (T 4))), (q 6, .inl (G.2 0, 8, .inl (T 5))), (q 7, .inl (G.2 0, 3, .inl (T 6))), (q 8, .inl (G.2 0, 40, .inl hg)), (q 9, .inl (G.2 0, 40, .inl (T 7))), (q 10, .inl (G.2 0, 40, .inl ag)), (q 11, .inl (G.2 0, 10, .inl (T 11))), (q 12, .inl (G.2 0, 10, .inl (T 12))), (q 13, .inl (G.2 2, 10, .inl (T 13))), (q 14, .inl (G.2 0, 10, .inl (T 14))), (q 15, .inl (G.2 2, 10, .inl (T 15))), (q 16, .inl (G.2 0, 10, .inl (T 16))), (q 17, .inl (G.2 3, 40, .inl (T 17))), (q 18, .inl (G.2 0, 60, .inl mn)), (q 19, .inl (G.2 3, 2400, .inl sd)), (q 20, .inl (G.2 0, 60, .inl tk)), (q 21, .inl (G.2 0, 40, .inl sn))] s.heap := hP
  have hl := lv_entry ([.ref (q 0), .int a1, .int a2]) (n := 3) (Nat.le_of_ble_eq_true rfl)
  rw [lg_entry_eq]
  generalize (lg_sl ([.ref (q 0), .int a1, .int a2]) ++ List.replicate (3 - (lg_sl ([.ref (q 0), .int a1, .int a2])).length) Slot.unset).toArray = ls at hl ⊢
  have hl : lv_has ls 3 [(0, .ref (q 0)), (1, .int a1), (2, .int a2)] := hl
  refine lv_aload_n hx hb dX7_bars_0 rfl (lv_at hl 0 rfl) ?_
  refine lv_iload_n hx hb dX7_bars_1 rfl (lv_at hl 1 rfl) ?_
  refine z_csi (va_Run.run (va_runV (As := [.int a1]) (rest := []) ⟨hx, hb, hml, hown, hts⟩ (c_X7_isOnDuty l G q th N T E hg ag mn sd tk sg sn a1 (by first | assumption | omega | exact sIx_in.mp (by assumption))) (cwV 1 hts gX7_bars_X7_isOnDuty rfl rfl rfl (by decide +kernel) ⟨Nat.le_of_ble_eq_true rfl, Nat.le_of_ble_eq_true rfl⟩) (z_pv hK hP (ci := 8) (q0 := 0) rfl rfl hP) rfl rfl hl.1 rfl (lv_room (Nat.le_of_ble_eq_true rfl)) dX7_bars_2 ⟨(Nat.zero_le _), (Nat.zero_le _)⟩)) (fun zr_1 hzr_1 => ?_)
  subst hzr_1
  refine lv_if_ne (tgt := 12) hx hb dX7_bars_5 (by decide) (fun zc_2 => ?_) (fun zc_2 => ?_)
  · skip
    have zc_2 := zb_n0 zc_2
    refine lv_aload_n hx hb dX7_bars_12 rfl (lv_at hl 0 rfl) ?_
    refine lv_iload_n hx hb dX7_bars_13 rfl (lv_at hl 1 rfl) ?_
    refine z_csi (va_Run.run (va_runV (As := [.int a1]) (rest := []) ⟨hx, hb, hml, hown, hts⟩ (c_X7_may l G q th N T E hg ag mn sd tk sg sn a1 (by first | assumption | omega | exact sIx_in.mp (by assumption))) (cwV 1 hts gX7_bars_X7_may rfl rfl rfl (by decide +kernel) ⟨Nat.le_of_ble_eq_true rfl, Nat.le_of_ble_eq_true rfl⟩) (z_pv hK hP (ci := 8) (q0 := 0) rfl rfl hP) rfl rfl hl.1 rfl (lv_room (Nat.le_of_ble_eq_true rfl)) dX7_bars_14 ⟨(Nat.zero_le _), (Nat.zero_le _)⟩)) (fun zr_3 hzr_3 => ?_)
    subst hzr_3
    refine lv_if_ne (tgt := 24) hx hb dX7_bars_17 (by decide) (fun zc_4 => ?_) (fun zc_4 => ?_)
    · skip
      have zc_4 := zb_n0 zc_4
      refine lv_aload_n hx hb dX7_bars_24 rfl (lv_at hl 0 rfl) ?_
      refine lv_iload_n hx hb dX7_bars_25 rfl (lv_at hl 1 rfl) ?_
      refine lv_iload_n hx hb dX7_bars_26 rfl (lv_at hl 2 rfl) ?_
      refine z_csi (va_Run.run (va_runV (As := [.int a1, .int a2]) (rest := []) ⟨hx, hb, hml, hown, hts⟩ (c_X7_isBarred l G q th N T E hg ag mn sd tk sg sn a1 a2 (by first | assumption | omega | exact sIx_in.mp (by assumption)) (by first | assumption | omega | exact sIx_in.mp (by assumption)) (by first | assumption | omega | exact sIx_in.mp (by assumption))) (cwV 2 hts gX7_bars_X7_isBarred rfl rfl rfl (by decide +kernel) ⟨Nat.le_of_ble_eq_true rfl, Nat.le_of_ble_eq_true rfl⟩) (z_pv hK hP (ci := 8) (q0 := 0) rfl rfl hP) rfl rfl hl.1 rfl (lv_room (Nat.le_of_ble_eq_true rfl)) dX7_bars_27 ⟨(Nat.zero_le _), (Nat.zero_le _)⟩)) (fun zr_5 hzr_5 => ?_)
      subst hzr_5
      refine lv_if_eq (tgt := 37) hx hb dX7_bars_30 (by decide) (fun zc_6 => ?_) (fun zc_6 => ?_)
      · skip
        have zc_6 := zb_0.mp zc_6
        refine lv_iconst (v := 0) hx hb dX7_bars_37 (by decide) ?_
        exact W.iret (v := 0) hx hb hr (fun t ht hW => ⟨0, rfl, (by simp [sBars, zb, zc_2, zc_4, zc_6]), ht⟩) (fun _ h => nomatch h) dX7_bars_38
      · skip
        have zc_6 := zb_n0 zc_6
        refine lv_iconst (v := 3) hx hb dX7_bars_33 (by decide) ?_
        refine lv_goto (tgt := 38) hx hb dX7_bars_34 (by decide) ?_
        exact W.iret (v := 3) hx hb hr (fun t ht hW => ⟨3, rfl, (by simp [sBars, zb, zc_2, zc_4, zc_6]), ht⟩) (fun _ h => nomatch h) dX7_bars_38
    · skip
      have zc_4 := zb_0.mp zc_4
      refine lv_iconst (v := 2) hx hb dX7_bars_20 (by decide) ?_
      refine lv_goto (tgt := 38) hx hb dX7_bars_21 (by decide) ?_
      exact W.iret (v := 2) hx hb hr (fun t ht hW => ⟨2, rfl, (by simp [sBars, zb, zc_2, zc_4]), ht⟩) (fun _ h => nomatch h) dX7_bars_38
  · skip
    have zc_2 := zb_0.mp zc_2
    refine lv_iconst (v := 1) hx hb dX7_bars_8 (by decide) ?_
    refine lv_goto (tgt := 38) hx hb dX7_bars_9 (by decide) ?_
    exact W.iret (v := 1) hx hb hr (fun t ht hW => ⟨1, rfl, (by simp [sBars, zb, zc_2]), ht⟩) (fun _ h => nomatch h) dX7_bars_38

set_option maxHeartbeats 4000000 in
set_option maxRecDepth 100000 in
theorem c_X7_isGood (l : Launch) (G : zG) (q : Nat → Nat) (th : Int32) (N : Nat → Nat) (T : Nat → Nat → Int32) (E : Nat → Int64) (hg ag mn sd tk : Nat → Int32) (sg : Int32) (sn : Nat → Int32)  (hn4 : N 4 ≤ 40) : Met l yX7_isGood wsX7_isGood ({ frames := 1, cells := 0, slots := 0, locals := 20 }) (va_Pc [.ref (q 0)] (zPp G (mW G q th N T E hg ag mn sd tk sg sn))) (zQi (fun r : Int32 => r = zb (sGood (T 17) (N 4)))) 0 0 (fun _ => False) := by
  refine Met.ofW (cc := cX7_isGood) (maxL := 4) (ret := (some .boolean)) (by decide) rfl ?_
  intro p e s m args below meth c s₁ B hml hv
  obtain ⟨rfl, hP, hK⟩ := hv
  have hx := B.exec
  have hb := B.bytes
  have hr := B.returns
  have hts := atoms_spec (ws := wsX7_isGood) B.pre
  have hown : s.vm.findClass RX7 = some m.cls := findClass_of_methodNamed B.named
  have hlocks := B.notSynchronized
  have hi_X7 : ∀ w ∈ u_ws RX7 TX7 32, w ∈ wsX7_isGood := (fun _ h => List.mem_cons_of_mem _ (List.mem_append_right _ h))
  have hP : va_P G.1 vwCl [(q 0, .inr (8, [.int th, .int (nI (N 0)), .int (nI (N 1)), .ref (q 1), .int (T 19 0), .ref (q 2), .ref (q 3), .ref (q 4), .ref (q 5), .ref (q 6), .ref (q 7), .int (T 19 1), .int (nI (N 2)), .ref (q 8), .ref (q 9), .ref (q 10), .int (nI (N 3)), .ref (q 11), .ref (q 12), .ref (q 13), .ref (q 14), .ref (q 15), .ref (q 16), .int (nI (N 4)), .ref (q 17), .int (nI (N 5)), .ref (q 18), .ref (q 19), .int (nI (N 6)), .ref (q 20), .int sg, .ref (q 21)])), (q 1, .inl (G.2 1, 12500, .inr (.inl E))), (q 2, .inl (G.2 0, 9, .inl (T 1))), (q 3, .inl (G.2 2, 9, .inl (T 2))), (q 4, .inl (G.2 2, 8, .inl (T 3))), (q 5, .inl (G.2 0, 8, .inl (T 4))), (q 6, .inl (G.2 0, 8, .inl (T 5))), (q 7, .inl (G.2 0, 3, .inl (T 6))), (q 8, .inl (G.2 0, 40, .inl hg)), (q 9, .inl (G.2 0, 40, .inl (T 7))), (q 10, .inl (G.2 0, 40, .inl ag)), (q 11, .inl (G.2 0, 10, .inl (T 11))), (q 12, .inl (G.2 0, 10, .inl (T 12))), (q 13, .inl (G.2 2, 10, .inl (T 13))), (q 14, .inl (G.2 0, 10, .inl (T 14))), (q 15, .inl (G.2 2, 10, .inl (T 15))), (q 16, .inl (G.2 0, 10, .inl (T 16))), (q 17, .inl (G.2 3, 40, .inl (T 17))), (q 18, .inl (G.2 0, 60, .inl mn)), (q 19, .inl (G.2 3, 2400, .inl sd)), (q 20, .inl (G.2 0, 60, .inl tk)), (q 21, .inl (G.2 0, 40, .inl sn))] s.heap := hP
  have hl := lv_entry ([.ref (q 0)]) (n := 4) (Nat.le_of_ble_eq_true rfl)
  rw [lg_entry_eq]
  generalize (lg_sl ([.ref (q 0)]) ++ List.replicate (4 - (lg_sl ([.ref (q 0)])).length) Slot.unset).toArray = ls at hl ⊢
  have hl : lv_has ls 4 [(0, .ref (q 0))] := hl
  have cut_12 : W p l e (headSpec wsX7_isGood ({ frames := 1, cells := 0, slots := 0, locals := 20 })).room s m ([.ref (q 0)] : List Value).toArray below meth c s.heap [] 0 0 (MQ below (zQi (fun r : Int32 => r = zb (sGood (T 17) (N 4)))) ([.ref (q 0)] : List Value).toArray s 0 0 (fun _ => False)) (F0 m 12 ls [.int (zb (decide (0 < N 4)))]) := by
    refine lv_istore_n (lv' := [(1, .int (zb (decide (0 < N 4)))), (0, .ref (q 0))]) hx hb dX7_isGood_12 rfl hl (by decide) rfl (fun ls hl => ?_)
    refine lv_iconst (v := 0) hx hb dX7_isGood_13 (by decide) ?_
    refine lv_istore_n (lv' := [(2, .int 0), (1, .int (zb (decide (0 < N 4)))), (0, .ref (q 0))]) hx hb dX7_isGood_14 rfl hl (by decide) rfl (fun ls hl => ?_)
    refine lv_iconst (v := 0) hx hb dX7_isGood_15 (by decide) ?_
    refine lv_istore_n (lv' := [(3, .int 0), (2, .int 0), (1, .int (zb (decide (0 < N 4)))), (0, .ref (q 0))]) hx hb dX7_isGood_16 rfl hl (by decide) rfl (fun ls hl => ?_)
    have key_17 : ∀ (n i : Nat), i ≤ N 4 → N 4 < i + n → ∀ ls : Array Slot, lv_has ls 4 [(0, .ref (q 0)), (1, .int (zb (sG (T 17) i && decide (0 < N 4)))), (2, .int (zb (sW (T 17) i))), (3, .int (nI i))] → W p l e (headSpec wsX7_isGood ({ frames := 1, cells := 0, slots := 0, locals := 20 })).room s m ([.ref (q 0)] : List Value).toArray below meth c s.heap [] 0 0 (MQ below (zQi (fun r : Int32 => r = zb (sGood (T 17) (N 4)))) ([.ref (q 0)] : List Value).toArray s 0 0 (fun _ => False)) (F0 m 17 ls []) := by
      intro n
      induction n with
      | zero => intro i h1 h2; exact absurd h2 (by omega)
      | succ n ih =>
        intro i hi hn ls hl
        refine lv_iload_n hx hb dX7_isGood_17 rfl (lv_at hl 3 rfl) ?_
        refine lv_aload_n hx hb dX7_isGood_18 rfl (lv_at hl 0 rfl) ?_
        refine va_get (D := G.1) (ci := 8) (v := .int (nI (N 4))) (C := RX7) (T := TX7) (N := 32) hx hb hts hi_X7 hown hK hP 0 rfl rfl 23 (by decide) (hts (.fieldLink RX7 155 "BoilerLogModel" "length" "I") (List.mem_of_getElem? (i := 1) rfl)) (fun _ h9 => h9) rfl dX7_isGood_19 ?_
        refine lv_icmp_ge (tgt := 64) hx hb dX7_isGood_22 (by decide) (fun zc_1 => ?_) (fun zc_1 => ?_)
        · skip
          have zd_1 := Int32.not_lt.mpr zc_1
          have zhc := (nI_leI (by omega) (by omega)).mp zc_1
          have zie := Nat.le_antisymm hi zhc
          subst zie
          refine lv_iload_n hx hb dX7_isGood_64 rfl (lv_at hl 1 rfl) ?_
          refine lv_if_eq (tgt := 76) hx hb dX7_isGood_65 (by decide) (fun zc_2 => ?_) (fun zc_2 => ?_)
          · skip
            have zc_2 := zb_0.mp zc_2
            refine lv_iconst (v := 0) hx hb dX7_isGood_76 (by decide) ?_
            exact W.zret (v := 0) hx hb hr rfl (fun t ht hW => ⟨0, rfl, (by simp [sGood, zb, zc_1, zd_1, zc_2]), ht⟩) (fun _ h => nomatch h) dX7_isGood_77
          · skip
            have zc_2 := zb_n0 zc_2
            refine lv_iload_n hx hb dX7_isGood_68 rfl (lv_at hl 2 rfl) ?_
            refine lv_if_ne (tgt := 76) hx hb dX7_isGood_69 (by decide) (fun zc_3 => ?_) (fun zc_3 => ?_)
            · skip
              have zc_3 := zb_n0 zc_3
              refine lv_iconst (v := 0) hx hb dX7_isGood_76 (by decide) ?_
              exact W.zret (v := 0) hx hb hr rfl (fun t ht hW => ⟨0, rfl, (by simp [sGood, zb, zc_1, zd_1, zc_2, zc_3]), ht⟩) (fun _ h => nomatch h) dX7_isGood_77
            · skip
              have zc_3 := zb_0.mp zc_3
              refine lv_iconst (v := 1) hx hb dX7_isGood_72 (by decide) ?_
              refine lv_goto (tgt := 77) hx hb dX7_isGood_73 (by decide) ?_
              exact W.zret (v := 1) hx hb hr rfl (fun t ht hW => ⟨1, rfl, (by simp [sGood, zb, zc_1, zd_1, zc_2, zc_3]), ht⟩) (fun _ h => nomatch h) dX7_isGood_77
        · skip
          have zd_1 := Int32.not_le.mp zc_1
          have zhc := Nat.lt_of_not_le (fun z => zc_1 ((nI_leI (by omega) (by omega)).mpr z))
          have cut_47 : W p l e (headSpec wsX7_isGood ({ frames := 1, cells := 0, slots := 0, locals := 20 })).room s m ([.ref (q 0)] : List Value).toArray below meth c s.heap [] 0 0 (MQ below (zQi (fun r : Int32 => r = zb (sGood (T 17) (N 4)))) ([.ref (q 0)] : List Value).toArray s 0 0 (fun _ => False)) (F0 m 47 ls [.int (zb (sG (T 17) (i + 1) && decide (0 < N 4)))]) := by
            refine lv_istore_n (lv' := [(1, .int (zb (sG (T 17) (i + 1) && decide (0 < N 4)))), (0, .ref (q 0)), (2, .int (zb (sW (T 17) i))), (3, .int (nI i))]) hx hb dX7_isGood_47 rfl hl (by decide) rfl (fun ls hl => ?_)
            refine lv_aload_n hx hb dX7_isGood_48 rfl (lv_at hl 1 rfl) ?_
            refine va_get (D := G.1) (ci := 8) (v := .ref (q 17)) (C := RX7) (T := TX7) (N := 32) hx hb hts hi_X7 hown hK hP 0 rfl rfl 24 (by decide) (hts (.fieldLink RX7 60 "BoilerLogModel" "text" "[C") (List.mem_of_getElem? (i := 2) rfl)) (fun _ h9 => h9) rfl dX7_isGood_49 ?_
            refine lv_iload_n hx hb dX7_isGood_52 rfl (lv_at hl 3 rfl) ?_
            refine va_cald hx hb hK hP 17 3 rfl rfl (vp_in_nI (by omega) (by omega)) dX7_isGood_53 ?_
            refine W.eq (g2 := F0 m 54 ls [.int ((T 17) i)]) (by first | (rw [nI_clamp (by omega)]; done) | (rw [nI_clamp (by omega)]; rfl)) ?_
            refine z_csi (va_Run.run (va_runS (As := [.int ((T 17) i)]) (rest := []) ⟨hx, hb, hml, hown, hts⟩ (c_X7_isHighOne l G ((T 17) i)) (va_cwS 1 hts gX7_isGood_X7_isHighOne rfl rfl rfl (by decide +kernel) ⟨Nat.le_of_ble_eq_true rfl, Nat.le_of_ble_eq_true rfl⟩) (z_ps hK z_none) rfl rfl hl.1 rfl (lv_room (Nat.le_of_ble_eq_true rfl)) dX7_isGood_54 ⟨(Nat.zero_le _), (Nat.zero_le _)⟩)) (fun zr_4 hzr_4 => ?_)
            subst hzr_4
            refine lv_istore_n (lv' := [(2, .int (zb (sHi ((T 17) i)))), (1, .int (zb (sG (T 17) (i + 1) && decide (0 < N 4)))), (0, .ref (q 0)), (3, .int (nI i))]) hx hb dX7_isGood_57 rfl hl (by decide) rfl (fun ls hl => ?_)
            refine lv_iinc (v := (nI (i + 1))) (lv' := [(3, .int (nI (i + 1))), (2, .int (zb (sHi ((T 17) i)))), (1, .int (zb (sG (T 17) (i + 1) && decide (0 < N 4)))), (0, .ref (q 0))]) hx hb dX7_isGood_58 hl (k := 3) rfl (by first | exact nI_1 _ | rfl) (by decide) rfl (fun ls hl => ?_)
            refine lv_goto (tgt := 17) hx hb dX7_isGood_61 (by decide) ?_
            have hl2 := lv_sub (l' := [(0, .ref (q 0)), (1, .int (zb (sG (T 17) (i + 1) && decide (0 < N 4)))), (2, .int (zb (sHi ((T 17) i)))), (3, .int (nI (i + 1)))]) hl [3, 2, 1, 0] rfl
            have e_2 : zb (sHi ((T 17) i)) = zb (sW (T 17) (i + 1)) := by simp [sW]
            rw [e_2] at hl2
            exact ih (i + 1) (by omega) (by omega) ls hl2
          refine lv_iload_n hx hb dX7_isGood_25 rfl (lv_at hl 1 rfl) ?_
          refine lv_if_eq (tgt := 46) hx hb dX7_isGood_26 (by decide) (fun zc_5 => ?_) (fun zc_5 => ?_)
          · skip
            have zc_5 := zb_0.mp zc_5
            refine lv_iconst (v := 0) hx hb dX7_isGood_46 (by decide) ?_
            exact W.eq (congrArg (fun z : Int32 => F0 m 47 ls [.int z]) (show (0 : Int32) = zb (sG (T 17) (i + 1) && decide (0 < N 4)) from (by skip; simp_all [zb, sG]))) cut_47
          · skip
            have zc_5 := zb_n0 zc_5
            refine lv_aload_n hx hb dX7_isGood_29 rfl (lv_at hl 0 rfl) ?_
            refine va_get (D := G.1) (ci := 8) (v := .ref (q 17)) (C := RX7) (T := TX7) (N := 32) hx hb hts hi_X7 hown hK hP 0 rfl rfl 24 (by decide) (hts (.fieldLink RX7 60 "BoilerLogModel" "text" "[C") (List.mem_of_getElem? (i := 2) rfl)) (fun _ h9 => h9) rfl dX7_isGood_30 ?_
            refine lv_iload_n hx hb dX7_isGood_33 rfl (lv_at hl 3 rfl) ?_
            refine va_cald hx hb hK hP 17 3 rfl rfl (vp_in_nI (by omega) (by omega)) dX7_isGood_34 ?_
            refine W.eq (g2 := F0 m 35 ls [.int ((T 17) i)]) (by first | (rw [nI_clamp (by omega)]; done) | (rw [nI_clamp (by omega)]; rfl)) ?_
            refine z_csi (va_Run.run (va_runS (As := [.int ((T 17) i)]) (rest := []) ⟨hx, hb, hml, hown, hts⟩ (c_X7_isLowOne l G ((T 17) i)) (va_cwS 1 hts gX7_isGood_X7_isLowOne rfl rfl rfl (by decide +kernel) ⟨Nat.le_of_ble_eq_true rfl, Nat.le_of_ble_eq_true rfl⟩) (z_ps hK z_none) rfl rfl hl.1 rfl (lv_room (Nat.le_of_ble_eq_true rfl)) dX7_isGood_35 ⟨(Nat.zero_le _), (Nat.zero_le _)⟩)) (fun zr_6 hzr_6 => ?_)
            subst hzr_6
            refine lv_iload_n hx hb dX7_isGood_38 rfl (lv_at hl 2 rfl) ?_
            refine lv_icmp_ne (tgt := 46) hx hb dX7_isGood_39 (by decide) (fun zc_7 => ?_) (fun zc_7 => ?_)
            · skip
              have zc_7 := zb_ne zc_7
              refine lv_iconst (v := 0) hx hb dX7_isGood_46 (by decide) ?_
              exact W.eq (congrArg (fun z : Int32 => F0 m 47 ls [.int z]) (show (0 : Int32) = zb (sG (T 17) (i + 1) && decide (0 < N 4)) from (by skip; simp_all [zb, sG]))) cut_47
            · skip
              have zc_7 := zb_eq.mp zc_7
              refine lv_iconst (v := 1) hx hb dX7_isGood_42 (by decide) ?_
              refine lv_goto (tgt := 47) hx hb dX7_isGood_43 (by decide) ?_
              exact W.eq (congrArg (fun z : Int32 => F0 m 47 ls [.int z]) (show (1 : Int32) = zb (sG (T 17) (i + 1) && decide (0 < N 4)) from (by skip; simp_all [zb, sG]))) cut_47
    exact key_17 (N 4 + 1) 0 (Nat.zero_le _) (by omega) ls (lv_sub hl [3, 2, 1, 0] rfl)
  refine lv_aload_n hx hb dX7_isGood_0 rfl (lv_at hl 0 rfl) ?_
  refine va_get (D := G.1) (ci := 8) (v := .int (nI (N 4))) (C := RX7) (T := TX7) (N := 32) hx hb hts hi_X7 hown hK hP 0 rfl rfl 23 (by decide) (hts (.fieldLink RX7 155 "BoilerLogModel" "length" "I") (List.mem_of_getElem? (i := 1) rfl)) (fun _ h9 => h9) rfl dX7_isGood_1 ?_
  refine lv_if_le (tgt := 11) hx hb dX7_isGood_4 (by decide) (fun zc_8 => ?_) (fun zc_8 => ?_)
  · skip
    have zd_8 := Int32.not_lt.mpr zc_8
    have zc_8 := (sLe0 (by omega)).mp zc_8
    refine lv_iconst (v := 0) hx hb dX7_isGood_11 (by decide) ?_
    exact W.eq (congrArg (fun z : Int32 => F0 m 12 ls [.int z]) (show (0 : Int32) = zb (decide (0 < N 4)) from (by have zc := zc_8; simp [zb]; omega))) cut_12
  · skip
    have zd_8 := Int32.not_le.mp zc_8
    have zc_8 := sLe0n (by omega) zc_8
    refine lv_iconst (v := 1) hx hb dX7_isGood_7 (by decide) ?_
    refine lv_goto (tgt := 12) hx hb dX7_isGood_8 (by decide) ?_
    exact W.eq (congrArg (fun z : Int32 => F0 m 12 ls [.int z]) (show (1 : Int32) = zb (decide (0 < N 4)) from (by have zc := zc_8; simp [zb]; omega))) cut_12
