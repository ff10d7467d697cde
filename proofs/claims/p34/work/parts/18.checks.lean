set_option maxHeartbeats 4000000 in
set_option maxRecDepth 100000 in
theorem c_X6_isVessel (l : Launch) (G : zG) (a1 : Int32)  : Met l yX6_isVessel wsX6_isVessel ({ frames := 0, cells := 0, slots := 0, locals := 0 }) (va_Pc [.int a1] (zPp G ([] : va_W))) (zQi (fun r : Int32 => r = zb (sIx a1 3))) 0 0 (fun _ => False) := by
  refine Met.ofW (cc := cX6_isVessel) (maxL := 1) (ret := (some .boolean)) (by decide) rfl ?_
  intro p e s m args below meth c s₁ B hml hv
  obtain ⟨rfl, hP, hK⟩ := hv
  have hx := B.exec
  have hb := B.bytes
  have hr := B.returns
  have hts := atoms_spec (ws := wsX6_isVessel) B.pre
  have hown : s.vm.findClass RX6 = some m.cls := findClass_of_methodNamed B.named
  have hlocks := B.notSynchronized
  have hl := lv_entry ([.int a1]) (n := 1) (Nat.le_of_ble_eq_true rfl)
  rw [lg_entry_eq]
  generalize (lg_sl ([.int a1]) ++ List.replicate (1 - (lg_sl ([.int a1])).length) Slot.unset).toArray = ls at hl ⊢
  have hl : lv_has ls 1 [(0, .int a1)] := hl
  refine lv_iload_n hx hb dX6_isVessel_0 rfl (lv_at hl 0 rfl) ?_
  refine lv_if_lt (tgt := 13) hx hb dX6_isVessel_1 (by decide) (fun zc_1 => ?_) (fun zc_1 => ?_)
  · skip
    have zd_1 := Int32.not_le.mpr zc_1
    refine lv_iconst (v := 0) hx hb dX6_isVessel_13 (by decide) ?_
    exact W.zret (v := 0) hx hb hr rfl (fun t ht hW => ⟨0, rfl, (by rw [zIx_neg zc_1]; rfl), ht⟩) (fun _ h => nomatch h) dX6_isVessel_14
  · skip
    have zd_1 := Int32.not_lt.mp zc_1
    refine lv_iload_n hx hb dX6_isVessel_4 rfl (lv_at hl 0 rfl) ?_
    refine lv_iconst (v := 3) hx hb dX6_isVessel_5 (by decide) ?_
    refine lv_icmp_ge (tgt := 13) hx hb dX6_isVessel_6 (by decide) (fun zc_2 => ?_) (fun zc_2 => ?_)
    · skip
      have zd_2 := Int32.not_lt.mpr zc_2
      refine lv_iconst (v := 0) hx hb dX6_isVessel_13 (by decide) ?_
      exact W.zret (v := 0) hx hb hr rfl (fun t ht hW => ⟨0, rfl, (by rw [zIx_ge (K := 3) (by decide) zd_2]; rfl), ht⟩) (fun _ h => nomatch h) dX6_isVessel_14
    · skip
      have zd_2 := Int32.not_le.mp zc_2
      refine lv_iconst (v := 1) hx hb dX6_isVessel_9 (by decide) ?_
      refine lv_goto (tgt := 14) hx hb dX6_isVessel_10 (by decide) ?_
      exact W.zret (v := 1) hx hb hr rfl (fun t ht hW => ⟨1, rfl, (by rw [zIx_lt (K := 3) (by decide) zc_1 zd_2]; rfl), ht⟩) (fun _ h => nomatch h) dX6_isVessel_14

set_option maxHeartbeats 4000000 in
set_option maxRecDepth 100000 in
theorem c_X6_isEnd (l : Launch) (G : zG) (a1 : Int32)  : Met l yX6_isEnd wsX6_isEnd ({ frames := 1, cells := 0, slots := 0, locals := 20 }) (va_Pc [.int a1] (zPp G ([] : va_W))) (zQi (fun r : Int32 => r = zb (sEnd a1))) 0 0 (fun _ => False) := by
  refine Met.ofW (cc := cX6_isEnd) (maxL := 1) (ret := (some .boolean)) (by decide) rfl ?_
  intro p e s m args below meth c s₁ B hml hv
  obtain ⟨rfl, hP, hK⟩ := hv
  have hx := B.exec
  have hb := B.bytes
  have hr := B.returns
  have hts := atoms_spec (ws := wsX6_isEnd) B.pre
  have hown : s.vm.findClass RX6 = some m.cls := findClass_of_methodNamed B.named
  have hlocks := B.notSynchronized
  have hl := lv_entry ([.int a1]) (n := 1) (Nat.le_of_ble_eq_true rfl)
  rw [lg_entry_eq]
  generalize (lg_sl ([.int a1]) ++ List.replicate (1 - (lg_sl ([.int a1])).length) Slot.unset).toArray = ls at hl ⊢
  have hl : lv_has ls 1 [(0, .int a1)] := hl
  refine lv_iload_n hx hb dX6_isEnd_0 rfl (lv_at hl 0 rfl) ?_
  refine lv_iconst (v := (-1)) hx hb dX6_isEnd_1 (by decide) ?_
  refine lv_icmp_eq (tgt := 12) hx hb dX6_isEnd_2 (by decide) (fun zc_1 => ?_) (fun zc_1 => ?_)
  · skip
    refine lv_iconst (v := 1) hx hb dX6_isEnd_12 (by decide) ?_
    refine lv_goto (tgt := 17) hx hb dX6_isEnd_13 (by decide) ?_
    exact W.zret (v := 1) hx hb hr rfl (fun t ht hW => ⟨1, rfl, (by rw [zEnd_or]; simp [zb, zc_1]), ht⟩) (fun _ h => nomatch h) dX6_isEnd_17
  · skip
    refine lv_iload_n hx hb dX6_isEnd_5 rfl (lv_at hl 0 rfl) ?_
    refine z_csi (va_Run.run (va_runS (As := [.int a1]) (rest := []) ⟨hx, hb, hml, hown, hts⟩ (c_X6_isVessel l G a1) (va_cwS 1 hts gX6_isEnd_X6_isVessel rfl rfl rfl (by decide +kernel) ⟨Nat.le_of_ble_eq_true rfl, Nat.le_of_ble_eq_true rfl⟩) (z_ps hK z_none) rfl rfl hl.1 rfl (lv_room (Nat.le_of_ble_eq_true rfl)) dX6_isEnd_6 ⟨(Nat.zero_le _), (Nat.zero_le _)⟩)) (fun zr_2 hzr_2 => ?_)
    subst hzr_2
    refine lv_if_eq (tgt := 16) hx hb dX6_isEnd_9 (by decide) (fun zc_3 => ?_) (fun zc_3 => ?_)
    · skip
      have zc_3 := zb_0.mp zc_3
      refine lv_iconst (v := 0) hx hb dX6_isEnd_16 (by decide) ?_
      exact W.zret (v := 0) hx hb hr rfl (fun t ht hW => ⟨0, rfl, (by rw [zEnd_or]; simp [zb, zc_1, zc_3]), ht⟩) (fun _ h => nomatch h) dX6_isEnd_17
    · skip
      have zc_3 := zb_n0 zc_3
      refine lv_iconst (v := 1) hx hb dX6_isEnd_12 (by decide) ?_
      refine lv_goto (tgt := 17) hx hb dX6_isEnd_13 (by decide) ?_
      exact W.zret (v := 1) hx hb hr rfl (fun t ht hW => ⟨1, rfl, (by rw [zEnd_or]; simp [zb, zc_1, zc_3]), ht⟩) (fun _ h => nomatch h) dX6_isEnd_17

set_option maxHeartbeats 4000000 in
set_option maxRecDepth 100000 in
theorem c_Jx4a65c_size_8abf5 (l : Launch) (G : zG) (w : va_W) (kl bl : Nat) (mc : Int32) (dv : Value) (ln : Int32)  (hhl : w[kl]? = some (bl, .inr (0, [.int mc, dv, .int ln]))) : Met l yJx4a65c_size_8abf5 wsJx4a65c_size_8abf5 ({ frames := 0, cells := 0, slots := 0, locals := 0 }) (va_Pc [.ref bl] (zPp G w)) (zQi (fun r : Int32 => r = ln)) 0 0 (fun _ => False) := by
  refine Met.ofW (cc := cJx4a65c_size_8abf5) (maxL := 1) (ret := (some .int)) (by decide) rfl ?_
  intro p e s m args below meth c s₁ B hml hv
  obtain ⟨rfl, hP, hK⟩ := hv
  have hx := B.exec
  have hb := B.bytes
  have hr := B.returns
  have hts := atoms_spec (ws := wsJx4a65c_size_8abf5) B.pre
  have hown : s.vm.findClass RJx4a65c = some m.cls := findClass_of_methodNamed B.named
  have hlocks := B.notSynchronized
  have hi_Jx4a65c : ∀ w ∈ u_ws RJx4a65c TJx4a65c 3, w ∈ wsJx4a65c_size_8abf5 := (fun _ h => List.mem_cons_of_mem _ (List.mem_append_right _ h))
  have hl := lv_entry ([.ref bl]) (n := 1) (Nat.le_of_ble_eq_true rfl)
  rw [lg_entry_eq]
  generalize (lg_sl ([.ref bl]) ++ List.replicate (1 - (lg_sl ([.ref bl])).length) Slot.unset).toArray = ls at hl ⊢
  have hl : lv_has ls 1 [(0, .ref bl)] := hl
  refine lv_aload_n hx hb dJx4a65c_size_8abf5_0 rfl (lv_at hl 0 rfl) ?_
  refine va_get (D := G.1) (ci := 0) (v := .int ln) (C := RJx4a65c) (T := TJx4a65c) (N := 3) hx hb hts hi_Jx4a65c hown hK hP kl hhl rfl 2 (by decide) (hts (.fieldLink RJx4a65c 48 "java/util/ArrayList" "size" "I") (List.mem_of_getElem? (i := 1) rfl)) (fun _ h9 => h9) rfl dJx4a65c_size_8abf5_1 ?_
  exact W.iret (v := ln) hx hb hr (fun t ht hW => ⟨ln, rfl, rfl, ht⟩) (fun _ h => nomatch h) dJx4a65c_size_8abf5_4

set_option maxHeartbeats 4000000 in
set_option maxRecDepth 100000 in
theorem c_X6_checkPerson (l : Launch) (hst : l.stackTraces = false) (G : zG) (w : va_W)  (a1 : Int32)  : vx_Met l yX6_checkPerson wsX6_checkPerson ({ frames := 6, cells := 1, slots := 6, locals := 90 }) (va_Pc [.int a1] (zPx G w)) (zQx (sIx a1 9 = true)) (zXx "java/lang/IndexOutOfBoundsException" (sIx a1 9 = false)) 1 6 (fun _ => False) := by
  refine vx_ofW (cc := cX6_checkPerson) (maxL := 1) (ret := none) (by decide) rfl ?_
  intro p e s m args below meth c s₁ B hml hxt hv
  obtain ⟨rfl, hP, hK, hZ⟩ := hv
  have hx := B.exec
  have hb := B.bytes
  have hr := B.returns
  have hts := atoms_spec (ws := wsX6_checkPerson) B.pre
  have hown : s.vm.findClass RX6 = some m.cls := findClass_of_methodNamed B.named
  have hlocks := B.notSynchronized
  have hl := lv_entry ([.int a1]) (n := 1) (Nat.le_of_ble_eq_true rfl)
  rw [lg_entry_eq]
  generalize (lg_sl ([.int a1]) ++ List.replicate (1 - (lg_sl ([.int a1])).length) Slot.unset).toArray = ls at hl ⊢
  have hl : lv_has ls 1 [(0, .int a1)] := hl
  refine lv_iload_n hx hb dX6_checkPerson_0 rfl (lv_at hl 0 rfl) ?_
  refine lv_if_lt (tgt := 10) hx hb dX6_checkPerson_1 (by decide) (fun zc_1 => ?_) (fun zc_1 => ?_)
  · skip
    have zd_1 := Int32.not_le.mpr zc_1
    obtain ⟨sa, hsa⟩ := zText hZ.2.2 (i := 15) (q := ("BoilerLog", 271, "no such person")) rfl
    exact vx_throwSW (own := RX6) (cls := "java/lang/IndexOutOfBoundsException") (names := ["java/lang/RuntimeException", "java/lang/Exception"]) (A := fun _ => False) hx hb hst hown (by decide) (by decide) (hts _ (List.mem_of_getElem? (i := 1) rfl)) (hts _ (List.mem_of_getElem? (i := 2) rfl)) hsa (zThrow_all (fun w h => hts w (List.mem_cons_of_mem _ (List.mem_append_right _ h))) zBad_204 hZ.2.2) zGood_204 hZ.1 hZ.2.1 va_S.rf (by rw [hml]; exact hl.1) dX6_checkPerson_10 dX6_checkPerson_13 dX6_checkPerson_14 dX6_checkPerson_17 dX6_checkPerson_20 (fun x h => (hxt x h).elim) (Nat.le_of_ble_eq_true rfl) (Nat.le_of_ble_eq_true rfl) (Nat.le_of_ble_eq_true rfl) (Nat.le_of_ble_eq_true rfl) hlocks (fun t _ hz hq => ⟨(), (zIx_neg zc_1), rfl, ⟨hz, fun q hq1 _ => hq q hq1⟩⟩) (fun _ h => nomatch h) (Nat.le_refl _) (Nat.le_refl _)
  · skip
    have zd_1 := Int32.not_lt.mp zc_1
    refine lv_iload_n hx hb dX6_checkPerson_4 rfl (lv_at hl 0 rfl) ?_
    refine lv_bipush (v := 9) hx hb dX6_checkPerson_5 (by decide) ?_
    refine lv_icmp_lt (tgt := 21) hx hb dX6_checkPerson_7 (by decide) (fun zc_2 => ?_) (fun zc_2 => ?_)
    · skip
      have zd_2 := Int32.not_le.mpr zc_2
      exact vx_ret (z_widen (k := 1) (n := 6) (Nat.zero_le _) (Nat.zero_le _) (W.vret hx hb hr (fun t ht hW => ⟨⟨(), rfl, (zIx_lt (K := 9) (by decide) zc_1 zc_2), trivial⟩, va_S.rf.F ht⟩) (fun _ h => nomatch h) dX6_checkPerson_21 hlocks))
    · skip
      have zd_2 := Int32.not_lt.mp zc_2
      obtain ⟨sa, hsa⟩ := zText hZ.2.2 (i := 15) (q := ("BoilerLog", 271, "no such person")) rfl
      exact vx_throwSW (own := RX6) (cls := "java/lang/IndexOutOfBoundsException") (names := ["java/lang/RuntimeException", "java/lang/Exception"]) (A := fun _ => False) hx hb hst hown (by decide) (by decide) (hts _ (List.mem_of_getElem? (i := 1) rfl)) (hts _ (List.mem_of_getElem? (i := 2) rfl)) hsa (zThrow_all (fun w h => hts w (List.mem_cons_of_mem _ (List.mem_append_right _ h))) zBad_204 hZ.2.2) zGood_204 hZ.1 hZ.2.1 va_S.rf (by rw [hml]; exact hl.1) dX6_checkPerson_10 dX6_checkPerson_13 dX6_checkPerson_14 dX6_checkPerson_17 dX6_checkPerson_20 (fun x h => (hxt x h).elim) (Nat.le_of_ble_eq_true rfl) (Nat.le_of_ble_eq_true rfl) (Nat.le_of_ble_eq_true rfl) (Nat.le_of_ble_eq_true rfl) hlocks (fun t _ hz hq => ⟨(), (zIx_ge (K := 9) (by decide) zc_2), rfl, ⟨hz, fun q hq1 _ => hq q hq1⟩⟩) (fun _ h => nomatch h) (Nat.le_refl _) (Nat.le_refl _)

set_option maxHeartbeats 4000000 in
set_option maxRecDepth 100000 in
theorem c_X6_checkValve (l : Launch) (hst : l.stackTraces = false) (G : zG) (w : va_W)  (a1 : Int32)  : vx_Met l yX6_checkValve wsX6_checkValve ({ frames := 6, cells := 1, slots := 6, locals := 90 }) (va_Pc [.int a1] (zPx G w)) (zQx (sIx a1 8 = true)) (zXx "java/lang/IndexOutOfBoundsException" (sIx a1 8 = false)) 1 6 (fun _ => False) := by
  refine vx_ofW (cc := cX6_checkValve) (maxL := 1) (ret := none) (by decide) rfl ?_
  intro p e s m args below meth c s₁ B hml hxt hv
  obtain ⟨rfl, hP, hK, hZ⟩ := hv
  have hx := B.exec
  have hb := B.bytes
  have hr := B.returns
  have hts := atoms_spec (ws := wsX6_checkValve) B.pre
  have hown : s.vm.findClass RX6 = some m.cls := findClass_of_methodNamed B.named
  have hlocks := B.notSynchronized
  have hl := lv_entry ([.int a1]) (n := 1) (Nat.le_of_ble_eq_true rfl)
  rw [lg_entry_eq]
  generalize (lg_sl ([.int a1]) ++ List.replicate (1 - (lg_sl ([.int a1])).length) Slot.unset).toArray = ls at hl ⊢
  have hl : lv_has ls 1 [(0, .int a1)] := hl
  refine lv_iload_n hx hb dX6_checkValve_0 rfl (lv_at hl 0 rfl) ?_
  refine lv_if_lt (tgt := 10) hx hb dX6_checkValve_1 (by decide) (fun zc_1 => ?_) (fun zc_1 => ?_)
  · skip
    have zd_1 := Int32.not_le.mpr zc_1
    obtain ⟨sa, hsa⟩ := zText hZ.2.2 (i := 16) (q := ("BoilerLog", 273, "no such valve")) rfl
    exact vx_throwSW (own := RX6) (cls := "java/lang/IndexOutOfBoundsException") (names := ["java/lang/RuntimeException", "java/lang/Exception"]) (A := fun _ => False) hx hb hst hown (by decide) (by decide) (hts _ (List.mem_of_getElem? (i := 1) rfl)) (hts _ (List.mem_of_getElem? (i := 2) rfl)) hsa (zThrow_all (fun w h => hts w (List.mem_cons_of_mem _ (List.mem_append_right _ h))) zBad_204 hZ.2.2) zGood_204 hZ.1 hZ.2.1 va_S.rf (by rw [hml]; exact hl.1) dX6_checkValve_10 dX6_checkValve_13 dX6_checkValve_14 dX6_checkValve_17 dX6_checkValve_20 (fun x h => (hxt x h).elim) (Nat.le_of_ble_eq_true rfl) (Nat.le_of_ble_eq_true rfl) (Nat.le_of_ble_eq_true rfl) (Nat.le_of_ble_eq_true rfl) hlocks (fun t _ hz hq => ⟨(), (zIx_neg zc_1), rfl, ⟨hz, fun q hq1 _ => hq q hq1⟩⟩) (fun _ h => nomatch h) (Nat.le_refl _) (Nat.le_refl _)
  · skip
    have zd_1 := Int32.not_lt.mp zc_1
    refine lv_iload_n hx hb dX6_checkValve_4 rfl (lv_at hl 0 rfl) ?_
    refine lv_bipush (v := 8) hx hb dX6_checkValve_5 (by decide) ?_
    refine lv_icmp_lt (tgt := 21) hx hb dX6_checkValve_7 (by decide) (fun zc_2 => ?_) (fun zc_2 => ?_)
    · skip
      have zd_2 := Int32.not_le.mpr zc_2
      exact vx_ret (z_widen (k := 1) (n := 6) (Nat.zero_le _) (Nat.zero_le _) (W.vret hx hb hr (fun t ht hW => ⟨⟨(), rfl, (zIx_lt (K := 8) (by decide) zc_1 zc_2), trivial⟩, va_S.rf.F ht⟩) (fun _ h => nomatch h) dX6_checkValve_21 hlocks))
    · skip
      have zd_2 := Int32.not_lt.mp zc_2
      obtain ⟨sa, hsa⟩ := zText hZ.2.2 (i := 16) (q := ("BoilerLog", 273, "no such valve")) rfl
      exact vx_throwSW (own := RX6) (cls := "java/lang/IndexOutOfBoundsException") (names := ["java/lang/RuntimeException", "java/lang/Exception"]) (A := fun _ => False) hx hb hst hown (by decide) (by decide) (hts _ (List.mem_of_getElem? (i := 1) rfl)) (hts _ (List.mem_of_getElem? (i := 2) rfl)) hsa (zThrow_all (fun w h => hts w (List.mem_cons_of_mem _ (List.mem_append_right _ h))) zBad_204 hZ.2.2) zGood_204 hZ.1 hZ.2.1 va_S.rf (by rw [hml]; exact hl.1) dX6_checkValve_10 dX6_checkValve_13 dX6_checkValve_14 dX6_checkValve_17 dX6_checkValve_20 (fun x h => (hxt x h).elim) (Nat.le_of_ble_eq_true rfl) (Nat.le_of_ble_eq_true rfl) (Nat.le_of_ble_eq_true rfl) (Nat.le_of_ble_eq_true rfl) hlocks (fun t _ hz hq => ⟨(), (zIx_ge (K := 8) (by decide) zc_2), rfl, ⟨hz, fun q hq1 _ => hq q hq1⟩⟩) (fun _ h => nomatch h) (Nat.le_refl _) (Nat.le_refl _)

set_option maxHeartbeats 4000000 in
set_option maxRecDepth 100000 in
theorem c_X6_checkVessel (l : Launch) (hst : l.stackTraces = false) (G : zG) (w : va_W)  (a1 : Int32)  : vx_Met l yX6_checkVessel wsX6_checkVessel ({ frames := 6, cells := 1, slots := 6, locals := 90 }) (va_Pc [.int a1] (zPx G w)) (zQx (sIx a1 3 = true)) (zXx "java/lang/IndexOutOfBoundsException" (sIx a1 3 = false)) 1 6 (fun _ => False) := by
  refine vx_ofW (cc := cX6_checkVessel) (maxL := 1) (ret := none) (by decide) rfl ?_
  intro p e s m args below meth c s₁ B hml hxt hv
  obtain ⟨rfl, hP, hK, hZ⟩ := hv
  have hx := B.exec
  have hb := B.bytes
  have hr := B.returns
  have hts := atoms_spec (ws := wsX6_checkVessel) B.pre
  have hown : s.vm.findClass RX6 = some m.cls := findClass_of_methodNamed B.named
  have hlocks := B.notSynchronized
  have hl := lv_entry ([.int a1]) (n := 1) (Nat.le_of_ble_eq_true rfl)
  rw [lg_entry_eq]
  generalize (lg_sl ([.int a1]) ++ List.replicate (1 - (lg_sl ([.int a1])).length) Slot.unset).toArray = ls at hl ⊢
  have hl : lv_has ls 1 [(0, .int a1)] := hl
  refine lv_iload_n hx hb dX6_checkVessel_0 rfl (lv_at hl 0 rfl) ?_
  refine z_csi (va_Run.run (va_runS (As := [.int a1]) (rest := []) ⟨hx, hb, hml, hown, hts⟩ (c_X6_isVessel l G a1) (va_cwS 1 hts gX6_checkVessel_X6_isVessel rfl rfl rfl (by decide +kernel) ⟨Nat.le_of_ble_eq_true rfl, Nat.le_of_ble_eq_true rfl⟩) (z_ps hK z_none) rfl rfl hl.1 rfl (lv_room (Nat.le_of_ble_eq_true rfl)) dX6_checkVessel_1 ⟨(Nat.zero_le _), (Nat.zero_le _)⟩)) (fun zr_1 hzr_1 => ?_)
  subst hzr_1
  refine lv_if_ne (tgt := 18) hx hb dX6_checkVessel_4 (by decide) (fun zc_2 => ?_) (fun zc_2 => ?_)
  · skip
    have zc_2 := zb_n0 zc_2
    exact vx_ret (z_widen (k := 1) (n := 6) (Nat.zero_le _) (Nat.zero_le _) (W.vret hx hb hr (fun t ht hW => ⟨⟨(), rfl, zc_2, trivial⟩, va_S.rf.F ht⟩) (fun _ h => nomatch h) dX6_checkVessel_18 hlocks))
  · skip
    have zc_2 := zb_0.mp zc_2
    obtain ⟨sa, hsa⟩ := zText hZ.2.2 (i := 17) (q := ("BoilerLog", 278, "no such vessel")) rfl
    exact vx_throwSW (own := RX6) (cls := "java/lang/IndexOutOfBoundsException") (names := ["java/lang/RuntimeException", "java/lang/Exception"]) (A := fun _ => False) hx hb hst hown (by decide) (by decide) (hts _ (List.mem_of_getElem? (i := 1) rfl)) (hts _ (List.mem_of_getElem? (i := 2) rfl)) hsa (zThrow_all (fun w h => hts w (List.mem_cons_of_mem _ (List.mem_append_right _ h))) zBad_204 hZ.2.2) zGood_204 hZ.1 hZ.2.1 va_S.rf (by rw [hml]; exact hl.1) dX6_checkVessel_7 dX6_checkVessel_10 dX6_checkVessel_11 dX6_checkVessel_14 dX6_checkVessel_17 (fun x h => (hxt x h).elim) (Nat.le_of_ble_eq_true rfl) (Nat.le_of_ble_eq_true rfl) (Nat.le_of_ble_eq_true rfl) (Nat.le_of_ble_eq_true rfl) hlocks (fun t _ hz hq => ⟨(), zc_2, rfl, ⟨hz, fun q hq1 _ => hq q hq1⟩⟩) (fun _ h => nomatch h) (Nat.le_refl _) (Nat.le_refl _)

set_option maxHeartbeats 4000000 in
set_option maxRecDepth 100000 in
theorem c_X6_checkPlace (l : Launch) (hst : l.stackTraces = false) (G : zG) (w : va_W)  (a1 : Int32)  : vx_Met l yX6_checkPlace wsX6_checkPlace ({ frames := 6, cells := 1, slots := 6, locals := 90 }) (va_Pc [.int a1] (zPx G w)) (zQx (0 ≤ a1)) (zXx "java/lang/IndexOutOfBoundsException" (¬ 0 ≤ a1)) 1 6 (fun _ => False) := by
  refine vx_ofW (cc := cX6_checkPlace) (maxL := 1) (ret := none) (by decide) rfl ?_
  intro p e s m args below meth c s₁ B hml hxt hv
  obtain ⟨rfl, hP, hK, hZ⟩ := hv
  have hx := B.exec
  have hb := B.bytes
  have hr := B.returns
  have hts := atoms_spec (ws := wsX6_checkPlace) B.pre
  have hown : s.vm.findClass RX6 = some m.cls := findClass_of_methodNamed B.named
  have hlocks := B.notSynchronized
  have hl := lv_entry ([.int a1]) (n := 1) (Nat.le_of_ble_eq_true rfl)
  rw [lg_entry_eq]
  generalize (lg_sl ([.int a1]) ++ List.replicate (1 - (lg_sl ([.int a1])).length) Slot.unset).toArray = ls at hl ⊢
  have hl : lv_has ls 1 [(0, .int a1)] := hl
  refine lv_iload_n hx hb dX6_checkPlace_0 rfl (lv_at hl 0 rfl) ?_
  refine lv_if_ge (tgt := 15) hx hb dX6_checkPlace_1 (by decide) (fun zc_1 => ?_) (fun zc_1 => ?_)
  · skip
    have zd_1 := Int32.not_lt.mpr zc_1
    exact vx_ret (z_widen (k := 1) (n := 6) (Nat.zero_le _) (Nat.zero_le _) (W.vret hx hb hr (fun t ht hW => ⟨⟨(), rfl, (by first | exact zc_1 | exact zd_1 | exact Int32.not_lt.mp zc_1), trivial⟩, va_S.rf.F ht⟩) (fun _ h => nomatch h) dX6_checkPlace_15 hlocks))
  · skip
    have zd_1 := Int32.not_le.mp zc_1
    obtain ⟨sa, hsa⟩ := zText hZ.2.2 (i := 21) (q := ("BoilerLog", 286, "no such place in a message")) rfl
    exact vx_throwSW (own := RX6) (cls := "java/lang/IndexOutOfBoundsException") (names := ["java/lang/RuntimeException", "java/lang/Exception"]) (A := fun _ => False) hx hb hst hown (by decide) (by decide) (hts _ (List.mem_of_getElem? (i := 1) rfl)) (hts _ (List.mem_of_getElem? (i := 2) rfl)) hsa (zThrow_all (fun w h => hts w (List.mem_cons_of_mem _ (List.mem_append_right _ h))) zBad_204 hZ.2.2) zGood_204 hZ.1 hZ.2.1 va_S.rf (by rw [hml]; exact hl.1) dX6_checkPlace_4 dX6_checkPlace_7 dX6_checkPlace_8 dX6_checkPlace_11 dX6_checkPlace_14 (fun x h => (hxt x h).elim) (Nat.le_of_ble_eq_true rfl) (Nat.le_of_ble_eq_true rfl) (Nat.le_of_ble_eq_true rfl) (Nat.le_of_ble_eq_true rfl) hlocks (fun t _ hz hq => ⟨(), (by first | exact zc_1 | exact zd_1 | exact Int32.not_le.mpr zc_1), rfl, ⟨hz, fun q hq1 _ => hq q hq1⟩⟩) (fun _ h => nomatch h) (Nat.le_refl _) (Nat.le_refl _)

set_option maxHeartbeats 4000000 in
set_option maxRecDepth 100000 in
theorem c_X6_checkTag (l : Launch) (hst : l.stackTraces = false) (G : zG) (w : va_W) (k0 : Nat) (r : Nat → Nat) (zn0 zs0 zl0 zt0 : Int32) (k5 : Nat) (mc5 : Int32) (dv5 : Value) (n5 : Nat) (a1 : Int32) (hh0 : w[k0]? = some (r 0, .inr (7, [.ref (r 1), .ref (r 2), .ref (r 3), .ref (r 4), .ref (r 5), .ref (r 6), .ref (r 7), .ref (r 8), .ref (r 9), .ref (r 10), .int zn0, .int zs0, .int zl0, .int zt0]))) (hh5 : w[k5]? = some (r 5, .inr (0, [.int mc5, dv5, .int (nI n5)]))) (hn : n5 < 2 ^ 31) : vx_Met l yX6_checkTag wsX6_checkTag ({ frames := 6, cells := 1, slots := 6, locals := 90 }) (va_Pc [.ref (r 0), .int a1] (zPx G w)) (zQx (sIx a1 n5 = true)) (zXx "java/lang/IndexOutOfBoundsException" (sIx a1 n5 = false)) 1 6 (fun _ => False) := by
  refine vx_ofW (cc := cX6_checkTag) (maxL := 2) (ret := none) (by decide) rfl ?_
  intro p e s m args below meth c s₁ B hml hxt hv
  obtain ⟨rfl, hP, hK, hZ⟩ := hv
  have hx := B.exec
  have hb := B.bytes
  have hr := B.returns
  have hts := atoms_spec (ws := wsX6_checkTag) B.pre
  have hown : s.vm.findClass RX6 = some m.cls := findClass_of_methodNamed B.named
  have hlocks := B.notSynchronized
  have hi_X6 : ∀ w ∈ u_ws RX6 TX6 14, w ∈ wsX6_checkTag := (fun _ h => List.mem_cons_of_mem _ (List.mem_append_left _ (List.mem_append_left _ (List.mem_append_right _ h))))
  have hl := lv_entry ([.ref (r 0), .int a1]) (n := 2) (Nat.le_of_ble_eq_true rfl)
  rw [lg_entry_eq]
  generalize (lg_sl ([.ref (r 0), .int a1]) ++ List.replicate (2 - (lg_sl ([.ref (r 0), .int a1])).length) Slot.unset).toArray = ls at hl ⊢
  have hl : lv_has ls 2 [(0, .ref (r 0)), (1, .int a1)] := hl
  refine lv_iload_n hx hb dX6_checkTag_0 rfl (lv_at hl 1 rfl) ?_
  refine lv_if_lt (tgt := 15) hx hb dX6_checkTag_1 (by decide) (fun zc_1 => ?_) (fun zc_1 => ?_)
  · skip
    have zd_1 := Int32.not_le.mpr zc_1
    obtain ⟨sa, hsa⟩ := zText hZ.2.2 (i := 18) (q := ("BoilerLog", 280, "no such tag")) rfl
    exact vx_throwSW (own := RX6) (cls := "java/lang/IndexOutOfBoundsException") (names := ["java/lang/RuntimeException", "java/lang/Exception"]) (A := fun _ => False) hx hb hst hown (by decide) (by decide) (hts _ (List.mem_of_getElem? (i := 1) rfl)) (hts _ (List.mem_of_getElem? (i := 2) rfl)) hsa (zThrow_all (fun w h => hts w (List.mem_cons_of_mem _ (List.mem_append_right _ h))) zBad_204 hZ.2.2) zGood_204 hZ.1 hZ.2.1 va_S.rf (by rw [hml]; exact hl.1) dX6_checkTag_15 dX6_checkTag_18 dX6_checkTag_19 dX6_checkTag_22 dX6_checkTag_25 (fun x h => (hxt x h).elim) (Nat.le_of_ble_eq_true rfl) (Nat.le_of_ble_eq_true rfl) (Nat.le_of_ble_eq_true rfl) (Nat.le_of_ble_eq_true rfl) hlocks (fun t _ hz hq => ⟨(), (zIx_neg zc_1), rfl, ⟨hz, fun q hq1 _ => hq q hq1⟩⟩) (fun _ h => nomatch h) (Nat.le_refl _) (Nat.le_refl _)
  · skip
    have zd_1 := Int32.not_lt.mp zc_1
    refine lv_iload_n hx hb dX6_checkTag_4 rfl (lv_at hl 1 rfl) ?_
    refine lv_aload_n hx hb dX6_checkTag_5 rfl (lv_at hl 0 rfl) ?_
    refine va_get (D := G.1) (ci := 7) (v := .ref (r 5)) (C := RX6) (T := TX6) (N := 14) hx hb hts hi_X6 hown hK hP k0 hh0 rfl 4 (by decide) (hts (.fieldLink RX6 29 "BoilerLog" "tags" "Ljava/util/ArrayList;") (List.mem_of_getElem? (i := 3) rfl)) (fun _ h9 => h9) rfl dX6_checkTag_6 ?_
    refine z_csi (va_Run.run (va_runV (As := []) (rest := [.int a1]) ⟨hx, hb, hml, hown, hts⟩ (c_Jx4a65c_size_8abf5 l G w k5 (r 5) mc5 dv5 (nI n5) (by first | assumption | omega | exact sIx_in.mp (by assumption))) (cwV 0 hts gX6_checkTag_Jx4a65c_size_8abf5 rfl rfl rfl (by decide +kernel) ⟨Nat.le_of_ble_eq_true rfl, Nat.le_of_ble_eq_true rfl⟩) (z_pv hK hP (ci := 0) (q0 := k5) rfl hh5 hP) rfl rfl hl.1 rfl (lv_room (Nat.le_of_ble_eq_true rfl)) dX6_checkTag_9 ⟨(Nat.zero_le _), (Nat.zero_le _)⟩)) (fun zr_2 hzr_2 => ?_)
    subst hzr_2
    refine lv_icmp_lt (tgt := 26) hx hb dX6_checkTag_12 (by decide) (fun zc_3 => ?_) (fun zc_3 => ?_)
    · skip
      have zd_3 := Int32.not_le.mpr zc_3
      exact vx_ret (z_widen (k := 1) (n := 6) (Nat.zero_le _) (Nat.zero_le _) (W.vret hx hb hr (fun t ht hW => ⟨⟨(), rfl, (zIx_lt (nI_toInt hn) zc_1 zc_3), trivial⟩, va_S.rf.F ht⟩) (fun _ h => nomatch h) dX6_checkTag_26 hlocks))
    · skip
      have zd_3 := Int32.not_lt.mp zc_3
      obtain ⟨sa, hsa⟩ := zText hZ.2.2 (i := 18) (q := ("BoilerLog", 280, "no such tag")) rfl
      exact vx_throwSW (own := RX6) (cls := "java/lang/IndexOutOfBoundsException") (names := ["java/lang/RuntimeException", "java/lang/Exception"]) (A := fun _ => False) hx hb hst hown (by decide) (by decide) (hts _ (List.mem_of_getElem? (i := 1) rfl)) (hts _ (List.mem_of_getElem? (i := 2) rfl)) hsa (zThrow_all (fun w h => hts w (List.mem_cons_of_mem _ (List.mem_append_right _ h))) zBad_204 hZ.2.2) zGood_204 hZ.1 hZ.2.1 va_S.rf (by rw [hml]; exact hl.1) dX6_checkTag_15 dX6_checkTag_18 dX6_checkTag_19 dX6_checkTag_22 dX6_checkTag_25 (fun x h => (hxt x h).elim) (Nat.le_of_ble_eq_true rfl) (Nat.le_of_ble_eq_true rfl) (Nat.le_of_ble_eq_true rfl) (Nat.le_of_ble_eq_true rfl) hlocks (fun t _ hz hq => ⟨(), (zIx_ge (nI_toInt hn) zc_3), rfl, ⟨hz, fun q hq1 _ => hq q hq1⟩⟩) (fun _ h => nomatch h) (Nat.le_refl _) (Nat.le_refl _)

set_option maxHeartbeats 4000000 in
set_option maxRecDepth 100000 in
theorem c_X6_checkMessage (l : Launch) (hst : l.stackTraces = false) (G : zG) (w : va_W) (k0 : Nat) (r : Nat → Nat) (zn0 zs0 zl0 zt0 : Int32) (k7 : Nat) (mc7 : Int32) (dv7 : Value) (n7 : Nat) (a1 : Int32) (hh0 : w[k0]? = some (r 0, .inr (7, [.ref (r 1), .ref (r 2), .ref (r 3), .ref (r 4), .ref (r 5), .ref (r 6), .ref (r 7), .ref (r 8), .ref (r 9), .ref (r 10), .int zn0, .int zs0, .int zl0, .int zt0]))) (hh7 : w[k7]? = some (r 7, .inr (0, [.int mc7, dv7, .int (nI n7)]))) (hn : n7 < 2 ^ 31) : vx_Met l yX6_checkMessage wsX6_checkMessage ({ frames := 6, cells := 1, slots := 6, locals := 90 }) (va_Pc [.ref (r 0), .int a1] (zPx G w)) (zQx (sIx a1 n7 = true)) (zXx "java/lang/IndexOutOfBoundsException" (sIx a1 n7 = false)) 1 6 (fun _ => False) := by
  refine vx_ofW (cc := cX6_checkMessage) (maxL := 2) (ret := none) (by decide) rfl ?_
  intro p e s m args below meth c s₁ B hml hxt hv
  obtain ⟨rfl, hP, hK, hZ⟩ := hv
  have hx := B.exec
  have hb := B.bytes
  have hr := B.returns
  have hts := atoms_spec (ws := wsX6_checkMessage) B.pre
  have hown : s.vm.findClass RX6 = some m.cls := findClass_of_methodNamed B.named
  have hlocks := B.notSynchronized
  have hi_X6 : ∀ w ∈ u_ws RX6 TX6 14, w ∈ wsX6_checkMessage := (fun _ h => List.mem_cons_of_mem _ (List.mem_append_left _ (List.mem_append_left _ (List.mem_append_right _ h))))
  have hl := lv_entry ([.ref (r 0), .int a1]) (n := 2) (Nat.le_of_ble_eq_true rfl)
  rw [lg_entry_eq]
  generalize (lg_sl ([.ref (r 0), .int a1]) ++ List.replicate (2 - (lg_sl ([.ref (r 0), .int a1])).length) Slot.unset).toArray = ls at hl ⊢
  have hl : lv_has ls 2 [(0, .ref (r 0)), (1, .int a1)] := hl
  refine lv_iload_n hx hb dX6_checkMessage_0 rfl (lv_at hl 1 rfl) ?_
  refine lv_if_lt (tgt := 15) hx hb dX6_checkMessage_1 (by decide) (fun zc_1 => ?_) (fun zc_1 => ?_)
  · skip
    have zd_1 := Int32.not_le.mpr zc_1
    obtain ⟨sa, hsa⟩ := zText hZ.2.2 (i := 20) (q := ("BoilerLog", 284, "no such message")) rfl
    exact vx_throwSW (own := RX6) (cls := "java/lang/IndexOutOfBoundsException") (names := ["java/lang/RuntimeException", "java/lang/Exception"]) (A := fun _ => False) hx hb hst hown (by decide) (by decide) (hts _ (List.mem_of_getElem? (i := 1) rfl)) (hts _ (List.mem_of_getElem? (i := 2) rfl)) hsa (zThrow_all (fun w h => hts w (List.mem_cons_of_mem _ (List.mem_append_right _ h))) zBad_204 hZ.2.2) zGood_204 hZ.1 hZ.2.1 va_S.rf (by rw [hml]; exact hl.1) dX6_checkMessage_15 dX6_checkMessage_18 dX6_checkMessage_19 dX6_checkMessage_22 dX6_checkMessage_25 (fun x h => (hxt x h).elim) (Nat.le_of_ble_eq_true rfl) (Nat.le_of_ble_eq_true rfl) (Nat.le_of_ble_eq_true rfl) (Nat.le_of_ble_eq_true rfl) hlocks (fun t _ hz hq => ⟨(), (zIx_neg zc_1), rfl, ⟨hz, fun q hq1 _ => hq q hq1⟩⟩) (fun _ h => nomatch h) (Nat.le_refl _) (Nat.le_refl _)
  · skip
    have zd_1 := Int32.not_lt.mp zc_1
    refine lv_iload_n hx hb dX6_checkMessage_4 rfl (lv_at hl 1 rfl) ?_
    refine lv_aload_n hx hb dX6_checkMessage_5 rfl (lv_at hl 0 rfl) ?_
    refine va_get (D := G.1) (ci := 7) (v := .ref (r 7)) (C := RX6) (T := TX6) (N := 14) hx hb hts hi_X6 hown hK hP k0 hh0 rfl 6 (by decide) (hts (.fieldLink RX6 36 "BoilerLog" "posted" "Ljava/util/ArrayList;") (List.mem_of_getElem? (i := 3) rfl)) (fun _ h9 => h9) rfl dX6_checkMessage_6 ?_
    refine z_csi (va_Run.run (va_runV (As := []) (rest := [.int a1]) ⟨hx, hb, hml, hown, hts⟩ (c_Jx4a65c_size_8abf5 l G w k7 (r 7) mc7 dv7 (nI n7) (by first | assumption | omega | exact sIx_in.mp (by assumption))) (cwV 0 hts gX6_checkMessage_Jx4a65c_size_8abf5 rfl rfl rfl (by decide +kernel) ⟨Nat.le_of_ble_eq_true rfl, Nat.le_of_ble_eq_true rfl⟩) (z_pv hK hP (ci := 0) (q0 := k7) rfl hh7 hP) rfl rfl hl.1 rfl (lv_room (Nat.le_of_ble_eq_true rfl)) dX6_checkMessage_9 ⟨(Nat.zero_le _), (Nat.zero_le _)⟩)) (fun zr_2 hzr_2 => ?_)
    subst hzr_2
    refine lv_icmp_lt (tgt := 26) hx hb dX6_checkMessage_12 (by decide) (fun zc_3 => ?_) (fun zc_3 => ?_)
    · skip
      have zd_3 := Int32.not_le.mpr zc_3
      exact vx_ret (z_widen (k := 1) (n := 6) (Nat.zero_le _) (Nat.zero_le _) (W.vret hx hb hr (fun t ht hW => ⟨⟨(), rfl, (zIx_lt (nI_toInt hn) zc_1 zc_3), trivial⟩, va_S.rf.F ht⟩) (fun _ h => nomatch h) dX6_checkMessage_26 hlocks))
    · skip
      have zd_3 := Int32.not_lt.mp zc_3
      obtain ⟨sa, hsa⟩ := zText hZ.2.2 (i := 20) (q := ("BoilerLog", 284, "no such message")) rfl
      exact vx_throwSW (own := RX6) (cls := "java/lang/IndexOutOfBoundsException") (names := ["java/lang/RuntimeException", "java/lang/Exception"]) (A := fun _ => False) hx hb hst hown (by decide) (by decide) (hts _ (List.mem_of_getElem? (i := 1) rfl)) (hts _ (List.mem_of_getElem? (i := 2) rfl)) hsa (zThrow_all (fun w h => hts w (List.mem_cons_of_mem _ (List.mem_append_right _ h))) zBad_204 hZ.2.2) zGood_204 hZ.1 hZ.2.1 va_S.rf (by rw [hml]; exact hl.1) dX6_checkMessage_15 dX6_checkMessage_18 dX6_checkMessage_19 dX6_checkMessage_22 dX6_checkMessage_25 (fun x h => (hxt x h).elim) (Nat.le_of_ble_eq_true rfl) (Nat.le_of_ble_eq_true rfl) (Nat.le_of_ble_eq_true rfl) (Nat.le_of_ble_eq_true rfl) hlocks (fun t _ hz hq => ⟨(), (zIx_ge (nI_toInt hn) zc_3), rfl, ⟨hz, fun q hq1 _ => hq q hq1⟩⟩) (fun _ h => nomatch h) (Nat.le_refl _) (Nat.le_refl _)

set_option maxHeartbeats 4000000 in
set_option maxRecDepth 100000 in
theorem c_X6_checkThread (l : Launch) (hst : l.stackTraces = false) (G : zG) (w : va_W) (k0 : Nat) (r : Nat → Nat) (zn0 zs0 zl0 zt0 : Int32) (nt : Nat) (a1 : Int32) (hh0 : w[k0]? = some (r 0, .inr (7, [.ref (r 1), .ref (r 2), .ref (r 3), .ref (r 4), .ref (r 5), .ref (r 6), .ref (r 7), .ref (r 8), .ref (r 9), .ref (r 10), .int zn0, .int zs0, .int zl0, .int zt0]))) (hzt : zt0 = nI nt) (hn : nt < 2 ^ 31) : vx_Met l yX6_checkThread wsX6_checkThread ({ frames := 6, cells := 1, slots := 6, locals := 90 }) (va_Pc [.ref (r 0), .int a1] (zPx G w)) (zQx (sIx a1 nt = true)) (zXx "java/lang/IndexOutOfBoundsException" (sIx a1 nt = false)) 1 6 (fun _ => False) := by
  refine vx_ofW (cc := cX6_checkThread) (maxL := 2) (ret := none) (by decide) rfl ?_
  intro p e s m args below meth c s₁ B hml hxt hv
  obtain ⟨rfl, hP, hK, hZ⟩ := hv
  have hx := B.exec
  have hb := B.bytes
  have hr := B.returns
  have hts := atoms_spec (ws := wsX6_checkThread) B.pre
  have hown : s.vm.findClass RX6 = some m.cls := findClass_of_methodNamed B.named
  have hlocks := B.notSynchronized
  have hi_X6 : ∀ w ∈ u_ws RX6 TX6 14, w ∈ wsX6_checkThread := (fun _ h => List.mem_cons_of_mem _ (List.mem_append_left _ (List.mem_append_right _ h)))
  have hl := lv_entry ([.ref (r 0), .int a1]) (n := 2) (Nat.le_of_ble_eq_true rfl)
  rw [lg_entry_eq]
  generalize (lg_sl ([.ref (r 0), .int a1]) ++ List.replicate (2 - (lg_sl ([.ref (r 0), .int a1])).length) Slot.unset).toArray = ls at hl ⊢
  have hl : lv_has ls 2 [(0, .ref (r 0)), (1, .int a1)] := hl
  refine lv_iload_n hx hb dX6_checkThread_0 rfl (lv_at hl 1 rfl) ?_
  refine lv_if_lt (tgt := 12) hx hb dX6_checkThread_1 (by decide) (fun zc_1 => ?_) (fun zc_1 => ?_)
  · skip
    have zd_1 := Int32.not_le.mpr zc_1
    obtain ⟨sa, hsa⟩ := zText hZ.2.2 (i := 19) (q := ("BoilerLog", 282, "no such thread")) rfl
    exact vx_throwSW (own := RX6) (cls := "java/lang/IndexOutOfBoundsException") (names := ["java/lang/RuntimeException", "java/lang/Exception"]) (A := fun _ => False) hx hb hst hown (by decide) (by decide) (hts _ (List.mem_of_getElem? (i := 1) rfl)) (hts _ (List.mem_of_getElem? (i := 2) rfl)) hsa (zThrow_all (fun w h => hts w (List.mem_cons_of_mem _ (List.mem_append_right _ h))) zBad_204 hZ.2.2) zGood_204 hZ.1 hZ.2.1 va_S.rf (by rw [hml]; exact hl.1) dX6_checkThread_12 dX6_checkThread_15 dX6_checkThread_16 dX6_checkThread_19 dX6_checkThread_22 (fun x h => (hxt x h).elim) (Nat.le_of_ble_eq_true rfl) (Nat.le_of_ble_eq_true rfl) (Nat.le_of_ble_eq_true rfl) (Nat.le_of_ble_eq_true rfl) hlocks (fun t _ hz hq => ⟨(), (zIx_neg zc_1), rfl, ⟨hz, fun q hq1 _ => hq q hq1⟩⟩) (fun _ h => nomatch h) (Nat.le_refl _) (Nat.le_refl _)
  · skip
    have zd_1 := Int32.not_lt.mp zc_1
    refine lv_iload_n hx hb dX6_checkThread_4 rfl (lv_at hl 1 rfl) ?_
    refine lv_aload_n hx hb dX6_checkThread_5 rfl (lv_at hl 0 rfl) ?_
    refine va_get (D := G.1) (ci := 7) (v := .int zt0) (C := RX6) (T := TX6) (N := 14) hx hb hts hi_X6 hown hK hP k0 hh0 rfl 13 (by decide) (hts (.fieldLink RX6 66 "BoilerLog" "threads" "I") (List.mem_of_getElem? (i := 3) rfl)) (fun _ h9 => h9) rfl dX6_checkThread_6 ?_
    refine lv_icmp_lt (tgt := 23) hx hb dX6_checkThread_9 (by decide) (fun zc_2 => ?_) (fun zc_2 => ?_)
    · skip
      have zd_2 := Int32.not_le.mpr zc_2
      exact vx_ret (z_widen (k := 1) (n := 6) (Nat.zero_le _) (Nat.zero_le _) (W.vret hx hb hr (fun t ht hW => ⟨⟨(), rfl, (zIx_lt (by rw [hzt]; exact nI_toInt hn) zc_1 zc_2), trivial⟩, va_S.rf.F ht⟩) (fun _ h => nomatch h) dX6_checkThread_23 hlocks))
    · skip
      have zd_2 := Int32.not_lt.mp zc_2
      obtain ⟨sa, hsa⟩ := zText hZ.2.2 (i := 19) (q := ("BoilerLog", 282, "no such thread")) rfl
      exact vx_throwSW (own := RX6) (cls := "java/lang/IndexOutOfBoundsException") (names := ["java/lang/RuntimeException", "java/lang/Exception"]) (A := fun _ => False) hx hb hst hown (by decide) (by decide) (hts _ (List.mem_of_getElem? (i := 1) rfl)) (hts _ (List.mem_of_getElem? (i := 2) rfl)) hsa (zThrow_all (fun w h => hts w (List.mem_cons_of_mem _ (List.mem_append_right _ h))) zBad_204 hZ.2.2) zGood_204 hZ.1 hZ.2.1 va_S.rf (by rw [hml]; exact hl.1) dX6_checkThread_12 dX6_checkThread_15 dX6_checkThread_16 dX6_checkThread_19 dX6_checkThread_22 (fun x h => (hxt x h).elim) (Nat.le_of_ble_eq_true rfl) (Nat.le_of_ble_eq_true rfl) (Nat.le_of_ble_eq_true rfl) (Nat.le_of_ble_eq_true rfl) hlocks (fun t _ hz hq => ⟨(), (zIx_ge (by rw [hzt]; exact nI_toInt hn) zc_2), rfl, ⟨hz, fun q hq1 _ => hq q hq1⟩⟩) (fun _ h => nomatch h) (Nat.le_refl _) (Nat.le_refl _)

set_option maxHeartbeats 4000000 in
set_option maxRecDepth 100000 in
theorem c_X6_checkNotGone (l : Launch) (hst : l.stackTraces = false) (G : zG) (w : va_W) (k0 : Nat) (r : Nat → Nat) (zn0 zs0 zl0 zt0 : Int32) (k3 : Nat) (g0 : Nat → Int32) (a1 : Int32) (hh0 : w[k0]? = some (r 0, .inr (7, [.ref (r 1), .ref (r 2), .ref (r 3), .ref (r 4), .ref (r 5), .ref (r 6), .ref (r 7), .ref (r 8), .ref (r 9), .ref (r 10), .int zn0, .int zs0, .int zl0, .int zt0]))) (hh3 : w[k3]? = some (r 3, .inl (G.2 2, 9, .inl g0))) (hp : vp_in a1 9) : vx_Met l yX6_checkNotGone wsX6_checkNotGone ({ frames := 6, cells := 1, slots := 6, locals := 90 }) (va_Pc [.ref (r 0), .int a1] (zPx G w)) (zQx (g0 a1.toNatClampNeg = 0)) (zXx "java/lang/IllegalStateException" (¬ g0 a1.toNatClampNeg = 0)) 1 6 (fun _ => False) := by
  refine vx_ofW (cc := cX6_checkNotGone) (maxL := 2) (ret := none) (by decide) rfl ?_
  intro p e s m args below meth c s₁ B hml hxt hv
  obtain ⟨rfl, hP, hK, hZ⟩ := hv
  have hx := B.exec
  have hb := B.bytes
  have hr := B.returns
  have hts := atoms_spec (ws := wsX6_checkNotGone) B.pre
  have hown : s.vm.findClass RX6 = some m.cls := findClass_of_methodNamed B.named
  have hlocks := B.notSynchronized
  have hi_X6 : ∀ w ∈ u_ws RX6 TX6 14, w ∈ wsX6_checkNotGone := (fun _ h => List.mem_cons_of_mem _ (List.mem_append_left _ (List.mem_append_right _ h)))
  have hl := lv_entry ([.ref (r 0), .int a1]) (n := 2) (Nat.le_of_ble_eq_true rfl)
  rw [lg_entry_eq]
  generalize (lg_sl ([.ref (r 0), .int a1]) ++ List.replicate (2 - (lg_sl ([.ref (r 0), .int a1])).length) Slot.unset).toArray = ls at hl ⊢
  have hl : lv_has ls 2 [(0, .ref (r 0)), (1, .int a1)] := hl
  refine lv_aload_n hx hb dX6_checkNotGone_0 rfl (lv_at hl 0 rfl) ?_
  refine va_get (D := G.1) (ci := 7) (v := .ref (r 3)) (C := RX6) (T := TX6) (N := 14) hx hb hts hi_X6 hown hK hP k0 hh0 rfl 2 (by decide) (hts (.fieldLink RX6 19 "BoilerLog" "gone" "[Z") (List.mem_of_getElem? (i := 3) rfl)) (fun _ h9 => h9) rfl dX6_checkNotGone_1 ?_
  refine lv_iload_n hx hb dX6_checkNotGone_4 rfl (lv_at hl 1 rfl) ?_
  refine va_zald hx hb hK hP k3 2 hh3 rfl (by first | assumption | exact sIx_in.mp (by assumption) | exact vp_in_nI (by omega) (by omega)) dX6_checkNotGone_5 ?_
  refine lv_if_eq (tgt := 20) hx hb dX6_checkNotGone_6 (by decide) (fun zc_1 => ?_) (fun zc_1 => ?_)
  · skip
    exact vx_ret (z_widen (k := 1) (n := 6) (Nat.zero_le _) (Nat.zero_le _) (W.vret hx hb hr (fun t ht hW => ⟨⟨(), rfl, zc_1, trivial⟩, va_S.rf.F ht⟩) (fun _ h => nomatch h) dX6_checkNotGone_20 hlocks))
  · skip
    obtain ⟨sa, hsa⟩ := zText hZ.2.2 (i := 22) (q := ("BoilerLog", 288, "the person has left")) rfl
    exact vx_throwSW (own := RX6) (cls := "java/lang/IllegalStateException") (names := ["java/lang/RuntimeException", "java/lang/Exception"]) (A := fun _ => False) hx hb hst hown (by decide) (by decide) (hts _ (List.mem_of_getElem? (i := 1) rfl)) (hts _ (List.mem_of_getElem? (i := 2) rfl)) hsa (zThrow_all (fun w h => hts w (List.mem_cons_of_mem _ (List.mem_append_right _ h))) zBad_99 hZ.2.2) zGood_99 hZ.1 hZ.2.1 va_S.rf (by rw [hml]; exact hl.1) dX6_checkNotGone_9 dX6_checkNotGone_12 dX6_checkNotGone_13 dX6_checkNotGone_16 dX6_checkNotGone_19 (fun x h => (hxt x h).elim) (Nat.le_of_ble_eq_true rfl) (Nat.le_of_ble_eq_true rfl) (Nat.le_of_ble_eq_true rfl) (Nat.le_of_ble_eq_true rfl) hlocks (fun t _ hz hq => ⟨(), zc_1, rfl, ⟨hz, fun q hq1 _ => hq q hq1⟩⟩) (fun _ h => nomatch h) (Nat.le_refl _) (Nat.le_refl _)
