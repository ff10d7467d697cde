set_option maxHeartbeats 4000000 in
set_option maxRecDepth 100000 in
theorem c_X2_size (l : Launch) (G : zG) (w : va_W) (k9 b cd : Nat) (n : Int32)  (hh9 : w[k9]? = some (b, .inr (3, [.ref cd, .int n]))) : Met l yX2_size wsX2_size ({ frames := 0, cells := 0, slots := 0, locals := 0 }) (va_Pc [.ref b] (zPp G w)) (zQi (fun r : Int32 => r = n)) 0 0 (fun _ => False) := by
  refine Met.ofW (cc := cX2_size) (maxL := 1) (ret := (some .int)) (by decide) rfl ?_
  intro p e s m args below meth c s₁ B hml hv
  obtain ⟨rfl, hP, hK⟩ := hv
  have hx := B.exec
  have hb := B.bytes
  have hr := B.returns
  have hts := atoms_spec (ws := wsX2_size) B.pre
  have hown : s.vm.findClass RX2 = some m.cls := findClass_of_methodNamed B.named
  have hlocks := B.notSynchronized
  have hi_X2 : ∀ w ∈ u_ws RX2 TX2 2, w ∈ wsX2_size := (fun _ h => List.mem_cons_of_mem _ (List.mem_append_right _ h))
  have hl := lv_entry ([.ref b]) (n := 1) (Nat.le_of_ble_eq_true rfl)
  rw [lg_entry_eq]
  generalize (lg_sl ([.ref b]) ++ List.replicate (1 - (lg_sl ([.ref b])).length) Slot.unset).toArray = ls at hl ⊢
  have hl : lv_has ls 1 [(0, .ref b)] := hl
  refine lv_aload_n hx hb dX2_size_0 rfl (lv_at hl 0 rfl) ?_
  refine va_get (D := G.1) (ci := 3) (v := .int n) (C := RX2) (T := TX2) (N := 2) hx hb hts hi_X2 hown hK hP k9 hh9 rfl 1 (by decide) (hts (.fieldLink RX2 15 "BoilerLog$Log" "count" "I") (List.mem_of_getElem? (i := 1) rfl)) (fun _ h9 => h9) rfl dX2_size_1 ?_
  exact W.iret (v := n) hx hb hr (fun t ht hW => ⟨n, rfl, rfl, ht⟩) (fun _ h => nomatch h) dX2_size_4

set_option maxHeartbeats 4000000 in
set_option maxRecDepth 100000 in
theorem c_X2_codeAt (l : Launch) (G : zG) (w : va_W) (k9 b cd : Nat) (n : Int32) (k8 cp : Nat) (gc : Nat → Int32) (a1 : Int32) (hh9 : w[k9]? = some (b, .inr (3, [.ref cd, .int n]))) (hh8 : w[k8]? = some (cd, .inl (G.2 0, cp, .inl gc))) (hin : vp_in a1 cp) : Met l yX2_codeAt wsX2_codeAt ({ frames := 0, cells := 0, slots := 0, locals := 0 }) (va_Pc [.ref b, .int a1] (zPp G w)) (zQi (fun r : Int32 => r = gc a1.toNatClampNeg)) 0 0 (fun _ => False) := by
  refine Met.ofW (cc := cX2_codeAt) (maxL := 2) (ret := (some .int)) (by decide) rfl ?_
  intro p e s m args below meth c s₁ B hml hv
  obtain ⟨rfl, hP, hK⟩ := hv
  have hx := B.exec
  have hb := B.bytes
  have hr := B.returns
  have hts := atoms_spec (ws := wsX2_codeAt) B.pre
  have hown : s.vm.findClass RX2 = some m.cls := findClass_of_methodNamed B.named
  have hlocks := B.notSynchronized
  have hi_X2 : ∀ w ∈ u_ws RX2 TX2 2, w ∈ wsX2_codeAt := (fun _ h => List.mem_cons_of_mem _ (List.mem_append_right _ h))
  have hl := lv_entry ([.ref b, .int a1]) (n := 2) (Nat.le_of_ble_eq_true rfl)
  rw [lg_entry_eq]
  generalize (lg_sl ([.ref b, .int a1]) ++ List.replicate (2 - (lg_sl ([.ref b, .int a1])).length) Slot.unset).toArray = ls at hl ⊢
  have hl : lv_has ls 2 [(0, .ref b), (1, .int a1)] := hl
  refine lv_aload_n hx hb dX2_codeAt_0 rfl (lv_at hl 0 rfl) ?_
  refine va_get (D := G.1) (ci := 3) (v := .ref cd) (C := RX2) (T := TX2) (N := 2) hx hb hts hi_X2 hown hK hP k9 hh9 rfl 0 (by decide) (hts (.fieldLink RX2 11 "BoilerLog$Log" "codes" "[I") (List.mem_of_getElem? (i := 1) rfl)) (fun _ h9 => h9) rfl dX2_codeAt_1 ?_
  refine lv_iload_n hx hb dX2_codeAt_4 rfl (lv_at hl 1 rfl) ?_
  refine va_iald hx hb hK hP k8 0 hh8 rfl hin dX2_codeAt_5 ?_
  exact W.iret (v := gc a1.toNatClampNeg) hx hb hr (fun t ht hW => ⟨gc a1.toNatClampNeg, rfl, rfl, ht⟩) (fun _ h => nomatch h) dX2_codeAt_6

set_option maxHeartbeats 4000000 in
set_option maxRecDepth 100000 in
theorem c_X2_kindAt (l : Launch) (G : zG) (w : va_W) (k9 b cd : Nat) (n : Int32) (k8 cp : Nat) (gc : Nat → Int32) (a1 : Int32) (hh9 : w[k9]? = some (b, .inr (3, [.ref cd, .int n]))) (hh8 : w[k8]? = some (cd, .inl (G.2 0, cp, .inl gc))) (hin : vp_in a1 cp) : Met l yX2_kindAt wsX2_kindAt ({ frames := 0, cells := 0, slots := 0, locals := 0 }) (va_Pc [.ref b, .int a1] (zPp G w)) (zQi (fun r : Int32 => r = (gc a1.toNatClampNeg - gc a1.toNatClampNeg / 10000 * 10000) / 1000)) 0 0 (fun _ => False) := by
  refine Met.ofW (cc := cX2_kindAt) (maxL := 2) (ret := (some .int)) (by decide) rfl ?_
  intro p e s m args below meth c s₁ B hml hv
  obtain ⟨rfl, hP, hK⟩ := hv
  have hx := B.exec
  have hb := B.bytes
  have hr := B.returns
  have hts := atoms_spec (ws := wsX2_kindAt) B.pre
  have hown : s.vm.findClass RX2 = some m.cls := findClass_of_methodNamed B.named
  have hlocks := B.notSynchronized
  have hi_X2 : ∀ w ∈ u_ws RX2 TX2 2, w ∈ wsX2_kindAt := (fun _ h => List.mem_cons_of_mem _ (List.mem_append_right _ h))
  have hl := lv_entry ([.ref b, .int a1]) (n := 2) (Nat.le_of_ble_eq_true rfl)
  rw [lg_entry_eq]
  generalize (lg_sl ([.ref b, .int a1]) ++ List.replicate (2 - (lg_sl ([.ref b, .int a1])).length) Slot.unset).toArray = ls at hl ⊢
  have hl : lv_has ls 2 [(0, .ref b), (1, .int a1)] := hl
  refine lv_aload_n hx hb dX2_kindAt_0 rfl (lv_at hl 0 rfl) ?_
  refine va_get (D := G.1) (ci := 3) (v := .ref cd) (C := RX2) (T := TX2) (N := 2) hx hb hts hi_X2 hown hK hP k9 hh9 rfl 0 (by decide) (hts (.fieldLink RX2 11 "BoilerLog$Log" "codes" "[I") (List.mem_of_getElem? (i := 1) rfl)) (fun _ h9 => h9) rfl dX2_kindAt_1 ?_
  refine lv_iload_n hx hb dX2_kindAt_4 rfl (lv_at hl 1 rfl) ?_
  refine va_iald hx hb hK hP k8 0 hh8 rfl hin dX2_kindAt_5 ?_
  refine lv_sipush (v := 10000) hx hb dX2_kindAt_6 (by decide) ?_
  refine lv_irem hx hb dX2_kindAt_9 (by decide) ?_
  refine lv_sipush (v := 1000) hx hb dX2_kindAt_10 (by decide) ?_
  refine lv_idiv hx hb dX2_kindAt_13 (by decide) ?_
  exact W.iret (v := ((gc a1.toNatClampNeg) - (gc a1.toNatClampNeg) / 10000 * 10000) / 1000) hx hb hr (fun t ht hW => ⟨((gc a1.toNatClampNeg) - (gc a1.toNatClampNeg) / 10000 * 10000) / 1000, rfl, rfl, ht⟩) (fun _ h => nomatch h) dX2_kindAt_14

set_option maxHeartbeats 4000000 in
set_option maxRecDepth 100000 in
theorem c_X2_whatAt (l : Launch) (G : zG) (w : va_W) (k9 b cd : Nat) (n : Int32) (k8 cp : Nat) (gc : Nat → Int32) (a1 : Int32) (hh9 : w[k9]? = some (b, .inr (3, [.ref cd, .int n]))) (hh8 : w[k8]? = some (cd, .inl (G.2 0, cp, .inl gc))) (hin : vp_in a1 cp) : Met l yX2_whatAt wsX2_whatAt ({ frames := 0, cells := 0, slots := 0, locals := 0 }) (va_Pc [.ref b, .int a1] (zPp G w)) (zQi (fun r : Int32 => r = gc a1.toNatClampNeg - gc a1.toNatClampNeg / 100 * 100)) 0 0 (fun _ => False) := by
  refine Met.ofW (cc := cX2_whatAt) (maxL := 2) (ret := (some .int)) (by decide) rfl ?_
  intro p e s m args below meth c s₁ B hml hv
  obtain ⟨rfl, hP, hK⟩ := hv
  have hx := B.exec
  have hb := B.bytes
  have hr := B.returns
  have hts := atoms_spec (ws := wsX2_whatAt) B.pre
  have hown : s.vm.findClass RX2 = some m.cls := findClass_of_methodNamed B.named
  have hlocks := B.notSynchronized
  have hi_X2 : ∀ w ∈ u_ws RX2 TX2 2, w ∈ wsX2_whatAt := (fun _ h => List.mem_cons_of_mem _ (List.mem_append_right _ h))
  have hl := lv_entry ([.ref b, .int a1]) (n := 2) (Nat.le_of_ble_eq_true rfl)
  rw [lg_entry_eq]
  generalize (lg_sl ([.ref b, .int a1]) ++ List.replicate (2 - (lg_sl ([.ref b, .int a1])).length) Slot.unset).toArray = ls at hl ⊢
  have hl : lv_has ls 2 [(0, .ref b), (1, .int a1)] := hl
  refine lv_aload_n hx hb dX2_whatAt_0 rfl (lv_at hl 0 rfl) ?_
  refine va_get (D := G.1) (ci := 3) (v := .ref cd) (C := RX2) (T := TX2) (N := 2) hx hb hts hi_X2 hown hK hP k9 hh9 rfl 0 (by decide) (hts (.fieldLink RX2 11 "BoilerLog$Log" "codes" "[I") (List.mem_of_getElem? (i := 1) rfl)) (fun _ h9 => h9) rfl dX2_whatAt_1 ?_
  refine lv_iload_n hx hb dX2_whatAt_4 rfl (lv_at hl 1 rfl) ?_
  refine va_iald hx hb hK hP k8 0 hh8 rfl hin dX2_whatAt_5 ?_
  refine lv_bipush (v := 100) hx hb dX2_whatAt_6 (by decide) ?_
  refine lv_irem hx hb dX2_whatAt_8 (by decide) ?_
  exact W.iret (v := (gc a1.toNatClampNeg) - (gc a1.toNatClampNeg) / 100 * 100) hx hb hr (fun t ht hW => ⟨(gc a1.toNatClampNeg) - (gc a1.toNatClampNeg) / 100 * 100, rfl, rfl, ht⟩) (fun _ h => nomatch h) dX2_whatAt_9

set_option maxHeartbeats 4000000 in
set_option maxRecDepth 100000 in
theorem c_X2_valveTurnedAt (l : Launch) (G : zG) (w : va_W) (k9 b cd : Nat) (n : Int32) (k8 cp : Nat) (gc : Nat → Int32) (a1 : Int32) (hh9 : w[k9]? = some (b, .inr (3, [.ref cd, .int n]))) (hh8 : w[k8]? = some (cd, .inl (G.2 0, cp, .inl gc))) (hin : vp_in a1 cp) : Met l yX2_valveTurnedAt wsX2_valveTurnedAt ({ frames := 1, cells := 0, slots := 0, locals := 21 }) (va_Pc [.ref b, .int a1] (zPp G w)) (zQi (fun r : Int32 => r = (gc a1.toNatClampNeg - gc a1.toNatClampNeg / 100 * 100) - (gc a1.toNatClampNeg - gc a1.toNatClampNeg / 100 * 100) / 10 * 10)) 0 0 (fun _ => False) := by
  refine Met.ofW (cc := cX2_valveTurnedAt) (maxL := 2) (ret := (some .int)) (by decide) rfl ?_
  intro p e s m args below meth c s₁ B hml hv
  obtain ⟨rfl, hP, hK⟩ := hv
  have hx := B.exec
  have hb := B.bytes
  have hr := B.returns
  have hts := atoms_spec (ws := wsX2_valveTurnedAt) B.pre
  have hown : s.vm.findClass RX2 = some m.cls := findClass_of_methodNamed B.named
  have hlocks := B.notSynchronized
  have hl := lv_entry ([.ref b, .int a1]) (n := 2) (Nat.le_of_ble_eq_true rfl)
  rw [lg_entry_eq]
  generalize (lg_sl ([.ref b, .int a1]) ++ List.replicate (2 - (lg_sl ([.ref b, .int a1])).length) Slot.unset).toArray = ls at hl ⊢
  have hl : lv_has ls 2 [(0, .ref b), (1, .int a1)] := hl
  refine lv_aload_n hx hb dX2_valveTurnedAt_0 rfl (lv_at hl 0 rfl) ?_
  refine lv_iload_n hx hb dX2_valveTurnedAt_1 rfl (lv_at hl 1 rfl) ?_
  refine z_csi (va_Run.run (va_runV (As := [.int a1]) (rest := []) ⟨hx, hb, hml, hown, hts⟩ (c_X2_whatAt l G w k9 b cd n k8 cp gc a1 hh9 hh8 hin) (cwV 1 hts gX2_valveTurnedAt_X2_whatAt rfl rfl rfl (by decide +kernel) ⟨Nat.le_of_ble_eq_true rfl, Nat.le_of_ble_eq_true rfl⟩) (z_pv hK hP (ci := 3) (q0 := k9) rfl hh9 hP) rfl rfl hl.1 rfl (lv_room (Nat.le_of_ble_eq_true rfl)) dX2_valveTurnedAt_2 ⟨(Nat.zero_le _), (Nat.zero_le _)⟩)) (fun zr_1 hzr_1 => ?_)
  subst hzr_1
  refine lv_bipush (v := 10) hx hb dX2_valveTurnedAt_5 (by decide) ?_
  refine lv_irem hx hb dX2_valveTurnedAt_7 (by decide) ?_
  exact W.iret (v := (gc a1.toNatClampNeg - gc a1.toNatClampNeg / 100 * 100) - (gc a1.toNatClampNeg - gc a1.toNatClampNeg / 100 * 100) / 10 * 10) hx hb hr (fun t ht hW => ⟨(gc a1.toNatClampNeg - gc a1.toNatClampNeg / 100 * 100) - (gc a1.toNatClampNeg - gc a1.toNatClampNeg / 100 * 100) / 10 * 10, rfl, rfl, ht⟩) (fun _ h => nomatch h) dX2_valveTurnedAt_8

set_option maxHeartbeats 4000000 in
set_option maxRecDepth 100000 in
theorem c_X2_opensAt (l : Launch) (G : zG) (w : va_W) (k9 b cd : Nat) (n : Int32) (k8 cp : Nat) (gc : Nat → Int32) (a1 : Int32) (hh9 : w[k9]? = some (b, .inr (3, [.ref cd, .int n]))) (hh8 : w[k8]? = some (cd, .inl (G.2 0, cp, .inl gc))) (hin : vp_in a1 cp) : Met l yX2_opensAt wsX2_opensAt ({ frames := 1, cells := 0, slots := 0, locals := 21 }) (va_Pc [.ref b, .int a1] (zPp G w)) (zQi (fun r : Int32 => r = zb (decide (10 ≤ (gc a1.toNatClampNeg - gc a1.toNatClampNeg / 100 * 100))))) 0 0 (fun _ => False) := by
  refine Met.ofW (cc := cX2_opensAt) (maxL := 2) (ret := (some .boolean)) (by decide) rfl ?_
  intro p e s m args below meth c s₁ B hml hv
  obtain ⟨rfl, hP, hK⟩ := hv
  have hx := B.exec
  have hb := B.bytes
  have hr := B.returns
  have hts := atoms_spec (ws := wsX2_opensAt) B.pre
  have hown : s.vm.findClass RX2 = some m.cls := findClass_of_methodNamed B.named
  have hlocks := B.notSynchronized
  have hl := lv_entry ([.ref b, .int a1]) (n := 2) (Nat.le_of_ble_eq_true rfl)
  rw [lg_entry_eq]
  generalize (lg_sl ([.ref b, .int a1]) ++ List.replicate (2 - (lg_sl ([.ref b, .int a1])).length) Slot.unset).toArray = ls at hl ⊢
  have hl : lv_has ls 2 [(0, .ref b), (1, .int a1)] := hl
  refine lv_aload_n hx hb dX2_opensAt_0 rfl (lv_at hl 0 rfl) ?_
  refine lv_iload_n hx hb dX2_opensAt_1 rfl (lv_at hl 1 rfl) ?_
  refine z_csi (va_Run.run (va_runV (As := [.int a1]) (rest := []) ⟨hx, hb, hml, hown, hts⟩ (c_X2_whatAt l G w k9 b cd n k8 cp gc a1 hh9 hh8 hin) (cwV 1 hts gX2_opensAt_X2_whatAt rfl rfl rfl (by decide +kernel) ⟨Nat.le_of_ble_eq_true rfl, Nat.le_of_ble_eq_true rfl⟩) (z_pv hK hP (ci := 3) (q0 := k9) rfl hh9 hP) rfl rfl hl.1 rfl (lv_room (Nat.le_of_ble_eq_true rfl)) dX2_opensAt_2 ⟨(Nat.zero_le _), (Nat.zero_le _)⟩)) (fun zr_1 hzr_1 => ?_)
  subst hzr_1
  refine lv_bipush (v := 10) hx hb dX2_opensAt_5 (by decide) ?_
  refine lv_icmp_lt (tgt := 14) hx hb dX2_opensAt_7 (by decide) (fun zc_2 => ?_) (fun zc_2 => ?_)
  · skip
    have zd_2 := Int32.not_le.mpr zc_2
    refine lv_iconst (v := 0) hx hb dX2_opensAt_14 (by decide) ?_
    exact W.zret (v := 0) hx hb hr rfl (fun t ht hW => ⟨0, rfl, (by simp [zb, zc_2, zd_2]), ht⟩) (fun _ h => nomatch h) dX2_opensAt_15
  · skip
    have zd_2 := Int32.not_lt.mp zc_2
    refine lv_iconst (v := 1) hx hb dX2_opensAt_10 (by decide) ?_
    refine lv_goto (tgt := 15) hx hb dX2_opensAt_11 (by decide) ?_
    exact W.zret (v := 1) hx hb hr rfl (fun t ht hW => ⟨1, rfl, (by simp [zb, zc_2, zd_2]), ht⟩) (fun _ h => nomatch h) dX2_opensAt_15

set_option maxHeartbeats 4000000 in
set_option maxRecDepth 100000 in
theorem c_X0_isMetBy (l : Launch) (G : zG) (w : va_W) (ka b : Nat) (ve li va st : Int32) (hi op : Bool) (a1 : Int32) (hha : w[ka]? = some (b, .inr (1, [.int ve, .int li, .int (zb hi), .int va, .int (zb op), .int st]))) : Met l yX0_isMetBy wsX0_isMetBy ({ frames := 0, cells := 0, slots := 0, locals := 0 }) (va_Pc [.ref b, .int a1] (zPp G w)) (zQi (fun r : Int32 => r = zb (if hi then decide (li ≤ a1) else decide (a1 ≤ li)))) 0 0 (fun _ => False) := by
  refine Met.ofW (cc := cX0_isMetBy) (maxL := 2) (ret := (some .boolean)) (by decide) rfl ?_
  intro p e s m args below meth c s₁ B hml hv
  obtain ⟨rfl, hP, hK⟩ := hv
  have hx := B.exec
  have hb := B.bytes
  have hr := B.returns
  have hts := atoms_spec (ws := wsX0_isMetBy) B.pre
  have hown : s.vm.findClass RX0 = some m.cls := findClass_of_methodNamed B.named
  have hlocks := B.notSynchronized
  have hi_X0 : ∀ w ∈ u_ws RX0 TX0 6, w ∈ wsX0_isMetBy := (fun _ h => List.mem_cons_of_mem _ (List.mem_append_right _ h))
  have hl := lv_entry ([.ref b, .int a1]) (n := 2) (Nat.le_of_ble_eq_true rfl)
  rw [lg_entry_eq]
  generalize (lg_sl ([.ref b, .int a1]) ++ List.replicate (2 - (lg_sl ([.ref b, .int a1])).length) Slot.unset).toArray = ls at hl ⊢
  have hl : lv_has ls 2 [(0, .ref b), (1, .int a1)] := hl
  refine lv_aload_n hx hb dX0_isMetBy_0 rfl (lv_at hl 0 rfl) ?_
  refine va_get (D := G.1) (ci := 1) (v := .int (zb hi)) (C := RX0) (T := TX0) (N := 6) hx hb hts hi_X0 hown hK hP ka hha rfl 2 (by decide) (hts (.fieldLink RX0 21 "BoilerLog$Alarm" "high" "Z") (List.mem_of_getElem? (i := 1) rfl)) (fun _ h9 => h9) rfl dX0_isMetBy_1 ?_
  refine lv_if_eq (tgt := 23) hx hb dX0_isMetBy_4 (by decide) (fun zc_1 => ?_) (fun zc_1 => ?_)
  · skip
    have zc_1 := zb_0.mp zc_1
    refine lv_iload_n hx hb dX0_isMetBy_23 rfl (lv_at hl 1 rfl) ?_
    refine lv_aload_n hx hb dX0_isMetBy_24 rfl (lv_at hl 0 rfl) ?_
    refine va_get (D := G.1) (ci := 1) (v := .int li) (C := RX0) (T := TX0) (N := 6) hx hb hts hi_X0 hown hK hP ka hha rfl 1 (by decide) (hts (.fieldLink RX0 18 "BoilerLog$Alarm" "limit" "I") (List.mem_of_getElem? (i := 2) rfl)) (fun _ h9 => h9) rfl dX0_isMetBy_25 ?_
    refine lv_icmp_gt (tgt := 35) hx hb dX0_isMetBy_28 (by decide) (fun zc_2 => ?_) (fun zc_2 => ?_)
    · skip
      have zd_2 := Int32.not_le.mpr zc_2
      refine lv_iconst (v := 0) hx hb dX0_isMetBy_35 (by decide) ?_
      exact W.zret (v := 0) hx hb hr rfl (fun t ht hW => ⟨0, rfl, (by simp [zb, zc_1, zc_2, zd_2]), ht⟩) (fun _ h => nomatch h) dX0_isMetBy_36
    · skip
      have zd_2 := Int32.not_lt.mp zc_2
      refine lv_iconst (v := 1) hx hb dX0_isMetBy_31 (by decide) ?_
      refine lv_goto (tgt := 36) hx hb dX0_isMetBy_32 (by decide) ?_
      exact W.zret (v := 1) hx hb hr rfl (fun t ht hW => ⟨1, rfl, (by simp [zb, zc_1, zc_2, zd_2]), ht⟩) (fun _ h => nomatch h) dX0_isMetBy_36
  · skip
    have zc_1 := zb_n0 zc_1
    refine lv_iload_n hx hb dX0_isMetBy_7 rfl (lv_at hl 1 rfl) ?_
    refine lv_aload_n hx hb dX0_isMetBy_8 rfl (lv_at hl 0 rfl) ?_
    refine va_get (D := G.1) (ci := 1) (v := .int li) (C := RX0) (T := TX0) (N := 6) hx hb hts hi_X0 hown hK hP ka hha rfl 1 (by decide) (hts (.fieldLink RX0 18 "BoilerLog$Alarm" "limit" "I") (List.mem_of_getElem? (i := 2) rfl)) (fun _ h9 => h9) rfl dX0_isMetBy_9 ?_
    refine lv_icmp_lt (tgt := 19) hx hb dX0_isMetBy_12 (by decide) (fun zc_3 => ?_) (fun zc_3 => ?_)
    · skip
      have zd_3 := Int32.not_le.mpr zc_3
      refine lv_iconst (v := 0) hx hb dX0_isMetBy_19 (by decide) ?_
      refine lv_goto (tgt := 36) hx hb dX0_isMetBy_20 (by decide) ?_
      exact W.zret (v := 0) hx hb hr rfl (fun t ht hW => ⟨0, rfl, (by simp [zb, zc_1, zc_3, zd_3]), ht⟩) (fun _ h => nomatch h) dX0_isMetBy_36
    · skip
      have zd_3 := Int32.not_lt.mp zc_3
      refine lv_iconst (v := 1) hx hb dX0_isMetBy_15 (by decide) ?_
      refine lv_goto (tgt := 36) hx hb dX0_isMetBy_16 (by decide) ?_
      exact W.zret (v := 1) hx hb hr rfl (fun t ht hW => ⟨1, rfl, (by simp [zb, zc_1, zc_3, zd_3]), ht⟩) (fun _ h => nomatch h) dX0_isMetBy_36

set_option maxHeartbeats 4000000 in
set_option maxRecDepth 100000 in
theorem c_X1_isHigh (l : Launch) (G : zG) (a1 : Int32)  : Met l yX1_isHigh wsX1_isHigh ({ frames := 0, cells := 0, slots := 0, locals := 0 }) (va_Pc [.int a1] (zPp G ([] : va_W))) (zQi (fun r : Int32 => r = zb (sHi a1))) 0 0 (fun _ => False) := by
  refine Met.ofW (cc := cX1_isHigh) (maxL := 1) (ret := (some .boolean)) (by decide) rfl ?_
  intro p e s m args below meth c s₁ B hml hv
  obtain ⟨rfl, hP, hK⟩ := hv
  have hx := B.exec
  have hb := B.bytes
  have hr := B.returns
  have hts := atoms_spec (ws := wsX1_isHigh) B.pre
  have hown : s.vm.findClass RX1 = some m.cls := findClass_of_methodNamed B.named
  have hlocks := B.notSynchronized
  have hl := lv_entry ([.int a1]) (n := 1) (Nat.le_of_ble_eq_true rfl)
  rw [lg_entry_eq]
  generalize (lg_sl ([.int a1]) ++ List.replicate (1 - (lg_sl ([.int a1])).length) Slot.unset).toArray = ls at hl ⊢
  have hl : lv_has ls 1 [(0, .int a1)] := hl
  refine lv_iload_n hx hb dX1_isHigh_0 rfl (lv_at hl 0 rfl) ?_
  refine lv_ldc (v := 55296) hx hb hown (hts _ (List.mem_of_getElem? (i := 1) rfl)) dX1_isHigh_1 ?_
  refine lv_icmp_lt (tgt := 16) hx hb dX1_isHigh_3 (by decide) (fun zc_1 => ?_) (fun zc_1 => ?_)
  · skip
    have zd_1 := Int32.not_le.mpr zc_1
    refine lv_iconst (v := 0) hx hb dX1_isHigh_16 (by decide) ?_
    exact W.zret (v := 0) hx hb hr rfl (fun t ht hW => ⟨0, rfl, (by simp [sHi, zHi_le, zb, zc_1, zd_1]), ht⟩) (fun _ h => nomatch h) dX1_isHigh_17
  · skip
    have zd_1 := Int32.not_lt.mp zc_1
    refine lv_iload_n hx hb dX1_isHigh_6 rfl (lv_at hl 0 rfl) ?_
    refine lv_ldc (v := 56320) hx hb hown (hts _ (List.mem_of_getElem? (i := 2) rfl)) dX1_isHigh_7 ?_
    refine lv_icmp_ge (tgt := 16) hx hb dX1_isHigh_9 (by decide) (fun zc_2 => ?_) (fun zc_2 => ?_)
    · skip
      have zd_2 := Int32.not_lt.mpr zc_2
      refine lv_iconst (v := 0) hx hb dX1_isHigh_16 (by decide) ?_
      exact W.zret (v := 0) hx hb hr rfl (fun t ht hW => ⟨0, rfl, (by simp [sHi, zHi_le, zb, zc_1, zd_1, zc_2, zd_2]), ht⟩) (fun _ h => nomatch h) dX1_isHigh_17
    · skip
      have zd_2 := Int32.not_le.mp zc_2
      refine lv_iconst (v := 1) hx hb dX1_isHigh_12 (by decide) ?_
      refine lv_goto (tgt := 17) hx hb dX1_isHigh_13 (by decide) ?_
      exact W.zret (v := 1) hx hb hr rfl (fun t ht hW => ⟨1, rfl, (by simp [sHi, zHi_le, zb, zc_1, zd_1, zc_2, zd_2]), ht⟩) (fun _ h => nomatch h) dX1_isHigh_17

set_option maxHeartbeats 4000000 in
set_option maxRecDepth 100000 in
theorem c_X1_isLow (l : Launch) (G : zG) (a1 : Int32)  : Met l yX1_isLow wsX1_isLow ({ frames := 0, cells := 0, slots := 0, locals := 0 }) (va_Pc [.int a1] (zPp G ([] : va_W))) (zQi (fun r : Int32 => r = zb (sLo a1))) 0 0 (fun _ => False) := by
  refine Met.ofW (cc := cX1_isLow) (maxL := 1) (ret := (some .boolean)) (by decide) rfl ?_
  intro p e s m args below meth c s₁ B hml hv
  obtain ⟨rfl, hP, hK⟩ := hv
  have hx := B.exec
  have hb := B.bytes
  have hr := B.returns
  have hts := atoms_spec (ws := wsX1_isLow) B.pre
  have hown : s.vm.findClass RX1 = some m.cls := findClass_of_methodNamed B.named
  have hlocks := B.notSynchronized
  have hl := lv_entry ([.int a1]) (n := 1) (Nat.le_of_ble_eq_true rfl)
  rw [lg_entry_eq]
  generalize (lg_sl ([.int a1]) ++ List.replicate (1 - (lg_sl ([.int a1])).length) Slot.unset).toArray = ls at hl ⊢
  have hl : lv_has ls 1 [(0, .int a1)] := hl
  refine lv_iload_n hx hb dX1_isLow_0 rfl (lv_at hl 0 rfl) ?_
  refine lv_ldc (v := 56320) hx hb hown (hts _ (List.mem_of_getElem? (i := 1) rfl)) dX1_isLow_1 ?_
  refine lv_icmp_lt (tgt := 16) hx hb dX1_isLow_3 (by decide) (fun zc_1 => ?_) (fun zc_1 => ?_)
  · skip
    have zd_1 := Int32.not_le.mpr zc_1
    refine lv_iconst (v := 0) hx hb dX1_isLow_16 (by decide) ?_
    exact W.zret (v := 0) hx hb hr rfl (fun t ht hW => ⟨0, rfl, (by simp [sLo, zLo_le, zb, zc_1, zd_1]), ht⟩) (fun _ h => nomatch h) dX1_isLow_17
  · skip
    have zd_1 := Int32.not_lt.mp zc_1
    refine lv_iload_n hx hb dX1_isLow_6 rfl (lv_at hl 0 rfl) ?_
    refine lv_ldc (v := 57344) hx hb hown (hts _ (List.mem_of_getElem? (i := 2) rfl)) dX1_isLow_7 ?_
    refine lv_icmp_ge (tgt := 16) hx hb dX1_isLow_9 (by decide) (fun zc_2 => ?_) (fun zc_2 => ?_)
    · skip
      have zd_2 := Int32.not_lt.mpr zc_2
      refine lv_iconst (v := 0) hx hb dX1_isLow_16 (by decide) ?_
      exact W.zret (v := 0) hx hb hr rfl (fun t ht hW => ⟨0, rfl, (by simp [sLo, zLo_le, zb, zc_1, zd_1, zc_2, zd_2]), ht⟩) (fun _ h => nomatch h) dX1_isLow_17
    · skip
      have zd_2 := Int32.not_le.mp zc_2
      refine lv_iconst (v := 1) hx hb dX1_isLow_12 (by decide) ?_
      refine lv_goto (tgt := 17) hx hb dX1_isLow_13 (by decide) ?_
      exact W.zret (v := 1) hx hb hr rfl (fun t ht hW => ⟨1, rfl, (by simp [sLo, zLo_le, zb, zc_1, zd_1, zc_2, zd_2]), ht⟩) (fun _ h => nomatch h) dX1_isLow_17

set_option maxHeartbeats 4000000 in
set_option maxRecDepth 100000 in
theorem c_X1_length (l : Launch) (G : zG) (w : va_W) (k10 b ch : Nat) (nn : Nat)  (hh10 : w[k10]? = some (b, .inr (2, [.ref ch, .int (nI nn)]))) : Met l yX1_length wsX1_length ({ frames := 0, cells := 0, slots := 0, locals := 0 }) (va_Pc [.ref b] (zPp G w)) (zQi (fun r : Int32 => r = nI nn)) 0 0 (fun _ => False) := by
  refine Met.ofW (cc := cX1_length) (maxL := 1) (ret := (some .int)) (by decide) rfl ?_
  intro p e s m args below meth c s₁ B hml hv
  obtain ⟨rfl, hP, hK⟩ := hv
  have hx := B.exec
  have hb := B.bytes
  have hr := B.returns
  have hts := atoms_spec (ws := wsX1_length) B.pre
  have hown : s.vm.findClass RX1 = some m.cls := findClass_of_methodNamed B.named
  have hlocks := B.notSynchronized
  have hi_X1 : ∀ w ∈ u_ws RX1 TX1 2, w ∈ wsX1_length := (fun _ h => List.mem_cons_of_mem _ (List.mem_append_right _ h))
  have hl := lv_entry ([.ref b]) (n := 1) (Nat.le_of_ble_eq_true rfl)
  rw [lg_entry_eq]
  generalize (lg_sl ([.ref b]) ++ List.replicate (1 - (lg_sl ([.ref b])).length) Slot.unset).toArray = ls at hl ⊢
  have hl : lv_has ls 1 [(0, .ref b)] := hl
  refine lv_aload_n hx hb dX1_length_0 rfl (lv_at hl 0 rfl) ?_
  refine va_get (D := G.1) (ci := 2) (v := .int (nI nn)) (C := RX1) (T := TX1) (N := 2) hx hb hts hi_X1 hown hK hP k10 hh10 rfl 1 (by decide) (hts (.fieldLink RX1 15 "BoilerLog$Draft" "count" "I") (List.mem_of_getElem? (i := 1) rfl)) (fun _ h9 => h9) rfl dX1_length_1 ?_
  exact W.iret (v := nI nn) hx hb hr (fun t ht hW => ⟨nI nn, rfl, rfl, ht⟩) (fun _ h => nomatch h) dX1_length_4

set_option maxHeartbeats 4000000 in
set_option maxRecDepth 100000 in
theorem c_X1_countHigh (l : Launch) (G : zG) (w : va_W) (k10 b ch : Nat) (nn : Nat) (k11 : Nat) (tx : Nat → Int32)  (hh10 : w[k10]? = some (b, .inr (2, [.ref ch, .int (nI nn)]))) (hh11 : w[k11]? = some (ch, .inl (G.2 3, 40, .inl tx))) (hn40 : nn ≤ 40) : Met l yX1_countHigh wsX1_countHigh ({ frames := 1, cells := 0, slots := 0, locals := 20 }) (va_Pc [.ref b] (zPp G w)) (zQi (fun r : Int32 => r = nI (sCnt (fun k => sHi (tx k)) nn))) 0 0 (fun _ => False) := by
  refine Met.ofW (cc := cX1_countHigh) (maxL := 3) (ret := (some .int)) (by decide) rfl ?_
  intro p e s m args below meth c s₁ B hml hv
  obtain ⟨rfl, hP, hK⟩ := hv
  have hx := B.exec
  have hb := B.bytes
  have hr := B.returns
  have hts := atoms_spec (ws := wsX1_countHigh) B.pre
  have hown : s.vm.findClass RX1 = some m.cls := findClass_of_methodNamed B.named
  have hlocks := B.notSynchronized
  have hi_X1 : ∀ w ∈ u_ws RX1 TX1 2, w ∈ wsX1_countHigh := (fun _ h => List.mem_cons_of_mem _ (List.mem_append_right _ h))
  have hl := lv_entry ([.ref b]) (n := 3) (Nat.le_of_ble_eq_true rfl)
  rw [lg_entry_eq]
  generalize (lg_sl ([.ref b]) ++ List.replicate (3 - (lg_sl ([.ref b])).length) Slot.unset).toArray = ls at hl ⊢
  have hl : lv_has ls 3 [(0, .ref b)] := hl
  refine lv_iconst (v := 0) hx hb dX1_countHigh_0 (by decide) ?_
  refine lv_istore_n (lv' := [(1, .int 0), (0, .ref b)]) hx hb dX1_countHigh_1 rfl hl (by decide) rfl (fun ls hl => ?_)
  refine lv_iconst (v := 0) hx hb dX1_countHigh_2 (by decide) ?_
  refine lv_istore_n (lv' := [(2, .int 0), (1, .int 0), (0, .ref b)]) hx hb dX1_countHigh_3 rfl hl (by decide) rfl (fun ls hl => ?_)
  have key_4 : ∀ (n i : Nat), i ≤ nn → nn < i + n → ∀ ls : Array Slot, lv_has ls 3 [(0, .ref b), (1, .int (nI (sCnt (fun k => sHi (tx k)) i))), (2, .int (nI i))] → W p l e (headSpec wsX1_countHigh ({ frames := 1, cells := 0, slots := 0, locals := 20 })).room s m ([.ref b] : List Value).toArray below meth c s.heap [] 0 0 (MQ below (zQi (fun r : Int32 => r = nI (sCnt (fun k => sHi (tx k)) nn))) ([.ref b] : List Value).toArray s 0 0 (fun _ => False)) (F0 m 4 ls []) := by
    intro n
    induction n with
    | zero => intro i h1 h2; exact absurd h2 (by omega)
    | succ n ih =>
      intro i hi hn ls hl
      refine lv_iload_n hx hb dX1_countHigh_4 rfl (lv_at hl 2 rfl) ?_
      refine lv_aload_n hx hb dX1_countHigh_5 rfl (lv_at hl 0 rfl) ?_
      refine va_get (D := G.1) (ci := 2) (v := .int (nI nn)) (C := RX1) (T := TX1) (N := 2) hx hb hts hi_X1 hown hK hP k10 hh10 rfl 1 (by decide) (hts (.fieldLink RX1 15 "BoilerLog$Draft" "count" "I") (List.mem_of_getElem? (i := 1) rfl)) (fun _ h9 => h9) rfl dX1_countHigh_6 ?_
      refine lv_icmp_ge (tgt := 33) hx hb dX1_countHigh_9 (by decide) (fun zc_1 => ?_) (fun zc_1 => ?_)
      · skip
        have zd_1 := Int32.not_lt.mpr zc_1
        have zhc := (nI_leI (by omega) (by omega)).mp zc_1
        have zie := Nat.le_antisymm zhc hi
        subst zie
        refine lv_iload_n hx hb dX1_countHigh_33 rfl (lv_at hl 1 rfl) ?_
        exact W.iret (v := nI (sCnt (fun k => sHi (tx k)) nn)) hx hb hr (fun t ht hW => ⟨nI (sCnt (fun k => sHi (tx k)) nn), rfl, rfl, ht⟩) (fun _ h => nomatch h) dX1_countHigh_34
      · skip
        have zd_1 := Int32.not_le.mp zc_1
        have zhc := Nat.lt_of_not_le (fun z => zc_1 ((nI_leI (by omega) (by omega)).mpr z))
        refine lv_aload_n hx hb dX1_countHigh_12 rfl (lv_at hl 0 rfl) ?_
        refine va_get (D := G.1) (ci := 2) (v := .ref ch) (C := RX1) (T := TX1) (N := 2) hx hb hts hi_X1 hown hK hP k10 hh10 rfl 0 (by decide) (hts (.fieldLink RX1 9 "BoilerLog$Draft" "characters" "[C") (List.mem_of_getElem? (i := 2) rfl)) (fun _ h9 => h9) rfl dX1_countHigh_13 ?_
        refine lv_iload_n hx hb dX1_countHigh_16 rfl (lv_at hl 2 rfl) ?_
        refine va_cald hx hb hK hP k11 3 hh11 rfl (vp_in_nI (by omega) (by omega)) dX1_countHigh_17 ?_
        refine W.eq (g2 := F0 m 18 ls [.int (tx i)]) (by first | (rw [nI_clamp (by omega)]; done) | (rw [nI_clamp (by omega)]; rfl)) ?_
        refine z_csi (va_Run.run (va_runS (As := [.int (tx i)]) (rest := []) ⟨hx, hb, hml, hown, hts⟩ (c_X1_isHigh l G (tx i)) (va_cwS 1 hts gX1_countHigh_X1_isHigh rfl rfl rfl (by decide +kernel) ⟨Nat.le_of_ble_eq_true rfl, Nat.le_of_ble_eq_true rfl⟩) (z_ps hK z_none) rfl rfl hl.1 rfl (lv_room (Nat.le_of_ble_eq_true rfl)) dX1_countHigh_18 ⟨(Nat.zero_le _), (Nat.zero_le _)⟩)) (fun zr_2 hzr_2 => ?_)
        subst hzr_2
        refine lv_if_eq (tgt := 27) hx hb dX1_countHigh_21 (by decide) (fun zc_3 => ?_) (fun zc_3 => ?_)
        · skip
          have zc_3 := zb_0.mp zc_3
          refine lv_iinc (v := (nI (i + 1))) (lv' := [(2, .int (nI (i + 1))), (0, .ref b), (1, .int (nI (sCnt (fun k => sHi (tx k)) i)))]) hx hb dX1_countHigh_27 hl (k := 2) rfl (by first | exact nI_1 _ | rfl) (by decide) rfl (fun ls hl => ?_)
          refine lv_goto (tgt := 4) hx hb dX1_countHigh_30 (by decide) ?_
          have hl2 := lv_sub (l' := [(0, .ref b), (1, .int (nI (sCnt (fun k => sHi (tx k)) i))), (2, .int (nI (i + 1)))]) hl [1, 2, 0] rfl
          have e_1 : nI (sCnt (fun k => sHi (tx k)) i) = nI (sCnt (fun k => sHi (tx k)) (i + 1)) := by simp [sCnt, nI_succ, zc_3]
          rw [e_1] at hl2
          exact ih (i + 1) (by omega) (by omega) ls hl2
        · skip
          have zc_3 := zb_n0 zc_3
          refine lv_iinc (v := (nI (sCnt (fun k => sHi (tx k)) i + 1))) (lv' := [(1, .int (nI (sCnt (fun k => sHi (tx k)) i + 1))), (0, .ref b), (2, .int (nI i))]) hx hb dX1_countHigh_24 hl (k := 1) rfl (by first | exact nI_1 _ | rfl) (by decide) rfl (fun ls hl => ?_)
          refine lv_iinc (v := (nI (i + 1))) (lv' := [(2, .int (nI (i + 1))), (1, .int (nI (sCnt (fun k => sHi (tx k)) i + 1))), (0, .ref b)]) hx hb dX1_countHigh_27 hl (k := 2) rfl (by first | exact nI_1 _ | rfl) (by decide) rfl (fun ls hl => ?_)
          refine lv_goto (tgt := 4) hx hb dX1_countHigh_30 (by decide) ?_
          have hl2 := lv_sub (l' := [(0, .ref b), (1, .int (nI (sCnt (fun k => sHi (tx k)) i + 1))), (2, .int (nI (i + 1)))]) hl [2, 1, 0] rfl
          have e_1 : nI (sCnt (fun k => sHi (tx k)) i + 1) = nI (sCnt (fun k => sHi (tx k)) (i + 1)) := by simp [sCnt, nI_succ, zc_3]
          rw [e_1] at hl2
          exact ih (i + 1) (by omega) (by omega) ls hl2
  exact key_4 (nn + 1) 0 (Nat.zero_le _) (by omega) ls (lv_sub hl [2, 1, 0] rfl)

set_option maxHeartbeats 4000000 in
set_option maxRecDepth 100000 in
theorem c_X3_length (l : Launch) (G : zG) (w : va_W) (km b co : Nat) (kc cn : Nat) (tx : Nat → Int32)  (hhm : w[km]? = some (b, .inr (4, [.ref co]))) (hhc : w[kc]? = some (co, .inl (G.2 0, cn, .inl tx))) : Met l yX3_length wsX3_length ({ frames := 0, cells := 0, slots := 0, locals := 0 }) (va_Pc [.ref b] (zPp G w)) (zQi (fun r : Int32 => r = nI cn)) 0 0 (fun _ => False) := by
  refine Met.ofW (cc := cX3_length) (maxL := 1) (ret := (some .int)) (by decide) rfl ?_
  intro p e s m args below meth c s₁ B hml hv
  obtain ⟨rfl, hP, hK⟩ := hv
  have hx := B.exec
  have hb := B.bytes
  have hr := B.returns
  have hts := atoms_spec (ws := wsX3_length) B.pre
  have hown : s.vm.findClass RX3 = some m.cls := findClass_of_methodNamed B.named
  have hlocks := B.notSynchronized
  have hi_X3 : ∀ w ∈ u_ws RX3 TX3 1, w ∈ wsX3_length := (fun _ h => List.mem_cons_of_mem _ (List.mem_append_right _ h))
  have hl := lv_entry ([.ref b]) (n := 1) (Nat.le_of_ble_eq_true rfl)
  rw [lg_entry_eq]
  generalize (lg_sl ([.ref b]) ++ List.replicate (1 - (lg_sl ([.ref b])).length) Slot.unset).toArray = ls at hl ⊢
  have hl : lv_has ls 1 [(0, .ref b)] := hl
  refine lv_aload_n hx hb dX3_length_0 rfl (lv_at hl 0 rfl) ?_
  refine va_get (D := G.1) (ci := 4) (v := .ref co) (C := RX3) (T := TX3) (N := 1) hx hb hts hi_X3 hown hK hP km hhm rfl 0 (by decide) (hts (.fieldLink RX3 9 "BoilerLog$Message" "content" "[I") (List.mem_of_getElem? (i := 1) rfl)) (fun _ h9 => h9) rfl dX3_length_1 ?_
  refine va_alen hx hb hK hP kc 0 hhc rfl (v := nI (cn)) rfl dX3_length_4 ?_
  exact W.iret (v := nI (cn)) hx hb hr (fun t ht hW => ⟨nI (cn), rfl, rfl, ht⟩) (fun _ h => nomatch h) dX3_length_5

set_option maxHeartbeats 4000000 in
set_option maxRecDepth 100000 in
theorem c_X1_isComplete (l : Launch) (G : zG) (w : va_W) (k10 b ch : Nat) (nn : Nat) (k11 : Nat) (tx : Nat → Int32)  (hh10 : w[k10]? = some (b, .inr (2, [.ref ch, .int (nI nn)]))) (hh11 : w[k11]? = some (ch, .inl (G.2 3, 40, .inl tx))) (hn40 : nn ≤ 40) : Met l yX1_isComplete wsX1_isComplete ({ frames := 1, cells := 0, slots := 0, locals := 20 }) (va_Pc [.ref b] (zPp G w)) (zQi (fun r : Int32 => r = zb (sGood tx nn))) 0 0 (fun _ => False) := by
  refine Met.ofW (cc := cX1_isComplete) (maxL := 3) (ret := (some .boolean)) (by decide) rfl ?_
  intro p e s m args below meth c s₁ B hml hv
  obtain ⟨rfl, hP, hK⟩ := hv
  have hx := B.exec
  have hb := B.bytes
  have hr := B.returns
  have hts := atoms_spec (ws := wsX1_isComplete) B.pre
  have hown : s.vm.findClass RX1 = some m.cls := findClass_of_methodNamed B.named
  have hlocks := B.notSynchronized
  have hi_X1 : ∀ w ∈ u_ws RX1 TX1 2, w ∈ wsX1_isComplete := (fun _ h => List.mem_cons_of_mem _ (List.mem_append_right _ h))
  have hl := lv_entry ([.ref b]) (n := 3) (Nat.le_of_ble_eq_true rfl)
  rw [lg_entry_eq]
  generalize (lg_sl ([.ref b]) ++ List.replicate (3 - (lg_sl ([.ref b])).length) Slot.unset).toArray = ls at hl ⊢
  have hl : lv_has ls 3 [(0, .ref b)] := hl
  refine lv_iconst (v := 0) hx hb dX1_isComplete_0 (by decide) ?_
  refine lv_istore_n (lv' := [(1, .int 0), (0, .ref b)]) hx hb dX1_isComplete_1 rfl hl (by decide) rfl (fun ls hl => ?_)
  refine lv_iconst (v := 0) hx hb dX1_isComplete_2 (by decide) ?_
  refine lv_istore_n (lv' := [(2, .int 0), (1, .int 0), (0, .ref b)]) hx hb dX1_isComplete_3 rfl hl (by decide) rfl (fun ls hl => ?_)
  have key_4 : ∀ (n i : Nat), i ≤ nn → nn < i + n → (sG tx i = true) → ∀ ls : Array Slot, lv_has ls 3 [(0, .ref b), (1, .int (zb (sW tx i))), (2, .int (nI i))] → W p l e (headSpec wsX1_isComplete ({ frames := 1, cells := 0, slots := 0, locals := 20 })).room s m ([.ref b] : List Value).toArray below meth c s.heap [] 0 0 (MQ below (zQi (fun r : Int32 => r = zb (sGood tx nn))) ([.ref b] : List Value).toArray s 0 0 (fun _ => False)) (F0 m 4 ls []) := by
    intro n
    induction n with
    | zero => intro i h1 h2; exact absurd h2 (by omega)
    | succ n ih =>
      intro i hi hn hgi ls hl
      refine lv_iload_n hx hb dX1_isComplete_4 rfl (lv_at hl 2 rfl) ?_
      refine lv_aload_n hx hb dX1_isComplete_5 rfl (lv_at hl 0 rfl) ?_
      refine va_get (D := G.1) (ci := 2) (v := .int (nI nn)) (C := RX1) (T := TX1) (N := 2) hx hb hts hi_X1 hown hK hP k10 hh10 rfl 1 (by decide) (hts (.fieldLink RX1 15 "BoilerLog$Draft" "count" "I") (List.mem_of_getElem? (i := 1) rfl)) (fun _ h9 => h9) rfl dX1_isComplete_6 ?_
      refine lv_icmp_ge (tgt := 43) hx hb dX1_isComplete_9 (by decide) (fun zc_1 => ?_) (fun zc_1 => ?_)
      · skip
        have zd_1 := Int32.not_lt.mpr zc_1
        have zhc := (nI_leI (by omega) (by omega)).mp zc_1
        have zie := Nat.le_antisymm zhc hi
        subst zie
        refine lv_aload_n hx hb dX1_isComplete_43 rfl (lv_at hl 0 rfl) ?_
        refine va_get (D := G.1) (ci := 2) (v := .int (nI nn)) (C := RX1) (T := TX1) (N := 2) hx hb hts hi_X1 hown hK hP k10 hh10 rfl 1 (by decide) (hts (.fieldLink RX1 15 "BoilerLog$Draft" "count" "I") (List.mem_of_getElem? (i := 1) rfl)) (fun _ h9 => h9) rfl dX1_isComplete_44 ?_
        refine lv_if_le (tgt := 58) hx hb dX1_isComplete_47 (by decide) (fun zc_2 => ?_) (fun zc_2 => ?_)
        · skip
          have zd_2 := Int32.not_lt.mpr zc_2
          have zc_2 := (sLe0 (by omega)).mp zc_2
          refine lv_iconst (v := 0) hx hb dX1_isComplete_58 (by decide) ?_
          exact W.zret (v := 0) hx hb hr rfl (fun t ht hW => ⟨0, rfl, (by simp [sGood, zb, hgi, zc_1, zd_1, zc_2, zd_2]), ht⟩) (fun _ h => nomatch h) dX1_isComplete_59
        · skip
          have zd_2 := Int32.not_le.mp zc_2
          have zc_2 := sLe0n (by omega) zc_2
          refine lv_iload_n hx hb dX1_isComplete_50 rfl (lv_at hl 1 rfl) ?_
          refine lv_if_ne (tgt := 58) hx hb dX1_isComplete_51 (by decide) (fun zc_3 => ?_) (fun zc_3 => ?_)
          · skip
            have zc_3 := zb_n0 zc_3
            refine lv_iconst (v := 0) hx hb dX1_isComplete_58 (by decide) ?_
            exact W.zret (v := 0) hx hb hr rfl (fun t ht hW => ⟨0, rfl, (by simp [sGood, zb, hgi, zc_1, zd_1, zc_2, zd_2, zc_3]), ht⟩) (fun _ h => nomatch h) dX1_isComplete_59
          · skip
            have zc_3 := zb_0.mp zc_3
            refine lv_iconst (v := 1) hx hb dX1_isComplete_54 (by decide) ?_
            refine lv_goto (tgt := 59) hx hb dX1_isComplete_55 (by decide) ?_
            exact W.zret (v := 1) hx hb hr rfl (fun t ht hW => ⟨1, rfl, (by simp [sGood, zb, hgi, zc_1, zd_1, zc_2, zd_2, zc_3]), ht⟩) (fun _ h => nomatch h) dX1_isComplete_59
      · skip
        have zd_1 := Int32.not_le.mp zc_1
        have zhc := Nat.lt_of_not_le (fun z => zc_1 ((nI_leI (by omega) (by omega)).mpr z))
        refine lv_aload_n hx hb dX1_isComplete_12 rfl (lv_at hl 0 rfl) ?_
        refine va_get (D := G.1) (ci := 2) (v := .ref ch) (C := RX1) (T := TX1) (N := 2) hx hb hts hi_X1 hown hK hP k10 hh10 rfl 0 (by decide) (hts (.fieldLink RX1 9 "BoilerLog$Draft" "characters" "[C") (List.mem_of_getElem? (i := 2) rfl)) (fun _ h9 => h9) rfl dX1_isComplete_13 ?_
        refine lv_iload_n hx hb dX1_isComplete_16 rfl (lv_at hl 2 rfl) ?_
        refine va_cald hx hb hK hP k11 3 hh11 rfl (vp_in_nI (by omega) (by omega)) dX1_isComplete_17 ?_
        refine W.eq (g2 := F0 m 18 ls [.int (tx i)]) (by first | (rw [nI_clamp (by omega)]; done) | (rw [nI_clamp (by omega)]; rfl)) ?_
        refine z_csi (va_Run.run (va_runS (As := [.int (tx i)]) (rest := []) ⟨hx, hb, hml, hown, hts⟩ (c_X1_isLow l G (tx i)) (va_cwS 1 hts gX1_isComplete_X1_isLow rfl rfl rfl (by decide +kernel) ⟨Nat.le_of_ble_eq_true rfl, Nat.le_of_ble_eq_true rfl⟩) (z_ps hK z_none) rfl rfl hl.1 rfl (lv_room (Nat.le_of_ble_eq_true rfl)) dX1_isComplete_18 ⟨(Nat.zero_le _), (Nat.zero_le _)⟩)) (fun zr_4 hzr_4 => ?_)
        subst hzr_4
        refine lv_iload_n hx hb dX1_isComplete_21 rfl (lv_at hl 1 rfl) ?_
        refine lv_icmp_eq (tgt := 27) hx hb dX1_isComplete_22 (by decide) (fun zc_5 => ?_) (fun zc_5 => ?_)
        · skip
          have zc_5 := zb_eq.mp zc_5
          refine lv_aload_n hx hb dX1_isComplete_27 rfl (lv_at hl 0 rfl) ?_
          refine va_get (D := G.1) (ci := 2) (v := .ref ch) (C := RX1) (T := TX1) (N := 2) hx hb hts hi_X1 hown hK hP k10 hh10 rfl 0 (by decide) (hts (.fieldLink RX1 9 "BoilerLog$Draft" "characters" "[C") (List.mem_of_getElem? (i := 2) rfl)) (fun _ h9 => h9) rfl dX1_isComplete_28 ?_
          refine lv_iload_n hx hb dX1_isComplete_31 rfl (lv_at hl 2 rfl) ?_
          refine va_cald hx hb hK hP k11 3 hh11 rfl (vp_in_nI (by omega) (by omega)) dX1_isComplete_32 ?_
          refine W.eq (g2 := F0 m 33 ls [.int (tx i)]) (by first | (rw [nI_clamp (by omega)]; done) | (rw [nI_clamp (by omega)]; rfl)) ?_
          refine z_csi (va_Run.run (va_runS (As := [.int (tx i)]) (rest := []) ⟨hx, hb, hml, hown, hts⟩ (c_X1_isHigh l G (tx i)) (va_cwS 1 hts gX1_isComplete_X1_isHigh rfl rfl rfl (by decide +kernel) ⟨Nat.le_of_ble_eq_true rfl, Nat.le_of_ble_eq_true rfl⟩) (z_ps hK z_none) rfl rfl hl.1 rfl (lv_room (Nat.le_of_ble_eq_true rfl)) dX1_isComplete_33 ⟨(Nat.zero_le _), (Nat.zero_le _)⟩)) (fun zr_6 hzr_6 => ?_)
          subst hzr_6
          refine lv_istore_n (lv' := [(1, .int (zb (sHi (tx i)))), (0, .ref b), (2, .int (nI i))]) hx hb dX1_isComplete_36 rfl hl (by decide) rfl (fun ls hl => ?_)
          refine lv_iinc (v := (nI (i + 1))) (lv' := [(2, .int (nI (i + 1))), (1, .int (zb (sHi (tx i)))), (0, .ref b)]) hx hb dX1_isComplete_37 hl (k := 2) rfl (by first | exact nI_1 _ | rfl) (by decide) rfl (fun ls hl => ?_)
          refine lv_goto (tgt := 4) hx hb dX1_isComplete_40 (by decide) ?_
          have hl2 := lv_sub (l' := [(0, .ref b), (1, .int (zb (sHi (tx i)))), (2, .int (nI (i + 1)))]) hl [2, 1, 0] rfl
          have e_1 : zb (sHi (tx i)) = zb (sW tx (i + 1)) := by simp [sW]
          rw [e_1] at hl2
          exact ih (i + 1) (by omega) (by omega) (by rw [sG, hgi, zc_5]; simp) ls hl2
        · skip
          have zc_5 := zb_ne zc_5
          refine lv_iconst (v := 0) hx hb dX1_isComplete_25 (by decide) ?_
          exact W.zret (v := 0) hx hb hr rfl (fun t ht hW => ⟨0, rfl, (by rw [sGood_no hgi hi (by omega) zc_5]; rfl), ht⟩) (fun _ h => nomatch h) dX1_isComplete_26
  exact key_4 (nn + 1) 0 (Nat.zero_le _) (by omega) rfl ls (lv_sub hl [2, 1, 0] rfl)

set_option maxHeartbeats 4000000 in
set_option maxRecDepth 100000 in
theorem c_X3_get (l : Launch) (G : zG) (w : va_W) (km b co : Nat) (kc cn : Nat) (tx : Nat → Int32) (a1 : Int32) (hhm : w[km]? = some (b, .inr (4, [.ref co]))) (hhc : w[kc]? = some (co, .inl (G.2 0, cn, .inl tx))) (hcn : cn < 2 ^ 31) : Met l yX3_get wsX3_get ({ frames := 0, cells := 0, slots := 0, locals := 0 }) (va_Pc [.ref b, .int a1] (zPp G w)) (zQi (fun r : Int32 => r = (if 0 ≤ a1 ∧ a1 < nI cn then tx a1.toNatClampNeg else -1))) 0 0 (fun _ => False) := by
  refine Met.ofW (cc := cX3_get) (maxL := 2) (ret := (some .int)) (by decide) rfl ?_
  intro p e s m args below meth c s₁ B hml hv
  obtain ⟨rfl, hP, hK⟩ := hv
  have hx := B.exec
  have hb := B.bytes
  have hr := B.returns
  have hts := atoms_spec (ws := wsX3_get) B.pre
  have hown : s.vm.findClass RX3 = some m.cls := findClass_of_methodNamed B.named
  have hlocks := B.notSynchronized
  have hi_X3 : ∀ w ∈ u_ws RX3 TX3 1, w ∈ wsX3_get := (fun _ h => List.mem_cons_of_mem _ (List.mem_append_right _ h))
  have hl := lv_entry ([.ref b, .int a1]) (n := 2) (Nat.le_of_ble_eq_true rfl)
  rw [lg_entry_eq]
  generalize (lg_sl ([.ref b, .int a1]) ++ List.replicate (2 - (lg_sl ([.ref b, .int a1])).length) Slot.unset).toArray = ls at hl ⊢
  have hl : lv_has ls 2 [(0, .ref b), (1, .int a1)] := hl
  refine lv_iload_n hx hb dX3_get_0 rfl (lv_at hl 1 rfl) ?_
  refine lv_if_lt (tgt := 22) hx hb dX3_get_1 (by decide) (fun zc_1 => ?_) (fun zc_1 => ?_)
  · skip
    have zd_1 := Int32.not_le.mpr zc_1
    refine lv_iconst (v := (-1)) hx hb dX3_get_22 (by decide) ?_
    exact W.iret (v := (-1)) hx hb hr (fun t ht hW => ⟨(-1), rfl, (by simp [zc_1, zd_1]), ht⟩) (fun _ h => nomatch h) dX3_get_23
  · skip
    have zd_1 := Int32.not_lt.mp zc_1
    refine lv_iload_n hx hb dX3_get_4 rfl (lv_at hl 1 rfl) ?_
    refine lv_aload_n hx hb dX3_get_5 rfl (lv_at hl 0 rfl) ?_
    refine va_get (D := G.1) (ci := 4) (v := .ref co) (C := RX3) (T := TX3) (N := 1) hx hb hts hi_X3 hown hK hP km hhm rfl 0 (by decide) (hts (.fieldLink RX3 9 "BoilerLog$Message" "content" "[I") (List.mem_of_getElem? (i := 1) rfl)) (fun _ h9 => h9) rfl dX3_get_6 ?_
    refine va_alen hx hb hK hP kc 0 hhc rfl (v := nI (cn)) rfl dX3_get_9 ?_
    refine lv_icmp_ge (tgt := 22) hx hb dX3_get_10 (by decide) (fun zc_2 => ?_) (fun zc_2 => ?_)
    · skip
      have zd_2 := Int32.not_lt.mpr zc_2
      refine lv_iconst (v := (-1)) hx hb dX3_get_22 (by decide) ?_
      exact W.iret (v := (-1)) hx hb hr (fun t ht hW => ⟨(-1), rfl, (by simp [zc_1, zd_1, zc_2, zd_2]), ht⟩) (fun _ h => nomatch h) dX3_get_23
    · skip
      have zd_2 := Int32.not_le.mp zc_2
      refine lv_aload_n hx hb dX3_get_13 rfl (lv_at hl 0 rfl) ?_
      refine va_get (D := G.1) (ci := 4) (v := .ref co) (C := RX3) (T := TX3) (N := 1) hx hb hts hi_X3 hown hK hP km hhm rfl 0 (by decide) (hts (.fieldLink RX3 9 "BoilerLog$Message" "content" "[I") (List.mem_of_getElem? (i := 1) rfl)) (fun _ h9 => h9) rfl dX3_get_14 ?_
      refine lv_iload_n hx hb dX3_get_17 rfl (lv_at hl 1 rfl) ?_
      refine va_iald hx hb hK hP kc 0 hhc rfl (zIn_lt hcn zd_1 zd_2) dX3_get_18 ?_
      refine lv_goto (tgt := 23) hx hb dX3_get_19 (by decide) ?_
      exact W.iret (v := tx a1.toNatClampNeg) hx hb hr (fun t ht hW => ⟨tx a1.toNatClampNeg, rfl, (by simp [zc_1, zd_1, zc_2, zd_2]), ht⟩) (fun _ h => nomatch h) dX3_get_23

set_option maxHeartbeats 4000000 in
set_option maxRecDepth 100000 in
theorem c_X3_personCalled (l : Launch) (G : zG) (w : va_W) (km b co : Nat) (kc cn : Nat) (tx : Nat → Int32)  (hhm : w[km]? = some (b, .inr (4, [.ref co]))) (hhc : w[kc]? = some (co, .inl (G.2 0, cn, .inl tx))) (hc0 : 0 < cn) (hcn : cn < 2 ^ 31) : Met l yX3_personCalled wsX3_personCalled ({ frames := 0, cells := 0, slots := 0, locals := 0 }) (va_Pc [.ref b] (zPp G w)) (zQi (fun r : Int32 => r = sMeant tx cn)) 0 0 (fun _ => False) := by
  refine Met.ofW (cc := cX3_personCalled) (maxL := 3) (ret := (some .int)) (by decide) rfl ?_
  intro p e s m args below meth c s₁ B hml hv
  obtain ⟨rfl, hP, hK⟩ := hv
  have hx := B.exec
  have hb := B.bytes
  have hr := B.returns
  have hts := atoms_spec (ws := wsX3_personCalled) B.pre
  have hown : s.vm.findClass RX3 = some m.cls := findClass_of_methodNamed B.named
  have hlocks := B.notSynchronized
  have hi_X3 : ∀ w ∈ u_ws RX3 TX3 1, w ∈ wsX3_personCalled := (fun _ h => List.mem_cons_of_mem _ (List.mem_append_right _ h))
  have hl := lv_entry ([.ref b]) (n := 3) (Nat.le_of_ble_eq_true rfl)
  rw [lg_entry_eq]
  generalize (lg_sl ([.ref b]) ++ List.replicate (3 - (lg_sl ([.ref b])).length) Slot.unset).toArray = ls at hl ⊢
  have hl : lv_has ls 3 [(0, .ref b)] := hl
  refine lv_aload_n hx hb dX3_personCalled_0 rfl (lv_at hl 0 rfl) ?_
  refine va_get (D := G.1) (ci := 4) (v := .ref co) (C := RX3) (T := TX3) (N := 1) hx hb hts hi_X3 hown hK hP km hhm rfl 0 (by decide) (hts (.fieldLink RX3 9 "BoilerLog$Message" "content" "[I") (List.mem_of_getElem? (i := 1) rfl)) (fun _ h9 => h9) rfl dX3_personCalled_1 ?_
  refine va_alen hx hb hK hP kc 0 hhc rfl (v := nI (cn)) rfl dX3_personCalled_4 ?_
  refine lv_iconst (v := 2) hx hb dX3_personCalled_5 (by decide) ?_
  refine lv_isub hx hb dX3_personCalled_6 ?_
  refine W.eq (g2 := F0 m 7 ls [.int (nI (cn - 1 - 0) - 1)]) (by first | (rw [zSub2 (by omega)]; done) | (rw [zSub2 (by omega)]; rfl)) ?_
  refine lv_istore_n (lv' := [(1, .int (nI (cn - 1 - 0) - 1)), (0, .ref b)]) hx hb dX3_personCalled_7 rfl hl (by decide) rfl (fun ls hl => ?_)
  have key_8 : ∀ (n i : Nat), i ≤ cn → cn < i + n → (sMeantTo tx (cn - 1) = sMeantTo tx (cn - 1 - i)) → ∀ ls : Array Slot, lv_has ls 3 [(0, .ref b), (1, .int (nI (cn - 1 - i) - 1))] → W p l e (headSpec wsX3_personCalled ({ frames := 0, cells := 0, slots := 0, locals := 0 })).room s m ([.ref b] : List Value).toArray below meth c s.heap [] 0 0 (MQ below (zQi (fun r : Int32 => r = sMeant tx cn)) ([.ref b] : List Value).toArray s 0 0 (fun _ => False)) (F0 m 8 ls []) := by
    intro n
    induction n with
    | zero => intro i h1 h2; exact absurd h2 (by omega)
    | succ n ih =>
      intro i hi hn hme ls hl
      refine lv_iload_n hx hb dX3_personCalled_8 rfl (lv_at hl 1 rfl) ?_
      refine lv_if_lt (tgt := 53) hx hb dX3_personCalled_9 (by decide) (fun zc_1 => ?_) (fun zc_1 => ?_)
      · skip
        have zd_1 := Int32.not_le.mpr zc_1
        have zm := zNeg1 (by omega) zc_1
        refine lv_iconst (v := (-1)) hx hb dX3_personCalled_53 (by decide) ?_
        exact W.iret (v := (-1)) hx hb hr (fun t ht hW => ⟨(-1), rfl, (by rw [sMeant, hme, zm]; rfl), ht⟩) (fun _ h => nomatch h) dX3_personCalled_54
      · skip
        have zd_1 := Int32.not_lt.mp zc_1
        have zm := zPos1 (by omega) zc_1
        have hnx : nI (cn - 1 - i) - 1 = nI (cn - 2 - i) := by rw [show cn - 1 - i = cn - 2 - i + 1 by omega, nI_pred]
        rw [hnx] at hl
        refine lv_aload_n hx hb dX3_personCalled_12 rfl (lv_at hl 0 rfl) ?_
        refine va_get (D := G.1) (ci := 4) (v := .ref co) (C := RX3) (T := TX3) (N := 1) hx hb hts hi_X3 hown hK hP km hhm rfl 0 (by decide) (hts (.fieldLink RX3 9 "BoilerLog$Message" "content" "[I") (List.mem_of_getElem? (i := 1) rfl)) (fun _ h9 => h9) rfl dX3_personCalled_13 ?_
        refine lv_iload_n hx hb dX3_personCalled_16 rfl (lv_at hl 1 rfl) ?_
        refine lv_iconst (v := 1) hx hb dX3_personCalled_17 (by decide) ?_
        refine lv_iadd hx hb dX3_personCalled_18 ?_
        refine W.eq (g2 := F0 m 19 ls [.int (nI (cn - 1 - i)), .ref co]) (by first | (rw [nI_1, show cn - 2 - i + 1 = cn - 1 - i by omega]; done) | (rw [nI_1, show cn - 2 - i + 1 = cn - 1 - i by omega]; rfl)) ?_
        refine va_iald hx hb hK hP kc 0 hhc rfl (vp_in_nI (by omega) (by omega)) dX3_personCalled_19 ?_
        refine W.eq (g2 := F0 m 20 ls [.int (tx (cn - 1 - i))]) (by first | (rw [nI_clamp (by omega)]; done) | (rw [nI_clamp (by omega)]; rfl)) ?_
        refine lv_bipush (v := 48) hx hb dX3_personCalled_20 (by decide) ?_
        refine lv_isub hx hb dX3_personCalled_22 ?_
        refine lv_istore_n (lv' := [(2, .int ((tx (cn - 1 - i)) - 48)), (0, .ref b), (1, .int (nI (cn - 2 - i)))]) hx hb dX3_personCalled_23 rfl hl (by decide) rfl (fun ls hl => ?_)
        refine lv_aload_n hx hb dX3_personCalled_24 rfl (lv_at hl 1 rfl) ?_
        refine va_get (D := G.1) (ci := 4) (v := .ref co) (C := RX3) (T := TX3) (N := 1) hx hb hts hi_X3 hown hK hP km hhm rfl 0 (by decide) (hts (.fieldLink RX3 9 "BoilerLog$Message" "content" "[I") (List.mem_of_getElem? (i := 1) rfl)) (fun _ h9 => h9) rfl dX3_personCalled_25 ?_
        refine lv_iload_n hx hb dX3_personCalled_28 rfl (lv_at hl 2 rfl) ?_
        refine va_iald hx hb hK hP kc 0 hhc rfl (vp_in_nI (by omega) (by omega)) dX3_personCalled_29 ?_
        refine W.eq (g2 := F0 m 30 ls [.int (tx (cn - 2 - i))]) (by first | (rw [nI_clamp (by omega)]; done) | (rw [nI_clamp (by omega)]; rfl)) ?_
        refine lv_bipush (v := 64) hx hb dX3_personCalled_30 (by decide) ?_
        refine lv_icmp_ne (tgt := 47) hx hb dX3_personCalled_32 (by decide) (fun zc_2 => ?_) (fun zc_2 => ?_)
        · skip
          have zf0 : ¬ sCalls tx (cn - 2 - i) = true := by rw [sCalls]; simp [zc_2]
          refine lv_iinc (v := ((nI (cn - 2 - i)) + (-1))) (lv' := [(1, .int ((nI (cn - 2 - i)) + (-1))), (2, .int ((tx (cn - 1 - i)) - 48)), (0, .ref b)]) hx hb dX3_personCalled_47 hl (k := 2) rfl (by first | exact rfl | rfl) (by decide) rfl (fun ls hl => ?_)
          refine lv_goto (tgt := 8) hx hb dX3_personCalled_50 (by decide) ?_
          have hl2 := lv_sub (l' := [(0, .ref b), (1, .int ((nI (cn - 2 - i)) + (-1)))]) hl [2, 0] rfl
          have e_1 : (nI (cn - 2 - i)) + (-1) = nI (cn - 1 - (i + 1)) - 1 := by rw [show cn - 1 - (i + 1) = cn - 2 - i by omega]; exact (Int32.sub_eq_add_neg _ _).symm
          rw [e_1] at hl2
          exact ih (i + 1) (by omega) (by omega) (by rw [hme, show cn - 1 - i = cn - 2 - i + 1 by omega, sMeantTo, if_neg zf0, show cn - 1 - (i + 1) = cn - 2 - i by omega]) ls hl2
        · skip
          refine lv_iload_n hx hb dX3_personCalled_35 rfl (lv_at hl 0 rfl) ?_
          refine lv_if_lt (tgt := 47) hx hb dX3_personCalled_36 (by decide) (fun zc_3 => ?_) (fun zc_3 => ?_)
          · skip
            have zd_3 := Int32.not_le.mpr zc_3
            have zf0 : ¬ sCalls tx (cn - 2 - i) = true := zCalls_lo (by rw [show cn - 2 - i + 1 = cn - 1 - i by omega]; exact zc_3)
            refine lv_iinc (v := ((nI (cn - 2 - i)) + (-1))) (lv' := [(1, .int ((nI (cn - 2 - i)) + (-1))), (2, .int ((tx (cn - 1 - i)) - 48)), (0, .ref b)]) hx hb dX3_personCalled_47 hl (k := 2) rfl (by first | exact rfl | rfl) (by decide) rfl (fun ls hl => ?_)
            refine lv_goto (tgt := 8) hx hb dX3_personCalled_50 (by decide) ?_
            have hl2 := lv_sub (l' := [(0, .ref b), (1, .int ((nI (cn - 2 - i)) + (-1)))]) hl [2, 0] rfl
            have e_1 : (nI (cn - 2 - i)) + (-1) = nI (cn - 1 - (i + 1)) - 1 := by rw [show cn - 1 - (i + 1) = cn - 2 - i by omega]; exact (Int32.sub_eq_add_neg _ _).symm
            rw [e_1] at hl2
            exact ih (i + 1) (by omega) (by omega) (by rw [hme, show cn - 1 - i = cn - 2 - i + 1 by omega, sMeantTo, if_neg zf0, show cn - 1 - (i + 1) = cn - 2 - i by omega]) ls hl2
          · skip
            have zd_3 := Int32.not_lt.mp zc_3
            refine lv_iload_n hx hb dX3_personCalled_39 rfl (lv_at hl 0 rfl) ?_
            refine lv_bipush (v := 9) hx hb dX3_personCalled_40 (by decide) ?_
            refine lv_icmp_ge (tgt := 47) hx hb dX3_personCalled_42 (by decide) (fun zc_4 => ?_) (fun zc_4 => ?_)
            · skip
              have zd_4 := Int32.not_lt.mpr zc_4
              have zf0 : ¬ sCalls tx (cn - 2 - i) = true := zCalls_hi (by rw [show cn - 2 - i + 1 = cn - 1 - i by omega]; exact zc_4)
              refine lv_iinc (v := ((nI (cn - 2 - i)) + (-1))) (lv' := [(1, .int ((nI (cn - 2 - i)) + (-1))), (2, .int ((tx (cn - 1 - i)) - 48)), (0, .ref b)]) hx hb dX3_personCalled_47 hl (k := 2) rfl (by first | exact rfl | rfl) (by decide) rfl (fun ls hl => ?_)
              refine lv_goto (tgt := 8) hx hb dX3_personCalled_50 (by decide) ?_
              have hl2 := lv_sub (l' := [(0, .ref b), (1, .int ((nI (cn - 2 - i)) + (-1)))]) hl [2, 0] rfl
              have e_1 : (nI (cn - 2 - i)) + (-1) = nI (cn - 1 - (i + 1)) - 1 := by rw [show cn - 1 - (i + 1) = cn - 2 - i by omega]; exact (Int32.sub_eq_add_neg _ _).symm
              rw [e_1] at hl2
              exact ih (i + 1) (by omega) (by omega) (by rw [hme, show cn - 1 - i = cn - 2 - i + 1 by omega, sMeantTo, if_neg zf0, show cn - 1 - (i + 1) = cn - 2 - i by omega]) ls hl2
            · skip
              have zd_4 := Int32.not_le.mp zc_4
              have zf1 : sCalls tx (cn - 2 - i) = true := zCalls_ok zc_2 (by rw [show cn - 2 - i + 1 = cn - 1 - i by omega]; exact zc_3) (by rw [show cn - 2 - i + 1 = cn - 1 - i by omega]; exact Int32.not_le.mp zc_4)
              refine lv_iload_n hx hb dX3_personCalled_45 rfl (lv_at hl 0 rfl) ?_
              exact W.iret (v := (tx (cn - 1 - i)) - 48) hx hb hr (fun t ht hW => ⟨(tx (cn - 1 - i)) - 48, rfl, (by rw [sMeant, hme, show cn - 1 - i = cn - 2 - i + 1 by omega, sMeantTo, if_pos zf1, show cn - 2 - i + 1 = cn - 1 - i by omega]), ht⟩) (fun _ h => nomatch h) dX3_personCalled_46
  exact key_8 (cn + 1) 0 (Nat.zero_le _) (by omega) rfl ls (lv_sub hl [1, 0] rfl)

set_option maxHeartbeats 4000000 in
set_option maxRecDepth 100000 in
theorem c_X1_wipe (l : Launch) (G : zG) (w : va_W) (k10 b ch : Nat) (nn : Nat)  (sz : Nat) (hh10 : w[k10]? = some (b, .inr (2, [.ref ch, .int (nI nn)]))) : Met l yX1_wipe wsX1_wipe ({ frames := 0, cells := 0, slots := 0, locals := 0 }) (va_Pc [.ref b] (zPu G w sz)) (va_Qv (fun w1 : va_W => w1 = w.set k10 (b, .inr (2, [.ref ch, .int 0]))) (zB G (va_A w sz)) (va_A w sz)) 0 0 (va_A w sz) := by
  refine Met.ofW (cc := cX1_wipe) (maxL := 1) (ret := none) (by decide) rfl ?_
  intro p e s m args below meth c s₁ B hml hv
  obtain ⟨rfl, hsz, hP, hK, hD0⟩ := hv
  have hx := B.exec
  have hb := B.bytes
  have hr := B.returns
  have hts := atoms_spec (ws := wsX1_wipe) B.pre
  have hown : s.vm.findClass RX1 = some m.cls := findClass_of_methodNamed B.named
  have hlocks := B.notSynchronized
  have hi_X1 : ∀ w ∈ u_ws RX1 TX1 2, w ∈ wsX1_wipe := (fun _ h => List.mem_cons_of_mem _ (List.mem_append_right _ h))
  subst hsz
  have hD := hD0.self (sz := s.heap.size)
  generalize hAe : va_A w s.heap.size = A at hD ⊢
  have hA : ∀ q : Nat, s.heap.size ≤ q → A q := fun q h => by rw [← hAe]; exact Or.inr h
  have hS : va_S A s.heap s.heap [] := va_S.rf
  have hl := lv_entry ([.ref b]) (n := 1) (Nat.le_of_ble_eq_true rfl)
  rw [lg_entry_eq]
  generalize (lg_sl ([.ref b]) ++ List.replicate (1 - (lg_sl ([.ref b])).length) Slot.unset).toArray = ls at hl ⊢
  have hl : lv_has ls 1 [(0, .ref b)] := hl
  refine lv_aload_n hx hb dX1_wipe_0 rfl (lv_at hl 0 rfl) ?_
  refine lv_iconst (v := 0) hx hb dX1_wipe_1 (by decide) ?_
  refine va_put (D := G.1) (ci := 2) (v := .int 0) (ty := .int) (C := RX1) (T := TX1) (N := 2) hx hb hts hi_X1 tyX1 tyX1_ok nmX1 hown hK hP hD hS k10 hh10 rfl 1 (by decide) (hts (.fieldLink RX1 15 "BoilerLog$Draft" "count" "I") (List.mem_of_getElem? (i := 1) rfl)) (fun _ h9 => h9) rfl (by decide +kernel) rfl rfl (Nat.le_of_ble_eq_true rfl) dX1_wipe_2 (fun Hz Lz hP hD hS => ?_)
  have hP : va_P G.1 vwCl (w.set k10 (b, .inr (2, [.ref ch, .int 0]))) Hz := hP
  have hD : va_D A (w.set k10 (b, .inr (2, [.ref ch, .int 0]))) := hD
  have hh10 : (w.set k10 (b, .inr (2, [.ref ch, .int 0])))[k10]? = some (b, .inr (2, [.ref ch, .int 0])) := z_self hh10
  exact W.vret hx hb hr (fun t ht hW => ⟨⟨(w.set k10 (b, .inr (2, [.ref ch, .int 0]))), rfl, rfl, ⟨by rw [ht]; exact hP, hD⟩⟩, hS.F ht⟩) hS.2.2 dX1_wipe_5

set_option maxHeartbeats 4000000 in
set_option maxRecDepth 100000 in
theorem c_X1_put (l : Launch) (G : zG) (w : va_W) (k10 b ch : Nat) (nn : Nat) (k11 : Nat) (tx : Nat → Int32) (pn : Nat) (a2 : Int32) (sz : Nat) (hh10 : w[k10]? = some (b, .inr (2, [.ref ch, .int (nI nn)]))) (hh11 : w[k11]? = some (ch, .inl (G.2 3, 40, .inl tx))) (hn39 : nn < 40) (hpn : pn ≤ nn) (hch : ∀ j, ∃ x : Nat, x < 65536 ∧ tx j = nI x) (hx9 : ∃ x : Nat, x < 65536 ∧ a2 = nI x) (hkk : k10 ≠ k11) (hkk2 : k11 ≠ k10) : Met l yX1_put wsX1_put ({ frames := 0, cells := 0, slots := 0, locals := 0 }) (va_Pc [.ref b, .int (nI pn), .int a2] (zPu G w sz)) (va_Qv (fun w1 : va_W => w1 = (w.set k11 (ch, .inl (G.2 3, 40, .inl (sIns tx pn nn a2)))).set k10 (b, .inr (2, [.ref ch, .int (nI (nn + 1))]))) (zB G (va_A w sz)) (va_A w sz)) 0 0 (va_A w sz) := by
  refine Met.ofW (cc := cX1_put) (maxL := 4) (ret := none) (by decide) rfl ?_
  intro p e s m args below meth c s₁ B hml hv
  obtain ⟨rfl, hsz, hP, hK, hD0⟩ := hv
  have hx := B.exec
  have hb := B.bytes
  have hr := B.returns
  have hts := atoms_spec (ws := wsX1_put) B.pre
  have hown : s.vm.findClass RX1 = some m.cls := findClass_of_methodNamed B.named
  have hlocks := B.notSynchronized
  have hi_X1 : ∀ w ∈ u_ws RX1 TX1 2, w ∈ wsX1_put := (fun _ h => List.mem_cons_of_mem _ (List.mem_append_right _ h))
  subst hsz
  have hD := hD0.self (sz := s.heap.size)
  generalize hAe : va_A w s.heap.size = A at hD ⊢
  have hA : ∀ q : Nat, s.heap.size ≤ q → A q := fun q h => by rw [← hAe]; exact Or.inr h
  have hS : va_S A s.heap s.heap [] := va_S.rf
  have hl := lv_entry ([.ref b, .int (nI pn), .int a2]) (n := 4) (Nat.le_of_ble_eq_true rfl)
  rw [lg_entry_eq]
  generalize (lg_sl ([.ref b, .int (nI pn), .int a2]) ++ List.replicate (4 - (lg_sl ([.ref b, .int (nI pn), .int a2])).length) Slot.unset).toArray = ls at hl ⊢
  have hl : lv_has ls 4 [(0, .ref b), (1, .int (nI pn)), (2, .int a2)] := hl
  refine lv_aload_n hx hb dX1_put_0 rfl (lv_at hl 0 rfl) ?_
  refine va_get (D := G.1) (ci := 2) (v := .int (nI nn)) (C := RX1) (T := TX1) (N := 2) hx hb hts hi_X1 hown hK hP k10 hh10 rfl 1 (by decide) (hts (.fieldLink RX1 15 "BoilerLog$Draft" "count" "I") (List.mem_of_getElem? (i := 1) rfl)) (fun _ h9 => h9) rfl dX1_put_1 ?_
  refine lv_istore_n (lv' := [(3, .int (nI nn)), (0, .ref b), (1, .int (nI pn)), (2, .int a2)]) hx hb dX1_put_4 rfl hl (by decide) rfl (fun ls hl => ?_)
  have key_5 : ∀ (n i : Nat), i ≤ (nn - pn) → (nn - pn) < i + n → ∀ (Hz : Heap) (Lz : List Loc), va_P G.1 vwCl (w.set k11 (ch, .inl (G.2 3, 40, .inl (sMv tx nn i)))) Hz → va_D A (w.set k11 (ch, .inl (G.2 3, 40, .inl (sMv tx nn i)))) → va_S A s.heap Hz Lz → ∀ ls : Array Slot, lv_has ls 4 [(0, .ref b), (1, .int (nI pn)), (2, .int a2), (3, .int (nI (nn - i)))] → W p l e (headSpec wsX1_put ({ frames := 0, cells := 0, slots := 0, locals := 0 })).room s m ([.ref b, .int (nI pn), .int a2] : List Value).toArray below meth c Hz Lz 0 0 (MQ below (va_Qv (fun w1 : va_W => w1 = (w.set k11 (ch, .inl (G.2 3, 40, .inl (sIns tx pn nn a2)))).set k10 (b, .inr (2, [.ref ch, .int (nI (nn + 1))]))) (zB G A) A) ([.ref b, .int (nI pn), .int a2] : List Value).toArray s 0 0 A) (F0 m 5 ls []) := by
    intro n
    induction n with
    | zero => intro i h1 h2; exact absurd h2 (by omega)
    | succ n ih =>
      intro i hi hn   Hz Lz hP hD hS ls hl
      have hh10 : (w.set k11 (ch, .inl (G.2 3, 40, .inl (sMv tx nn i))))[k10]? = some (b, .inr (2, [.ref ch, .int (nI nn)])) := z_other hkk2 hh10
      have hh11 : (w.set k11 (ch, .inl (G.2 3, 40, .inl (sMv tx nn i))))[k11]? = some (ch, .inl (G.2 3, 40, .inl (sMv tx nn i))) := z_self hh11
      refine lv_iload_n hx hb dX1_put_5 rfl (lv_at hl 3 rfl) ?_
      refine lv_iload_n hx hb dX1_put_6 rfl (lv_at hl 1 rfl) ?_
      refine lv_icmp_le (tgt := 30) hx hb dX1_put_7 (by decide) (fun zc_1 => ?_) (fun zc_1 => ?_)
      · skip
        have zd_1 := Int32.not_lt.mpr zc_1
        have zhc := (nI_leI (by omega) (by omega)).mp zc_1
        refine lv_aload_n hx hb dX1_put_30 rfl (lv_at hl 0 rfl) ?_
        refine va_get (D := G.1) (ci := 2) (v := .ref ch) (C := RX1) (T := TX1) (N := 2) hx hb hts hi_X1 hown hK hP k10 hh10 rfl 0 (by decide) (hts (.fieldLink RX1 9 "BoilerLog$Draft" "characters" "[C") (List.mem_of_getElem? (i := 2) rfl)) (fun _ h9 => h9) rfl dX1_put_31 ?_
        refine lv_iload_n hx hb dX1_put_34 rfl (lv_at hl 1 rfl) ?_
        refine lv_iload_n hx hb dX1_put_35 rfl (lv_at hl 2 rfl) ?_
        refine va_cast hx hb hK hP hD hS k11 3 hh11 rfl (vp_in_nI (by omega) (by omega)) dX1_put_36 (fun Hz Lz hP hD hS => ?_)
        rw [zn_char hx9] at hP hD
        rw [nI_clamp (by omega)] at hP hD
        have hP : va_P G.1 vwCl ((w.set k11 (ch, .inl (G.2 3, 40, .inl (sMv tx nn i)))).set k11 (ch, .inl (G.2 3, 40, .inl (upd (sMv tx nn i) pn a2)))) Hz := hP
        have hD : va_D A ((w.set k11 (ch, .inl (G.2 3, 40, .inl (sMv tx nn i)))).set k11 (ch, .inl (G.2 3, 40, .inl (upd (sMv tx nn i) pn a2)))) := hD
        have hh10 : ((w.set k11 (ch, .inl (G.2 3, 40, .inl (sMv tx nn i)))).set k11 (ch, .inl (G.2 3, 40, .inl (upd (sMv tx nn i) pn a2))))[k10]? = some (b, .inr (2, [.ref ch, .int (nI nn)])) := z_other (by first | assumption | omega) hh10
        have hh11 : ((w.set k11 (ch, .inl (G.2 3, 40, .inl (sMv tx nn i)))).set k11 (ch, .inl (G.2 3, 40, .inl (upd (sMv tx nn i) pn a2))))[k11]? = some (ch, .inl (G.2 3, 40, .inl (upd (sMv tx nn i) pn a2))) := z_self hh11
        refine lv_aload_n hx hb dX1_put_37 rfl (lv_at hl 0 rfl) ?_
        refine lv_dup hx hb dX1_put_38 rfl ?_
        refine va_get (D := G.1) (ci := 2) (v := .int (nI nn)) (C := RX1) (T := TX1) (N := 2) hx hb hts hi_X1 hown hK hP k10 hh10 rfl 1 (by decide) (hts (.fieldLink RX1 15 "BoilerLog$Draft" "count" "I") (List.mem_of_getElem? (i := 1) rfl)) (fun _ h9 => h9) rfl dX1_put_39 ?_
        refine lv_iconst (v := 1) hx hb dX1_put_42 (by decide) ?_
        refine lv_iadd hx hb dX1_put_43 ?_
        refine W.eq (g2 := F0 m 44 ls [.int (nI (nn + 1)), .ref b]) (by first | (rw [nI_1]; done) | (rw [nI_1]; rfl)) ?_
        refine va_put (D := G.1) (ci := 2) (v := .int (nI (nn + 1))) (ty := .int) (C := RX1) (T := TX1) (N := 2) hx hb hts hi_X1 tyX1 tyX1_ok nmX1 hown hK hP hD hS k10 hh10 rfl 1 (by decide) (hts (.fieldLink RX1 15 "BoilerLog$Draft" "count" "I") (List.mem_of_getElem? (i := 1) rfl)) (fun _ h9 => h9) rfl (by decide +kernel) rfl rfl (Nat.le_of_ble_eq_true rfl) dX1_put_44 (fun Hz Lz hP hD hS => ?_)
        have hP : va_P G.1 vwCl (((w.set k11 (ch, .inl (G.2 3, 40, .inl (sMv tx nn i)))).set k11 (ch, .inl (G.2 3, 40, .inl (upd (sMv tx nn i) pn a2)))).set k10 (b, .inr (2, [.ref ch, .int (nI (nn + 1))]))) Hz := hP
        have hD : va_D A (((w.set k11 (ch, .inl (G.2 3, 40, .inl (sMv tx nn i)))).set k11 (ch, .inl (G.2 3, 40, .inl (upd (sMv tx nn i) pn a2)))).set k10 (b, .inr (2, [.ref ch, .int (nI (nn + 1))]))) := hD
        have hh10 : (((w.set k11 (ch, .inl (G.2 3, 40, .inl (sMv tx nn i)))).set k11 (ch, .inl (G.2 3, 40, .inl (upd (sMv tx nn i) pn a2)))).set k10 (b, .inr (2, [.ref ch, .int (nI (nn + 1))])))[k10]? = some (b, .inr (2, [.ref ch, .int (nI (nn + 1))])) := z_self hh10
        have hh11 : (((w.set k11 (ch, .inl (G.2 3, 40, .inl (sMv tx nn i)))).set k11 (ch, .inl (G.2 3, 40, .inl (upd (sMv tx nn i) pn a2)))).set k10 (b, .inr (2, [.ref ch, .int (nI (nn + 1))])))[k11]? = some (ch, .inl (G.2 3, 40, .inl (upd (sMv tx nn i) pn a2))) := z_other (by first | assumption | omega) hh11
        exact W.vret hx hb hr (fun t ht hW => ⟨⟨(((w.set k11 (ch, .inl (G.2 3, 40, .inl (sMv tx nn i)))).set k11 (ch, .inl (G.2 3, 40, .inl (upd (sMv tx nn i) pn a2)))).set k10 (b, .inr (2, [.ref ch, .int (nI (nn + 1))]))), rfl, (by rw [List.set_set, ← sMv_end (by omega) (show nn - i = pn by omega)]), ⟨by rw [ht]; exact hP, hD⟩⟩, hS.F ht⟩) hS.2.2 dX1_put_47
      · skip
        have zd_1 := Int32.not_le.mp zc_1
        have zhc := Nat.lt_of_not_le (fun z => zc_1 ((nI_leI (by omega) (by omega)).mpr z))
        refine lv_aload_n hx hb dX1_put_10 rfl (lv_at hl 0 rfl) ?_
        refine va_get (D := G.1) (ci := 2) (v := .ref ch) (C := RX1) (T := TX1) (N := 2) hx hb hts hi_X1 hown hK hP k10 hh10 rfl 0 (by decide) (hts (.fieldLink RX1 9 "BoilerLog$Draft" "characters" "[C") (List.mem_of_getElem? (i := 2) rfl)) (fun _ h9 => h9) rfl dX1_put_11 ?_
        refine lv_iload_n hx hb dX1_put_14 rfl (lv_at hl 3 rfl) ?_
        refine lv_aload_n hx hb dX1_put_15 rfl (lv_at hl 0 rfl) ?_
        refine va_get (D := G.1) (ci := 2) (v := .ref ch) (C := RX1) (T := TX1) (N := 2) hx hb hts hi_X1 hown hK hP k10 hh10 rfl 0 (by decide) (hts (.fieldLink RX1 9 "BoilerLog$Draft" "characters" "[C") (List.mem_of_getElem? (i := 2) rfl)) (fun _ h9 => h9) rfl dX1_put_16 ?_
        refine lv_iload_n hx hb dX1_put_19 rfl (lv_at hl 3 rfl) ?_
        refine lv_iconst (v := 1) hx hb dX1_put_20 (by decide) ?_
        refine lv_isub hx hb dX1_put_21 ?_
        refine W.eq (g2 := F0 m 22 ls [.int (nI (nn - i - 1)), .ref ch, .int (nI (nn - i)), .ref ch]) (by first | (rw [show nn - i = nn - i - 1 + 1 by omega, nI_pred, Nat.add_sub_cancel]; done) | (rw [show nn - i = nn - i - 1 + 1 by omega, nI_pred, Nat.add_sub_cancel]; rfl)) ?_
        refine va_cald hx hb hK hP k11 3 hh11 rfl (vp_in_nI (by omega) (by omega)) dX1_put_22 ?_
        refine W.eq (g2 := F0 m 23 ls [.int ((sMv tx nn i) (nn - i - 1)), .int (nI (nn - i)), .ref ch]) (by first | (rw [nI_clamp (by omega)]; done) | (rw [nI_clamp (by omega)]; rfl)) ?_
        refine va_cast hx hb hK hP hD hS k11 3 hh11 rfl (vp_in_nI (by omega) (by omega)) dX1_put_23 (fun Hz Lz hP hD hS => ?_)
        rw [zn_char (sMv_ch hch _ _ _)] at hP hD
        rw [nI_clamp (by omega)] at hP hD
        have hP : va_P G.1 vwCl ((w.set k11 (ch, .inl (G.2 3, 40, .inl (sMv tx nn i)))).set k11 (ch, .inl (G.2 3, 40, .inl (upd (sMv tx nn i) (nn - i) ((sMv tx nn i) (nn - i - 1)))))) Hz := hP
        have hD : va_D A ((w.set k11 (ch, .inl (G.2 3, 40, .inl (sMv tx nn i)))).set k11 (ch, .inl (G.2 3, 40, .inl (upd (sMv tx nn i) (nn - i) ((sMv tx nn i) (nn - i - 1)))))) := hD
        have hh10 : ((w.set k11 (ch, .inl (G.2 3, 40, .inl (sMv tx nn i)))).set k11 (ch, .inl (G.2 3, 40, .inl (upd (sMv tx nn i) (nn - i) ((sMv tx nn i) (nn - i - 1))))))[k10]? = some (b, .inr (2, [.ref ch, .int (nI nn)])) := z_other (by first | assumption | omega) hh10
        have hh11 : ((w.set k11 (ch, .inl (G.2 3, 40, .inl (sMv tx nn i)))).set k11 (ch, .inl (G.2 3, 40, .inl (upd (sMv tx nn i) (nn - i) ((sMv tx nn i) (nn - i - 1))))))[k11]? = some (ch, .inl (G.2 3, 40, .inl (upd (sMv tx nn i) (nn - i) ((sMv tx nn i) (nn - i - 1))))) := z_self hh11
        refine lv_iinc (v := (nI (nn - i) + (-1))) (lv' := [(3, .int (nI (nn - i) + (-1))), (0, .ref b), (1, .int (nI pn)), (2, .int a2)]) hx hb dX1_put_24 hl (k := 3) rfl (by first | exact rfl | rfl) (by decide) rfl (fun ls hl => ?_)
        refine lv_goto (tgt := 5) hx hb dX1_put_27 (by decide) ?_
        have hl2 := lv_sub (l' := [(0, .ref b), (1, .int (nI pn)), (2, .int a2), (3, .int (nI (nn - i) + (-1)))]) hl [1, 2, 3, 0] rfl
        have e_3 : nI (nn - i) + (-1) = nI (nn - (i + 1)) := by rw [show nn - i = nn - (i + 1) + 1 by omega]; exact (Int32.sub_eq_add_neg _ _).symm.trans (nI_pred _)
        rw [e_3] at hl2
        have hP : va_P G.1 vwCl (w.set k11 (ch, .inl (G.2 3, 40, .inl (sMv tx nn (i + 1))))) Hz := by
            rw [← sMv_s (by omega)]
            rw [List.set_set] at hP
            exact hP
        have hD : va_D A (w.set k11 (ch, .inl (G.2 3, 40, .inl (sMv tx nn (i + 1))))) := by
            rw [← sMv_s (by omega)]
            rw [List.set_set] at hD
            exact hD
        exact ih (i + 1) (by omega) (by omega)  _ _ hP hD hS ls hl2
  have hP : va_P G.1 vwCl (w.set k11 (ch, .inl (G.2 3, 40, .inl (sMv tx nn 0)))) s.heap := by rw [sMv_0, z_same hh11]; exact hP
  have hD : va_D A (w.set k11 (ch, .inl (G.2 3, 40, .inl (sMv tx nn 0)))) := by rw [sMv_0, z_same hh11]; exact hD
  exact key_5 ((nn - pn) + 1) 0 (Nat.zero_le _) (by omega)  _ _ hP hD hS ls (lv_sub hl [1, 2, 3, 0] rfl)
