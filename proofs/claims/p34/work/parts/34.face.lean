set_option maxHeartbeats 4000000 in
set_option maxRecDepth 100000 in
theorem c_X6_obstacle (l : Launch) (hst : l.stackTraces = false) (G : zG) (d : Nat) (r A : Nat → Nat) (mc : Nat → Int32) (g : Nat → Nat → Int32) (N : Nat → Nat) (T : Nat → Nat → Int32) (w : va_W) (K : Nat) (a1 a2 : Int32) (sz : Nat) (hC : sCQ G d r A mc g N T w) (hI : sInv N T K 0) (hKk : K ≤ 511) : vx_Met l yX6_obstacle wsX6_obstacle ({ frames := 7, cells := 2, slots := 12, locals := 110 }) (va_Pc [.ref (r 0), .int a1, .int a2] (zCu G d w sz)) (va_Qi (fun (r1 : Int32) (w1 : va_W) => sK1 ((sIx a1 9) && (sIx a2 8)) = 0 ∧ r1 = sBars N T a1 a2 ∧ sCO G d r N T w1) (zB G (va_A w sz)) (va_A w sz)) (zXk ["java/lang/IndexOutOfBoundsException"] (sK1 ((sIx a1 9) && (sIx a2 8)))) (2) (12) (va_A w sz) := by
  refine vx_ofW (cc := cX6_obstacle) (maxL := 3) (ret := (some .int)) (by decide) rfl ?_
  intro p e s m args below meth c s₁ B hml hxt hv
  obtain ⟨rfl, hsz, hP, hK, hD0, hZ⟩ := hv
  have hx := B.exec
  have hb := B.bytes
  have hr := B.returns
  have hts := atoms_spec (ws := wsX6_obstacle) B.pre
  have hown : s.vm.findClass RX6 = some m.cls := findClass_of_methodNamed B.named
  have hlocks := B.notSynchronized
  have hNs := hZ.1.2.2
  have hS0 : va_S (fun _ => False) s.heap s.heap [] := va_S.rf
  subst hsz
  have hD := hD0.self (sz := s.heap.size)
  generalize hAe : va_A w s.heap.size = Aw at hD hZ ⊢
  have hA : ∀ q : Nat, s.heap.size ≤ q → Aw q := fun q h => by rw [← hAe]; exact Or.inr h
  have hS : va_S Aw s.heap s.heap [] := va_S.rf
  have hl := lv_entry ([.ref (r 0), .int a1, .int a2]) (n := 3) (Nat.le_of_ble_eq_true rfl)
  rw [lg_entry_eq]
  generalize (lg_sl ([.ref (r 0), .int a1, .int a2]) ++ List.replicate (3 - (lg_sl ([.ref (r 0), .int a1, .int a2])).length) Slot.unset).toArray = ls at hl ⊢
  have hl : lv_has ls 3 [(0, .ref (r 0)), (1, .int a1), (2, .int a2)] := hl
  have hN := hI.sm
  obtain ⟨hn2, hn3, hn4, hn5, hn6, hn0⟩ := id hN
  have h1n := sN1_c hI hKk
  refine lv_iload_n hx hb dX6_obstacle_0 rfl (lv_at hl 1 rfl) ?_
  refine z_chk (vx_runS (As := [.int a1]) (rest := []) ⟨hx, hb, hml, hown, hts⟩ (c_X6_checkPerson l hst G w a1) (va_cwS 1 hts gX6_obstacle_X6_checkPerson rfl rfl rfl (by decide +kernel) ⟨Nat.le_of_ble_eq_true rfl, Nat.le_of_ble_eq_true rfl⟩) (z_rs hK hP hZ.1 hS) rfl rfl hl.1 rfl (lv_room (Nat.le_of_ble_eq_true rfl)) dX6_obstacle_1 ⟨(show 0 + 1 ≤ 2 by omega), (show 0 + 6 ≤ 12 by omega)⟩) hP hS0 (fun zno => ⟨0, (show sK1 ((sIx a1 9) && (sIx a2 8)) = (1 : Int32) from by simp [sK1, sK2, sK3, zno]), rfl⟩) (fun x h => (hxt x h).elim) hlocks (show 0 + 1 ≤ 2 by omega) (show 0 + 6 ≤ 12 by omega) (fun zok_1 Hz Lz hP hS0 => ?_)
  have hS : va_S Aw s.heap Hz Lz := z_SF hS0
  refine lv_iload_n hx hb dX6_obstacle_4 rfl (lv_at hl 2 rfl) ?_
  refine z_chk (vx_runS (As := [.int a2]) (rest := []) ⟨hx, hb, hml, hown, hts⟩ (c_X6_checkValve l hst G w a2) (va_cwS 1 hts gX6_obstacle_X6_checkValve rfl rfl rfl (by decide +kernel) ⟨Nat.le_of_ble_eq_true rfl, Nat.le_of_ble_eq_true rfl⟩) (z_rs hK hP hZ.1 hS) rfl rfl hl.1 rfl (lv_room (Nat.le_of_ble_eq_true rfl)) dX6_obstacle_5 ⟨(show 0 + 1 + 1 ≤ 2 by omega), (show 0 + 6 + 6 ≤ 12 by omega)⟩) hP hS0 (fun zno => ⟨0, (show sK1 ((sIx a1 9) && (sIx a2 8)) = (1 : Int32) from by simp [sK1, sK2, sK3, zok_1, zno]), rfl⟩) (fun x h => (hxt x h).elim) hlocks (show 0 + 1 + 1 ≤ 2 by omega) (show 0 + 6 + 6 ≤ 12 by omega) (fun zok_5 Hz Lz hP hS0 => ?_)
  have hS : va_S Aw s.heap Hz Lz := z_SF hS0
  have hk0 : sK1 ((sIx a1 9) && (sIx a2 8)) = 0 := by simp [sK1, sK2, sK3, zok_1, zok_5]
  refine lv_aload_n hx hb dX6_obstacle_8 rfl (lv_at hl 0 rfl) ?_
  refine lv_iload_n hx hb dX6_obstacle_9 rfl (lv_at hl 1 rfl) ?_
  refine lv_iload_n hx hb dX6_obstacle_10 rfl (lv_at hl 2 rfl) ?_
  have hh0 : w[0]? = some (r 0, .inr (7, [.ref (r 1), .ref (r 2), .ref (r 3), .ref (r 4), .ref (r 5), .ref (r 6), .ref (r 7), .ref (r 8), .ref (r 9), .ref (r 10), .int (nI (N 0)), .int ((T 19) 0), .int ((T 19) 1), .int (nI (N 6))])) := hC.1.1 0 (by omega)
  refine z_csi (va_Run.run (va_runV (As := [.int a1, .int a2]) (rest := []) ⟨hx, hb, hml, hown, hts⟩ (c_X6_findObstacle l G d r A mc g N T w a1 a2 hC hn2 (sIx_in.mp zok_1)) (cwV 2 hts gX6_obstacle_X6_findObstacle rfl rfl rfl (by decide +kernel) ⟨Nat.le_of_ble_eq_true rfl, Nat.le_of_ble_eq_true rfl⟩) (z_rv hK hP (ci := 7) (q0 := 0) rfl hh0 hP hZ.1 hS) rfl rfl hl.1 rfl (lv_room (Nat.le_of_ble_eq_true rfl)) dX6_obstacle_11 ⟨(show 0 + 1 + 1 + 0 ≤ 2 by omega), (show 0 + 6 + 6 + 0 ≤ 12 by omega)⟩)) (fun zr_1 hzr_1 => ?_)
  subst hzr_1
  exact vx_ret (z_widen (k := 2) (n := 12) (show 0 + 1 + 1 ≤ 2 by omega) (show 0 + 6 + 6 ≤ 12 by omega) (W.iret (v := sBars N T a1 a2) hx hb hr (fun t ht hW => ⟨⟨sBars N T a1 a2, w, rfl, ⟨hk0, rfl, _, _, _, hC⟩, ⟨by rw [ht]; exact hP, hD⟩⟩, hS.F ht⟩) hS.2.2 dX6_obstacle_14 hlocks))

set_option maxHeartbeats 4000000 in
set_option maxRecDepth 100000 in
theorem c_X6_turn (l : Launch) (hst : l.stackTraces = false) (G : zG) (d : Nat) (r A : Nat → Nat) (mc : Nat → Int32) (g : Nat → Nat → Int32) (N : Nat → Nat) (T : Nat → Nat → Int32) (w : va_W) (K : Nat) (a1 a2 : Int32) (b3 : Bool) (sz : Nat) (hC : sCQ G d r A mc g N T w) (hI : sInv N T K 0) (hKk : K ≤ 511) : vx_Met l yX6_turn wsX6_turn ({ frames := 7, cells := (8 + zmc (sK2 ((sIx a1 9) && (sIx a2 8)) (decide (sBars N T a1 a2 = 0))) (N 1) ((sTurn N T a1 a2 b3).1 1)), slots := (200 + zms (sK2 ((sIx a1 9) && (sIx a2 8)) (decide (sBars N T a1 a2 = 0))) (N 1) ((sTurn N T a1 a2 b3).1 1)), locals := 134 }) (va_Pc [.ref (r 0), .int a1, .int a2, .int (zb b3)] (zCu G d w sz)) (va_Qi (fun (r1 : Int32) (w1 : va_W) => sK2 ((sIx a1 9) && (sIx a2 8)) (decide (sBars N T a1 a2 = 0)) = 0 ∧ r1 = zb (!decide (T 3 a2.toNatClampNeg = zb b3)) ∧ sCO G d r ((sTurn N T a1 a2 b3).1) ((sTurn N T a1 a2 b3).2) w1) (zB G (va_A w sz)) (va_A w sz)) (zXk ["java/lang/IndexOutOfBoundsException", "java/lang/IllegalStateException"] (sK2 ((sIx a1 9) && (sIx a2 8)) (decide (sBars N T a1 a2 = 0)))) ((8 + zmc (sK2 ((sIx a1 9) && (sIx a2 8)) (decide (sBars N T a1 a2 = 0))) (N 1) ((sTurn N T a1 a2 b3).1 1))) ((200 + zms (sK2 ((sIx a1 9) && (sIx a2 8)) (decide (sBars N T a1 a2 = 0))) (N 1) ((sTurn N T a1 a2 b3).1 1))) (va_A w sz) := by
  refine vx_ofW (cc := cX6_turn) (maxL := 4) (ret := (some .boolean)) (by decide) rfl ?_
  intro p e s m args below meth c s₁ B hml hxt hv
  obtain ⟨rfl, hsz, hP, hK, hD0, hZ⟩ := hv
  have hx := B.exec
  have hb := B.bytes
  have hr := B.returns
  have hts := atoms_spec (ws := wsX6_turn) B.pre
  have hown : s.vm.findClass RX6 = some m.cls := findClass_of_methodNamed B.named
  have hlocks := B.notSynchronized
  have hNs := hZ.1.2.2
  have hS0 : va_S (fun _ => False) s.heap s.heap [] := va_S.rf
  subst hsz
  have hD := hD0.self (sz := s.heap.size)
  generalize hAe : va_A w s.heap.size = Aw at hD hZ ⊢
  have hA : ∀ q : Nat, s.heap.size ≤ q → Aw q := fun q h => by rw [← hAe]; exact Or.inr h
  have hS : va_S Aw s.heap s.heap [] := va_S.rf
  have hl := lv_entry ([.ref (r 0), .int a1, .int a2, .int (zb b3)]) (n := 4) (Nat.le_of_ble_eq_true rfl)
  rw [lg_entry_eq]
  generalize (lg_sl ([.ref (r 0), .int a1, .int a2, .int (zb b3)]) ++ List.replicate (4 - (lg_sl ([.ref (r 0), .int a1, .int a2, .int (zb b3)])).length) Slot.unset).toArray = ls at hl ⊢
  have hl : lv_has ls 4 [(0, .ref (r 0)), (1, .int a1), (2, .int a2), (3, .int (zb b3))] := hl
  have hN := hI.sm
  obtain ⟨hn2, hn3, hn4, hn5, hn6, hn0⟩ := id hN
  have h1n := sN1_c hI hKk
  refine lv_iload_n hx hb dX6_turn_0 rfl (lv_at hl 1 rfl) ?_
  refine z_chk (vx_runS (As := [.int a1]) (rest := []) ⟨hx, hb, hml, hown, hts⟩ (c_X6_checkPerson l hst G w a1) (va_cwS 1 hts gX6_turn_X6_checkPerson rfl rfl rfl (by decide +kernel) ⟨Nat.le_of_ble_eq_true rfl, Nat.le_of_ble_eq_true rfl⟩) (z_rs hK hP hZ.1 hS) rfl rfl hl.1 rfl (lv_room (Nat.le_of_ble_eq_true rfl)) dX6_turn_1 ⟨(show 0 + 1 ≤ (8 + zmc (sK2 ((sIx a1 9) && (sIx a2 8)) (decide (sBars N T a1 a2 = 0))) (N 1) ((sTurn N T a1 a2 b3).1 1)) by first | omega | (rw [zmc_0 hk0]; omega) | (rw [zms_0 hk0]; omega)), (show 0 + 6 ≤ (200 + zms (sK2 ((sIx a1 9) && (sIx a2 8)) (decide (sBars N T a1 a2 = 0))) (N 1) ((sTurn N T a1 a2 b3).1 1)) by first | omega | (rw [zmc_0 hk0]; omega) | (rw [zms_0 hk0]; omega))⟩) hP hS0 (fun zno => ⟨0, (show sK2 ((sIx a1 9) && (sIx a2 8)) (decide (sBars N T a1 a2 = 0)) = (1 : Int32) from by simp [sK1, sK2, sK3, zno]), rfl⟩) (fun x h => (hxt x h).elim) hlocks (show 0 + 1 ≤ (8 + zmc (sK2 ((sIx a1 9) && (sIx a2 8)) (decide (sBars N T a1 a2 = 0))) (N 1) ((sTurn N T a1 a2 b3).1 1)) by omega) (show 0 + 6 ≤ (200 + zms (sK2 ((sIx a1 9) && (sIx a2 8)) (decide (sBars N T a1 a2 = 0))) (N 1) ((sTurn N T a1 a2 b3).1 1)) by omega) (fun zok_1 Hz Lz hP hS0 => ?_)
  have hS : va_S Aw s.heap Hz Lz := z_SF hS0
  refine lv_iload_n hx hb dX6_turn_4 rfl (lv_at hl 2 rfl) ?_
  refine z_chk (vx_runS (As := [.int a2]) (rest := []) ⟨hx, hb, hml, hown, hts⟩ (c_X6_checkValve l hst G w a2) (va_cwS 1 hts gX6_turn_X6_checkValve rfl rfl rfl (by decide +kernel) ⟨Nat.le_of_ble_eq_true rfl, Nat.le_of_ble_eq_true rfl⟩) (z_rs hK hP hZ.1 hS) rfl rfl hl.1 rfl (lv_room (Nat.le_of_ble_eq_true rfl)) dX6_turn_5 ⟨(show 0 + 1 + 1 ≤ (8 + zmc (sK2 ((sIx a1 9) && (sIx a2 8)) (decide (sBars N T a1 a2 = 0))) (N 1) ((sTurn N T a1 a2 b3).1 1)) by first | omega | (rw [zmc_0 hk0]; omega) | (rw [zms_0 hk0]; omega)), (show 0 + 6 + 6 ≤ (200 + zms (sK2 ((sIx a1 9) && (sIx a2 8)) (decide (sBars N T a1 a2 = 0))) (N 1) ((sTurn N T a1 a2 b3).1 1)) by first | omega | (rw [zmc_0 hk0]; omega) | (rw [zms_0 hk0]; omega))⟩) hP hS0 (fun zno => ⟨0, (show sK2 ((sIx a1 9) && (sIx a2 8)) (decide (sBars N T a1 a2 = 0)) = (1 : Int32) from by simp [sK1, sK2, sK3, zok_1, zno]), rfl⟩) (fun x h => (hxt x h).elim) hlocks (show 0 + 1 + 1 ≤ (8 + zmc (sK2 ((sIx a1 9) && (sIx a2 8)) (decide (sBars N T a1 a2 = 0))) (N 1) ((sTurn N T a1 a2 b3).1 1)) by omega) (show 0 + 6 + 6 ≤ (200 + zms (sK2 ((sIx a1 9) && (sIx a2 8)) (decide (sBars N T a1 a2 = 0))) (N 1) ((sTurn N T a1 a2 b3).1 1)) by omega) (fun zok_5 Hz Lz hP hS0 => ?_)
  have hS : va_S Aw s.heap Hz Lz := z_SF hS0
  refine lv_aload_n hx hb dX6_turn_8 rfl (lv_at hl 0 rfl) ?_
  refine lv_iload_n hx hb dX6_turn_9 rfl (lv_at hl 1 rfl) ?_
  refine lv_iload_n hx hb dX6_turn_10 rfl (lv_at hl 2 rfl) ?_
  have hh0 : w[0]? = some (r 0, .inr (7, [.ref (r 1), .ref (r 2), .ref (r 3), .ref (r 4), .ref (r 5), .ref (r 6), .ref (r 7), .ref (r 8), .ref (r 9), .ref (r 10), .int (nI (N 0)), .int ((T 19) 0), .int ((T 19) 1), .int (nI (N 6))])) := hC.1.1 0 (by omega)
  refine z_csi (va_Run.run (va_runV (As := [.int a1, .int a2]) (rest := []) ⟨hx, hb, hml, hown, hts⟩ (c_X6_findObstacle l G d r A mc g N T w a1 a2 hC hn2 (sIx_in.mp zok_1)) (cwV 2 hts gX6_turn_X6_findObstacle rfl rfl rfl (by decide +kernel) ⟨Nat.le_of_ble_eq_true rfl, Nat.le_of_ble_eq_true rfl⟩) (z_rv hK hP (ci := 7) (q0 := 0) rfl hh0 hP hZ.1 hS) rfl rfl hl.1 rfl (lv_room (Nat.le_of_ble_eq_true rfl)) dX6_turn_11 ⟨(show 0 + 1 + 1 + 0 ≤ (8 + zmc (sK2 ((sIx a1 9) && (sIx a2 8)) (decide (sBars N T a1 a2 = 0))) (N 1) ((sTurn N T a1 a2 b3).1 1)) by first | omega | (rw [zmc_0 hk0]; omega) | (rw [zms_0 hk0]; omega)), (show 0 + 6 + 6 + 0 ≤ (200 + zms (sK2 ((sIx a1 9) && (sIx a2 8)) (decide (sBars N T a1 a2 = 0))) (N 1) ((sTurn N T a1 a2 b3).1 1)) by first | omega | (rw [zmc_0 hk0]; omega) | (rw [zms_0 hk0]; omega))⟩)) (fun zr_1 hzr_1 => ?_)
  subst hzr_1
  refine lv_if_eq (tgt := 27) hx hb dX6_turn_14 (by decide) (fun zc_2 => ?_) (fun zc_2 => ?_)
  · skip
    have hk0 : sK2 ((sIx a1 9) && (sIx a2 8)) (decide (sBars N T a1 a2 = 0)) = 0 := by simp [sK1, sK2, sK3, zok_1, zok_5, zc_2]
    refine lv_aload_n hx hb dX6_turn_27 rfl (lv_at hl 0 rfl) ?_
    refine lv_iload_n hx hb dX6_turn_28 rfl (lv_at hl 1 rfl) ?_
    refine lv_iload_n hx hb dX6_turn_29 rfl (lv_at hl 2 rfl) ?_
    refine lv_iload_n hx hb dX6_turn_30 rfl (lv_at hl 3 rfl) ?_
    refine z_cui (va_runV (As := [.int a1, .int a2, .int (zb b3)]) (rest := []) ⟨hx, hb, hml, hown, hts⟩ (c_X6_setValve l G d r A mc g N T w a1 a2 b3 Hz.size hC hN (sIx_in.mp zok_5) h1n) (cwV 3 hts gX6_turn_X6_setValve rfl rfl rfl (by decide +kernel) ⟨Nat.le_of_ble_eq_true rfl, Nat.le_of_ble_eq_true rfl⟩) (z_wv hK hP (ci := 7) (q0 := 0) rfl hh0 hP hD hZ hS hA) rfl rfl hl.1 rfl (lv_room (Nat.le_of_ble_eq_true rfl)) dX6_turn_31 ⟨(show 0 + 1 + 1 + (zpc ((sTurn N T a1 a2 b3).1 1) - zpc (N 1)) ≤ (8 + zmc (sK2 ((sIx a1 9) && (sIx a2 8)) (decide (sBars N T a1 a2 = 0))) (N 1) ((sTurn N T a1 a2 b3).1 1)) by first | omega | (rw [zmc_0 hk0]; omega) | (rw [zms_0 hk0]; omega)), (show 0 + 6 + 6 + (zps ((sTurn N T a1 a2 b3).1 1) - zps (N 1)) ≤ (200 + zms (sK2 ((sIx a1 9) && (sIx a2 8)) (decide (sBars N T a1 a2 = 0))) (N 1) ((sTurn N T a1 a2 b3).1 1)) by first | omega | (rw [zmc_0 hk0]; omega) | (rw [zms_0 hk0]; omega))⟩) hD hS hA (fun zr_3 zw_3 Hz Lz hw hP hD hS => ?_)
    obtain ⟨he3, zA_3, mc, g, hC, heA_3⟩ := hw
    rw [he3]
    exact vx_ret (z_widen (k := (8 + zmc (sK2 ((sIx a1 9) && (sIx a2 8)) (decide (sBars N T a1 a2 = 0))) (N 1) ((sTurn N T a1 a2 b3).1 1))) (n := (200 + zms (sK2 ((sIx a1 9) && (sIx a2 8)) (decide (sBars N T a1 a2 = 0))) (N 1) ((sTurn N T a1 a2 b3).1 1))) (show 0 + 1 + 1 + (zpc ((sTurn N T a1 a2 b3).1 1) - zpc (N 1)) ≤ (8 + zmc (sK2 ((sIx a1 9) && (sIx a2 8)) (decide (sBars N T a1 a2 = 0))) (N 1) ((sTurn N T a1 a2 b3).1 1)) by first | omega | (rw [zmc_0 hk0]; omega) | (rw [zms_0 hk0]; omega)) (show 0 + 6 + 6 + (zps ((sTurn N T a1 a2 b3).1 1) - zps (N 1)) ≤ (200 + zms (sK2 ((sIx a1 9) && (sIx a2 8)) (decide (sBars N T a1 a2 = 0))) (N 1) ((sTurn N T a1 a2 b3).1 1)) by first | omega | (rw [zmc_0 hk0]; omega) | (rw [zms_0 hk0]; omega)) (W.zret (v := zb (!decide (T 3 a2.toNatClampNeg = zb b3))) hx hb hr (zn_zb _) (fun t ht hW => ⟨⟨zb (!decide (T 3 a2.toNatClampNeg = zb b3)), zw_3, rfl, ⟨hk0, rfl, _, _, _, hC⟩, ⟨by rw [ht]; exact hP, hD⟩⟩, hS.F ht⟩) hS.2.2 dX6_turn_34 hlocks))
  · skip
    obtain ⟨sa, hsa⟩ := zText hNs (i := 2) (q := ("BoilerLog", 117, "the person may not turn the valve")) rfl
    exact vx_throwS (own := RX6) (cls := "java/lang/IllegalStateException") (names := ["java/lang/RuntimeException", "java/lang/Exception"]) (A := fun _ => False) hx hb hst hown (by decide) (by decide) (hts _ (List.mem_of_getElem? (i := 1) rfl)) (hts _ (List.mem_of_getElem? (i := 2) rfl)) hsa (zThrow_all (fun w h => hts w (List.mem_cons_of_mem _ (List.mem_append_left _ (List.mem_append_right _ h)))) zBad_99 hNs) zGood_99 (hZ.1.1.narrow (fun _ h => h.elim)) (hZ.1.2.1.narrow (fun _ h => h.elim)) hS0 (by rw [hml]; exact hl.1) dX6_turn_17 dX6_turn_20 dX6_turn_21 dX6_turn_23 dX6_turn_26 (fun x h => (hxt x h).elim) (Nat.le_of_ble_eq_true rfl) (Nat.le_of_ble_eq_true rfl) (show 0 + 1 + 1 + 1 ≤ (8 + zmc (sK2 ((sIx a1 9) && (sIx a2 8)) (decide (sBars N T a1 a2 = 0))) (N 1) ((sTurn N T a1 a2 b3).1 1)) by omega) (show 0 + 6 + 6 + 6 ≤ (200 + zms (sK2 ((sIx a1 9) && (sIx a2 8)) (decide (sBars N T a1 a2 = 0))) (N 1) ((sTurn N T a1 a2 b3).1 1)) by omega) hlocks (fun t _ hz hq => ⟨1, (show sK2 ((sIx a1 9) && (sIx a2 8)) (decide (sBars N T a1 a2 = 0)) = (2 : Int32) from by simp [sK1, sK2, sK3, zok_1, zok_5, zc_2]), rfl, ⟨Nat.le_trans hS0.1 hz, fun q hq1 _ => (hq q (Nat.lt_of_lt_of_le hq1 hS0.1)).trans (hS0.2.1 q hq1 id)⟩⟩) (fun z hz => (hS0.2.2 z hz).elim) (show 0 + 1 + 1 + 1 ≤ (8 + zmc (sK2 ((sIx a1 9) && (sIx a2 8)) (decide (sBars N T a1 a2 = 0))) (N 1) ((sTurn N T a1 a2 b3).1 1)) by omega) (show 0 + 6 + 6 + 6 ≤ (200 + zms (sK2 ((sIx a1 9) && (sIx a2 8)) (decide (sBars N T a1 a2 = 0))) (N 1) ((sTurn N T a1 a2 b3).1 1)) by omega)

set_option maxHeartbeats 4000000 in
set_option maxRecDepth 100000 in
theorem c_X6_isOpen (l : Launch) (hst : l.stackTraces = false) (G : zG) (d : Nat) (r A : Nat → Nat) (mc : Nat → Int32) (g : Nat → Nat → Int32) (N : Nat → Nat) (T : Nat → Nat → Int32) (w : va_W) (K : Nat) (a1 : Int32) (sz : Nat) (hC : sCQ G d r A mc g N T w) (hI : sInv N T K 0) (hKk : K ≤ 511) : vx_Met l yX6_isOpen wsX6_isOpen ({ frames := 7, cells := 2, slots := 12, locals := 110 }) (va_Pc [.ref (r 0), .int a1] (zCu G d w sz)) (va_Qi (fun (r1 : Int32) (w1 : va_W) => sK1 (sIx a1 8) = 0 ∧ r1 = T 3 a1.toNatClampNeg ∧ sCO G d r N T w1) (zB G (va_A w sz)) (va_A w sz)) (zXk ["java/lang/IndexOutOfBoundsException"] (sK1 (sIx a1 8))) (2) (12) (va_A w sz) := by
  refine vx_ofW (cc := cX6_isOpen) (maxL := 2) (ret := (some .boolean)) (by decide) rfl ?_
  intro p e s m args below meth c s₁ B hml hxt hv
  obtain ⟨rfl, hsz, hP, hK, hD0, hZ⟩ := hv
  have hx := B.exec
  have hb := B.bytes
  have hr := B.returns
  have hts := atoms_spec (ws := wsX6_isOpen) B.pre
  have hown : s.vm.findClass RX6 = some m.cls := findClass_of_methodNamed B.named
  have hlocks := B.notSynchronized
  have hi_X5 : ∀ w ∈ u_ws RX5 TX5 3, w ∈ wsX6_isOpen := (fun _ h => List.mem_cons_of_mem _ (List.mem_append_left _ (List.mem_append_right _ h)))
  have hi_X6 : ∀ w ∈ u_ws RX6 TX6 14, w ∈ wsX6_isOpen := (fun _ h => List.mem_cons_of_mem _ (List.mem_append_left _ (List.mem_append_left _ (List.mem_append_right _ h))))
  have hNs := hZ.1.2.2
  have hS0 : va_S (fun _ => False) s.heap s.heap [] := va_S.rf
  subst hsz
  have hD := hD0.self (sz := s.heap.size)
  generalize hAe : va_A w s.heap.size = Aw at hD hZ ⊢
  have hA : ∀ q : Nat, s.heap.size ≤ q → Aw q := fun q h => by rw [← hAe]; exact Or.inr h
  have hS : va_S Aw s.heap s.heap [] := va_S.rf
  have hl := lv_entry ([.ref (r 0), .int a1]) (n := 2) (Nat.le_of_ble_eq_true rfl)
  rw [lg_entry_eq]
  generalize (lg_sl ([.ref (r 0), .int a1]) ++ List.replicate (2 - (lg_sl ([.ref (r 0), .int a1])).length) Slot.unset).toArray = ls at hl ⊢
  have hl : lv_has ls 2 [(0, .ref (r 0)), (1, .int a1)] := hl
  have hN := hI.sm
  obtain ⟨hn2, hn3, hn4, hn5, hn6, hn0⟩ := id hN
  have h1n := sN1_c hI hKk
  refine lv_iload_n hx hb dX6_isOpen_0 rfl (lv_at hl 1 rfl) ?_
  refine z_chk (vx_runS (As := [.int a1]) (rest := []) ⟨hx, hb, hml, hown, hts⟩ (c_X6_checkValve l hst G w a1) (va_cwS 1 hts gX6_isOpen_X6_checkValve rfl rfl rfl (by decide +kernel) ⟨Nat.le_of_ble_eq_true rfl, Nat.le_of_ble_eq_true rfl⟩) (z_rs hK hP hZ.1 hS) rfl rfl hl.1 rfl (lv_room (Nat.le_of_ble_eq_true rfl)) dX6_isOpen_1 ⟨(show 0 + 1 ≤ 2 by omega), (show 0 + 6 ≤ 12 by omega)⟩) hP hS0 (fun zno => ⟨0, (show sK1 (sIx a1 8) = (1 : Int32) from by simp [sK1, sK2, sK3, zno]), rfl⟩) (fun x h => (hxt x h).elim) hlocks (show 0 + 1 ≤ 2 by omega) (show 0 + 6 ≤ 12 by omega) (fun zok_1 Hz Lz hP hS0 => ?_)
  have hS : va_S Aw s.heap Hz Lz := z_SF hS0
  have hk0 : sK1 (sIx a1 8) = 0 := by simp [sK1, sK2, sK3, zok_1]
  refine lv_aload_n hx hb dX6_isOpen_4 rfl (lv_at hl 0 rfl) ?_
  have hh0 : w[0]? = some (r 0, .inr (7, [.ref (r 1), .ref (r 2), .ref (r 3), .ref (r 4), .ref (r 5), .ref (r 6), .ref (r 7), .ref (r 8), .ref (r 9), .ref (r 10), .int (nI (N 0)), .int ((T 19) 0), .int ((T 19) 1), .int (nI (N 6))])) := hC.1.1 0 (by omega)
  refine va_get (D := G.1) (ci := 7) (v := .ref (r 1)) (C := RX6) (T := TX6) (N := 14) hx hb hts hi_X6 hown hK hP 0 hh0 rfl 0 (by decide) (hts (.fieldLink RX6 11 "BoilerLog" "valves" "[LBoilerLog$Valve;") (List.mem_of_getElem? (i := 1) rfl)) (fun _ h9 => h9) rfl dX6_isOpen_5 ?_
  refine lv_iload_n hx hb dX6_isOpen_8 rfl (lv_at hl 1 rfl) ?_
  have hh1 : w[1]? = some (r 1, .inl (G.2 4, 8, .inr (.inr (.inr (.inr (cGa A 0 8)))))) := hC.1.1 1 (by omega)
  refine va_aldq hx hb hK hP 1 4 hh1 rfl (by first | assumption | exact sIx_in.mp (by assumption) | exact vp_in_nI (by omega) (by omega)) dX6_isOpen_9 ?_
  refine W.eq (g2 := F0 m 10 ls [.ref (A a1.toNatClampNeg)]) (by first | (rw [cGa_0 (zCl (sIx_in.mp zok_1) (by omega)).1]; done) | (rw [cGa_0 (zCl (sIx_in.mp zok_1) (by omega)).1]; rfl)) ?_
  obtain ⟨kz1, zk1, hz1⟩ := hC.1.2.1 a1.toNatClampNeg (Or.inl (zCl (sIx_in.mp zok_1) (by omega)).1)
  rw [cE_val (zCl (sIx_in.mp zok_1) (by omega)).1] at hz1
  have hz1 : w[kz1]? = some (A a1.toNatClampNeg, .inr (6, [.int ((T 3) a1.toNatClampNeg), .int ((T 4) a1.toNatClampNeg), .int ((T 5) a1.toNatClampNeg)])) := hz1
  refine va_getN (D := G.1) (ci := 6) (v := .int ((T 3) a1.toNatClampNeg)) (C := RX5) (T := TX5) (N := 3) hx hb hts hi_X5 hown hK hP kz1 hz1 rfl 0 (by decide) (va_Nw.use rfl (hNs.1 _ (List.mem_append_left _ (List.mem_of_getElem? (i := 10) rfl)))) (fun _ h9 => h9) rfl dX6_isOpen_10 ?_
  exact vx_ret (z_widen (k := 2) (n := 12) (show 0 + 1 ≤ 2 by omega) (show 0 + 6 ≤ 12 by omega) (W.zret (v := (T 3) a1.toNatClampNeg) hx hb hr (by rcases (hI.2.1 a1.toNatClampNeg).2.1 with h | h <;> rw [h] <;> rfl) (fun t ht hW => ⟨⟨(T 3) a1.toNatClampNeg, w, rfl, ⟨hk0, rfl, _, _, _, hC⟩, ⟨by rw [ht]; exact hP, hD⟩⟩, hS.F ht⟩) hS.2.2 dX6_isOpen_13 hlocks))

set_option maxHeartbeats 4000000 in
set_option maxRecDepth 100000 in
theorem c_X6_level (l : Launch) (hst : l.stackTraces = false) (G : zG) (d : Nat) (r A : Nat → Nat) (mc : Nat → Int32) (g : Nat → Nat → Int32) (N : Nat → Nat) (T : Nat → Nat → Int32) (w : va_W) (K : Nat) (a1 : Int32) (sz : Nat) (hC : sCQ G d r A mc g N T w) (hI : sInv N T K 0) (hKk : K ≤ 511) : vx_Met l yX6_level wsX6_level ({ frames := 7, cells := 2, slots := 12, locals := 110 }) (va_Pc [.ref (r 0), .int a1] (zCu G d w sz)) (va_Qi (fun (r1 : Int32) (w1 : va_W) => sK1 (sIx a1 3) = 0 ∧ r1 = T 6 a1.toNatClampNeg ∧ sCO G d r N T w1) (zB G (va_A w sz)) (va_A w sz)) (zXk ["java/lang/IndexOutOfBoundsException"] (sK1 (sIx a1 3))) (2) (12) (va_A w sz) := by
  refine vx_ofW (cc := cX6_level) (maxL := 2) (ret := (some .int)) (by decide) rfl ?_
  intro p e s m args below meth c s₁ B hml hxt hv
  obtain ⟨rfl, hsz, hP, hK, hD0, hZ⟩ := hv
  have hx := B.exec
  have hb := B.bytes
  have hr := B.returns
  have hts := atoms_spec (ws := wsX6_level) B.pre
  have hown : s.vm.findClass RX6 = some m.cls := findClass_of_methodNamed B.named
  have hlocks := B.notSynchronized
  have hi_X6 : ∀ w ∈ u_ws RX6 TX6 14, w ∈ wsX6_level := (fun _ h => List.mem_cons_of_mem _ (List.mem_append_left _ (List.mem_append_right _ h)))
  have hNs := hZ.1.2.2
  have hS0 : va_S (fun _ => False) s.heap s.heap [] := va_S.rf
  subst hsz
  have hD := hD0.self (sz := s.heap.size)
  generalize hAe : va_A w s.heap.size = Aw at hD hZ ⊢
  have hA : ∀ q : Nat, s.heap.size ≤ q → Aw q := fun q h => by rw [← hAe]; exact Or.inr h
  have hS : va_S Aw s.heap s.heap [] := va_S.rf
  have hl := lv_entry ([.ref (r 0), .int a1]) (n := 2) (Nat.le_of_ble_eq_true rfl)
  rw [lg_entry_eq]
  generalize (lg_sl ([.ref (r 0), .int a1]) ++ List.replicate (2 - (lg_sl ([.ref (r 0), .int a1])).length) Slot.unset).toArray = ls at hl ⊢
  have hl : lv_has ls 2 [(0, .ref (r 0)), (1, .int a1)] := hl
  have hN := hI.sm
  obtain ⟨hn2, hn3, hn4, hn5, hn6, hn0⟩ := id hN
  have h1n := sN1_c hI hKk
  refine lv_iload_n hx hb dX6_level_0 rfl (lv_at hl 1 rfl) ?_
  refine z_chk (vx_runS (As := [.int a1]) (rest := []) ⟨hx, hb, hml, hown, hts⟩ (c_X6_checkVessel l hst G w a1) (va_cwS 1 hts gX6_level_X6_checkVessel rfl rfl rfl (by decide +kernel) ⟨Nat.le_of_ble_eq_true rfl, Nat.le_of_ble_eq_true rfl⟩) (z_rs hK hP hZ.1 hS) rfl rfl hl.1 rfl (lv_room (Nat.le_of_ble_eq_true rfl)) dX6_level_1 ⟨(show 0 + 1 ≤ 2 by omega), (show 0 + 6 ≤ 12 by omega)⟩) hP hS0 (fun zno => ⟨0, (show sK1 (sIx a1 3) = (1 : Int32) from by simp [sK1, sK2, sK3, zno]), rfl⟩) (fun x h => (hxt x h).elim) hlocks (show 0 + 1 ≤ 2 by omega) (show 0 + 6 ≤ 12 by omega) (fun zok_1 Hz Lz hP hS0 => ?_)
  have hS : va_S Aw s.heap Hz Lz := z_SF hS0
  have hk0 : sK1 (sIx a1 3) = 0 := by simp [sK1, sK2, sK3, zok_1]
  refine lv_aload_n hx hb dX6_level_4 rfl (lv_at hl 0 rfl) ?_
  have hh0 : w[0]? = some (r 0, .inr (7, [.ref (r 1), .ref (r 2), .ref (r 3), .ref (r 4), .ref (r 5), .ref (r 6), .ref (r 7), .ref (r 8), .ref (r 9), .ref (r 10), .int (nI (N 0)), .int ((T 19) 0), .int ((T 19) 1), .int (nI (N 6))])) := hC.1.1 0 (by omega)
  refine va_get (D := G.1) (ci := 7) (v := .ref (r 2)) (C := RX6) (T := TX6) (N := 14) hx hb hts hi_X6 hown hK hP 0 hh0 rfl 1 (by decide) (hts (.fieldLink RX6 15 "BoilerLog" "levels" "[I") (List.mem_of_getElem? (i := 1) rfl)) (fun _ h9 => h9) rfl dX6_level_5 ?_
  refine lv_iload_n hx hb dX6_level_8 rfl (lv_at hl 1 rfl) ?_
  have hh2 : w[2]? = some (r 2, .inl (G.2 0, 3, .inl (T 6))) := hC.1.1 2 (by omega)
  refine va_iald hx hb hK hP 2 0 hh2 rfl (sIx_in.mp zok_1) dX6_level_9 ?_
  exact vx_ret (z_widen (k := 2) (n := 12) (show 0 + 1 ≤ 2 by omega) (show 0 + 6 ≤ 12 by omega) (W.iret (v := (T 6) a1.toNatClampNeg) hx hb hr (fun t ht hW => ⟨⟨(T 6) a1.toNatClampNeg, w, rfl, ⟨hk0, rfl, _, _, _, hC⟩, ⟨by rw [ht]; exact hP, hD⟩⟩, hS.F ht⟩) hS.2.2 dX6_level_10 hlocks))

set_option maxHeartbeats 4000000 in
set_option maxRecDepth 100000 in
theorem c_X6_canAct (l : Launch) (hst : l.stackTraces = false) (G : zG) (d : Nat) (r A : Nat → Nat) (mc : Nat → Int32) (g : Nat → Nat → Int32) (N : Nat → Nat) (T : Nat → Nat → Int32) (w : va_W) (K : Nat) (a1 : Int32) (sz : Nat) (hC : sCQ G d r A mc g N T w) (hI : sInv N T K 0) (hKk : K ≤ 511) : vx_Met l yX6_canAct wsX6_canAct ({ frames := 7, cells := 2, slots := 12, locals := 110 }) (va_Pc [.ref (r 0), .int a1] (zCu G d w sz)) (va_Qi (fun (r1 : Int32) (w1 : va_W) => sK1 (sIx a1 9) = 0 ∧ r1 = zb (sMay N T a1) ∧ sCO G d r N T w1) (zB G (va_A w sz)) (va_A w sz)) (zXk ["java/lang/IndexOutOfBoundsException"] (sK1 (sIx a1 9))) (2) (12) (va_A w sz) := by
  refine vx_ofW (cc := cX6_canAct) (maxL := 2) (ret := (some .boolean)) (by decide) rfl ?_
  intro p e s m args below meth c s₁ B hml hxt hv
  obtain ⟨rfl, hsz, hP, hK, hD0, hZ⟩ := hv
  have hx := B.exec
  have hb := B.bytes
  have hr := B.returns
  have hts := atoms_spec (ws := wsX6_canAct) B.pre
  have hown : s.vm.findClass RX6 = some m.cls := findClass_of_methodNamed B.named
  have hlocks := B.notSynchronized
  have hNs := hZ.1.2.2
  have hS0 : va_S (fun _ => False) s.heap s.heap [] := va_S.rf
  subst hsz
  have hD := hD0.self (sz := s.heap.size)
  generalize hAe : va_A w s.heap.size = Aw at hD hZ ⊢
  have hA : ∀ q : Nat, s.heap.size ≤ q → Aw q := fun q h => by rw [← hAe]; exact Or.inr h
  have hS : va_S Aw s.heap s.heap [] := va_S.rf
  have hl := lv_entry ([.ref (r 0), .int a1]) (n := 2) (Nat.le_of_ble_eq_true rfl)
  rw [lg_entry_eq]
  generalize (lg_sl ([.ref (r 0), .int a1]) ++ List.replicate (2 - (lg_sl ([.ref (r 0), .int a1])).length) Slot.unset).toArray = ls at hl ⊢
  have hl : lv_has ls 2 [(0, .ref (r 0)), (1, .int a1)] := hl
  have hN := hI.sm
  obtain ⟨hn2, hn3, hn4, hn5, hn6, hn0⟩ := id hN
  have h1n := sN1_c hI hKk
  refine lv_iload_n hx hb dX6_canAct_0 rfl (lv_at hl 1 rfl) ?_
  refine z_chk (vx_runS (As := [.int a1]) (rest := []) ⟨hx, hb, hml, hown, hts⟩ (c_X6_checkPerson l hst G w a1) (va_cwS 1 hts gX6_canAct_X6_checkPerson rfl rfl rfl (by decide +kernel) ⟨Nat.le_of_ble_eq_true rfl, Nat.le_of_ble_eq_true rfl⟩) (z_rs hK hP hZ.1 hS) rfl rfl hl.1 rfl (lv_room (Nat.le_of_ble_eq_true rfl)) dX6_canAct_1 ⟨(show 0 + 1 ≤ 2 by omega), (show 0 + 6 ≤ 12 by omega)⟩) hP hS0 (fun zno => ⟨0, (show sK1 (sIx a1 9) = (1 : Int32) from by simp [sK1, sK2, sK3, zno]), rfl⟩) (fun x h => (hxt x h).elim) hlocks (show 0 + 1 ≤ 2 by omega) (show 0 + 6 ≤ 12 by omega) (fun zok_1 Hz Lz hP hS0 => ?_)
  have hS : va_S Aw s.heap Hz Lz := z_SF hS0
  have hk0 : sK1 (sIx a1 9) = 0 := by simp [sK1, sK2, sK3, zok_1]
  refine lv_aload_n hx hb dX6_canAct_4 rfl (lv_at hl 0 rfl) ?_
  refine lv_iload_n hx hb dX6_canAct_5 rfl (lv_at hl 1 rfl) ?_
  have hh0 : w[0]? = some (r 0, .inr (7, [.ref (r 1), .ref (r 2), .ref (r 3), .ref (r 4), .ref (r 5), .ref (r 6), .ref (r 7), .ref (r 8), .ref (r 9), .ref (r 10), .int (nI (N 0)), .int ((T 19) 0), .int ((T 19) 1), .int (nI (N 6))])) := hC.1.1 0 (by omega)
  refine z_csi (va_Run.run (va_runV (As := [.int a1]) (rest := []) ⟨hx, hb, hml, hown, hts⟩ (c_X6_isAble l G d r A mc g N T w a1 hC (sIx_in.mp zok_1)) (cwV 1 hts gX6_canAct_X6_isAble rfl rfl rfl (by decide +kernel) ⟨Nat.le_of_ble_eq_true rfl, Nat.le_of_ble_eq_true rfl⟩) (z_pv hK hP (ci := 7) (q0 := 0) rfl hh0 hP) rfl rfl hl.1 rfl (lv_room (Nat.le_of_ble_eq_true rfl)) dX6_canAct_6 ⟨(show 0 + 1 + 0 ≤ 2 by omega), (show 0 + 6 + 0 ≤ 12 by omega)⟩)) (fun zr_1 hzr_1 => ?_)
  subst hzr_1
  exact vx_ret (z_widen (k := 2) (n := 12) (show 0 + 1 ≤ 2 by omega) (show 0 + 6 ≤ 12 by omega) (W.zret (v := zb (sMay N T a1)) hx hb hr (zn_zb _) (fun t ht hW => ⟨⟨zb (sMay N T a1), w, rfl, ⟨hk0, rfl, _, _, _, hC⟩, ⟨by rw [ht]; exact hP, hD⟩⟩, hS.F ht⟩) hS.2.2 dX6_canAct_9 hlocks))

set_option maxHeartbeats 4000000 in
set_option maxRecDepth 100000 in
theorem c_X6_taskOf (l : Launch) (hst : l.stackTraces = false) (G : zG) (d : Nat) (r A : Nat → Nat) (mc : Nat → Int32) (g : Nat → Nat → Int32) (N : Nat → Nat) (T : Nat → Nat → Int32) (w : va_W) (K : Nat) (a1 : Int32) (sz : Nat) (hC : sCQ G d r A mc g N T w) (hI : sInv N T K 0) (hKk : K ≤ 511) : vx_Met l yX6_taskOf wsX6_taskOf ({ frames := 7, cells := 2, slots := 12, locals := 111 }) (va_Pc [.ref (r 0), .int a1] (zCu G d w sz)) (va_Qi (fun (r1 : Int32) (w1 : va_W) => sK1 (sIx a1 (N 6)) = 0 ∧ r1 = T 18 a1.toNatClampNeg ∧ sCO G d r N T w1) (zB G (va_A w sz)) (va_A w sz)) (zXk ["java/lang/IndexOutOfBoundsException"] (sK1 (sIx a1 (N 6)))) (2) (12) (va_A w sz) := by
  refine vx_ofW (cc := cX6_taskOf) (maxL := 2) (ret := (some .int)) (by decide) rfl ?_
  intro p e s m args below meth c s₁ B hml hxt hv
  obtain ⟨rfl, hsz, hP, hK, hD0, hZ⟩ := hv
  have hx := B.exec
  have hb := B.bytes
  have hr := B.returns
  have hts := atoms_spec (ws := wsX6_taskOf) B.pre
  have hown : s.vm.findClass RX6 = some m.cls := findClass_of_methodNamed B.named
  have hlocks := B.notSynchronized
  have hi_X6 : ∀ w ∈ u_ws RX6 TX6 14, w ∈ wsX6_taskOf := (fun _ h => List.mem_cons_of_mem _ (List.mem_append_left _ (List.mem_append_right _ h)))
  have hNs := hZ.1.2.2
  have hS0 : va_S (fun _ => False) s.heap s.heap [] := va_S.rf
  subst hsz
  have hD := hD0.self (sz := s.heap.size)
  generalize hAe : va_A w s.heap.size = Aw at hD hZ ⊢
  have hA : ∀ q : Nat, s.heap.size ≤ q → Aw q := fun q h => by rw [← hAe]; exact Or.inr h
  have hS : va_S Aw s.heap s.heap [] := va_S.rf
  have hl := lv_entry ([.ref (r 0), .int a1]) (n := 2) (Nat.le_of_ble_eq_true rfl)
  rw [lg_entry_eq]
  generalize (lg_sl ([.ref (r 0), .int a1]) ++ List.replicate (2 - (lg_sl ([.ref (r 0), .int a1])).length) Slot.unset).toArray = ls at hl ⊢
  have hl : lv_has ls 2 [(0, .ref (r 0)), (1, .int a1)] := hl
  have hN := hI.sm
  obtain ⟨hn2, hn3, hn4, hn5, hn6, hn0⟩ := id hN
  have h1n := sN1_c hI hKk
  refine lv_aload_n hx hb dX6_taskOf_0 rfl (lv_at hl 0 rfl) ?_
  refine lv_iload_n hx hb dX6_taskOf_1 rfl (lv_at hl 1 rfl) ?_
  have hh0 : w[0]? = some (r 0, .inr (7, [.ref (r 1), .ref (r 2), .ref (r 3), .ref (r 4), .ref (r 5), .ref (r 6), .ref (r 7), .ref (r 8), .ref (r 9), .ref (r 10), .int (nI (N 0)), .int ((T 19) 0), .int ((T 19) 1), .int (nI (N 6))])) := hC.1.1 0 (by omega)
  refine z_chk (vx_runV (As := [.int a1]) (rest := []) ⟨hx, hb, hml, hown, hts⟩ (c_X6_checkThread l hst G w 0 r (nI (N 0)) ((T 19) 0) ((T 19) 1) (nI (N 6)) (N 6) a1 hh0 rfl (by omega)) (cwV 1 hts gX6_taskOf_X6_checkThread rfl rfl rfl (by decide +kernel) ⟨Nat.le_of_ble_eq_true rfl, Nat.le_of_ble_eq_true rfl⟩) (z_rv hK hP (ci := 7) (q0 := 0) rfl hh0 hP hZ.1 hS) rfl rfl hl.1 rfl (lv_room (Nat.le_of_ble_eq_true rfl)) dX6_taskOf_2 ⟨(show 0 + 1 ≤ 2 by omega), (show 0 + 6 ≤ 12 by omega)⟩) hP hS0 (fun zno => ⟨0, (show sK1 (sIx a1 (N 6)) = (1 : Int32) from by simp [sK1, sK2, sK3, zno]), rfl⟩) (fun x h => (hxt x h).elim) hlocks (show 0 + 1 ≤ 2 by omega) (show 0 + 6 ≤ 12 by omega) (fun zok_2 Hz Lz hP hS0 => ?_)
  have hS : va_S Aw s.heap Hz Lz := z_SF hS0
  have hk0 : sK1 (sIx a1 (N 6)) = 0 := by simp [sK1, sK2, sK3, zok_2]
  refine lv_aload_n hx hb dX6_taskOf_5 rfl (lv_at hl 0 rfl) ?_
  refine va_get (D := G.1) (ci := 7) (v := .ref (r 8)) (C := RX6) (T := TX6) (N := 14) hx hb hts hi_X6 hown hK hP 0 hh0 rfl 7 (by decide) (hts (.fieldLink RX6 39 "BoilerLog" "tasks" "[I") (List.mem_of_getElem? (i := 1) rfl)) (fun _ h9 => h9) rfl dX6_taskOf_6 ?_
  refine lv_iload_n hx hb dX6_taskOf_9 rfl (lv_at hl 1 rfl) ?_
  have hh8 : w[8]? = some (r 8, .inl (G.2 0, 60, .inl (T 18))) := hC.1.1 8 (by omega)
  refine va_iald hx hb hK hP 8 0 hh8 rfl (vp_in_m (sIx_in.mp zok_2) hn6) dX6_taskOf_10 ?_
  exact vx_ret (z_widen (k := 2) (n := 12) (show 0 + 1 ≤ 2 by omega) (show 0 + 6 ≤ 12 by omega) (W.iret (v := (T 18) a1.toNatClampNeg) hx hb hr (fun t ht hW => ⟨⟨(T 18) a1.toNatClampNeg, w, rfl, ⟨hk0, rfl, _, _, _, hC⟩, ⟨by rw [ht]; exact hP, hD⟩⟩, hS.F ht⟩) hS.2.2 dX6_taskOf_11 hlocks))

set_option maxHeartbeats 4000000 in
set_option maxRecDepth 100000 in
theorem c_X6_read (l : Launch) (hst : l.stackTraces = false) (G : zG) (d : Nat) (r A : Nat → Nat) (mc : Nat → Int32) (g : Nat → Nat → Int32) (N : Nat → Nat) (T : Nat → Nat → Int32) (w : va_W) (K : Nat) (a1 : Int32) (sz : Nat) (hC : sCQ G d r A mc g N T w) (hI : sInv N T K 0) (hKk : K ≤ 511) : vx_Met l yX6_read wsX6_read ({ frames := 7, cells := 2, slots := 12, locals := 111 }) (va_Pc [.ref (r 0), .int a1] (zCu G d w sz)) (va_Qi (fun (r1 : Int32) (w1 : va_W) => sK2 (sIx a1 9) (decide (T 2 a1.toNatClampNeg = 0)) = 0 ∧ r1 = nI (N 1) - T 1 a1.toNatClampNeg ∧ sCO G d r N ((nRead N T a1).2) w1) (zB G (va_A w sz)) (va_A w sz)) (zXk ["java/lang/IndexOutOfBoundsException", "java/lang/IllegalStateException"] (sK2 (sIx a1 9) (decide (T 2 a1.toNatClampNeg = 0)))) (2) (12) (va_A w sz) := by
  refine vx_ofW (cc := cX6_read) (maxL := 3) (ret := (some .int)) (by decide) rfl ?_
  intro p e s m args below meth c s₁ B hml hxt hv
  obtain ⟨rfl, hsz, hP, hK, hD0, hZ⟩ := hv
  have hx := B.exec
  have hb := B.bytes
  have hr := B.returns
  have hts := atoms_spec (ws := wsX6_read) B.pre
  have hown : s.vm.findClass RX6 = some m.cls := findClass_of_methodNamed B.named
  have hlocks := B.notSynchronized
  have hi_X6 : ∀ w ∈ u_ws RX6 TX6 14, w ∈ wsX6_read := (fun _ h => List.mem_cons_of_mem _ (List.mem_append_left _ (List.mem_append_left _ (List.mem_append_left _ (List.mem_append_right _ h)))))
  have hNs := hZ.1.2.2
  have hS0 : va_S (fun _ => False) s.heap s.heap [] := va_S.rf
  subst hsz
  have hD := hD0.self (sz := s.heap.size)
  generalize hAe : va_A w s.heap.size = Aw at hD hZ ⊢
  have hA : ∀ q : Nat, s.heap.size ≤ q → Aw q := fun q h => by rw [← hAe]; exact Or.inr h
  have hS : va_S Aw s.heap s.heap [] := va_S.rf
  have hl := lv_entry ([.ref (r 0), .int a1]) (n := 3) (Nat.le_of_ble_eq_true rfl)
  rw [lg_entry_eq]
  generalize (lg_sl ([.ref (r 0), .int a1]) ++ List.replicate (3 - (lg_sl ([.ref (r 0), .int a1])).length) Slot.unset).toArray = ls at hl ⊢
  have hl : lv_has ls 3 [(0, .ref (r 0)), (1, .int a1)] := hl
  have hN := hI.sm
  obtain ⟨hn2, hn3, hn4, hn5, hn6, hn0⟩ := id hN
  have h1n := sN1_c hI hKk
  refine lv_iload_n hx hb dX6_read_0 rfl (lv_at hl 1 rfl) ?_
  refine z_chk (vx_runS (As := [.int a1]) (rest := []) ⟨hx, hb, hml, hown, hts⟩ (c_X6_checkPerson l hst G w a1) (va_cwS 1 hts gX6_read_X6_checkPerson rfl rfl rfl (by decide +kernel) ⟨Nat.le_of_ble_eq_true rfl, Nat.le_of_ble_eq_true rfl⟩) (z_rs hK hP hZ.1 hS) rfl rfl hl.1 rfl (lv_room (Nat.le_of_ble_eq_true rfl)) dX6_read_1 ⟨(show 0 + 1 ≤ 2 by omega), (show 0 + 6 ≤ 12 by omega)⟩) hP hS0 (fun zno => ⟨0, (show sK2 (sIx a1 9) (decide (T 2 a1.toNatClampNeg = 0)) = (1 : Int32) from by simp [sK1, sK2, sK3, zno]), rfl⟩) (fun x h => (hxt x h).elim) hlocks (show 0 + 1 ≤ 2 by omega) (show 0 + 6 ≤ 12 by omega) (fun zok_1 Hz Lz hP hS0 => ?_)
  have hS : va_S Aw s.heap Hz Lz := z_SF hS0
  refine lv_aload_n hx hb dX6_read_4 rfl (lv_at hl 0 rfl) ?_
  refine lv_iload_n hx hb dX6_read_5 rfl (lv_at hl 1 rfl) ?_
  have hh0 : w[0]? = some (r 0, .inr (7, [.ref (r 1), .ref (r 2), .ref (r 3), .ref (r 4), .ref (r 5), .ref (r 6), .ref (r 7), .ref (r 8), .ref (r 9), .ref (r 10), .int (nI (N 0)), .int ((T 19) 0), .int ((T 19) 1), .int (nI (N 6))])) := hC.1.1 0 (by omega)
  have hh3 : w[3]? = some (r 3, .inl (G.2 2, 9, .inl (T 2))) := hC.1.1 3 (by omega)
  refine z_chk (vx_runV (As := [.int a1]) (rest := []) ⟨hx, hb, hml, hown, hts⟩ (c_X6_checkNotGone l hst G w 0 r (nI (N 0)) ((T 19) 0) ((T 19) 1) (nI (N 6)) 3 (T 2) a1 hh0 hh3 (sIx_in.mp zok_1)) (cwV 1 hts gX6_read_X6_checkNotGone rfl rfl rfl (by decide +kernel) ⟨Nat.le_of_ble_eq_true rfl, Nat.le_of_ble_eq_true rfl⟩) (z_rv hK hP (ci := 7) (q0 := 0) rfl hh0 hP hZ.1 hS) rfl rfl hl.1 rfl (lv_room (Nat.le_of_ble_eq_true rfl)) dX6_read_6 ⟨(show 0 + 1 + 1 ≤ 2 by omega), (show 0 + 6 + 6 ≤ 12 by omega)⟩) hP hS0 (fun zno => ⟨1, (show sK2 (sIx a1 9) (decide (T 2 a1.toNatClampNeg = 0)) = (2 : Int32) from by simp [sK1, sK2, sK3, zok_1, zno]), rfl⟩) (fun x h => (hxt x h).elim) hlocks (show 0 + 1 + 1 ≤ 2 by omega) (show 0 + 6 + 6 ≤ 12 by omega) (fun zok_6 Hz Lz hP hS0 => ?_)
  have hS : va_S Aw s.heap Hz Lz := z_SF hS0
  have hk0 : sK2 (sIx a1 9) (decide (T 2 a1.toNatClampNeg = 0)) = 0 := by simp [sK1, sK2, sK3, zok_1, zok_6]
  refine lv_aload_n hx hb dX6_read_9 rfl (lv_at hl 0 rfl) ?_
  refine va_get (D := G.1) (ci := 7) (v := .ref (r 9)) (C := RX6) (T := TX6) (N := 14) hx hb hts hi_X6 hown hK hP 0 hh0 rfl 8 (by decide) (hts (.fieldLink RX6 45 "BoilerLog" "log" "LBoilerLog$Log;") (List.mem_of_getElem? (i := 1) rfl)) (fun _ h9 => h9) rfl dX6_read_10 ?_
  have hh9 : w[9]? = some (r 9, .inr (3, [.ref (A 8), .int (nI (N 1))])) := hC.1.1 9 (by omega)
  refine z_csi (va_Run.run (va_runVN (As := []) (rest := []) ⟨hx, hb, hml, hown, hts⟩ (c_X2_size l G w 9 (r 9) (A 8) (nI (N 1)) (by first | assumption | omega | exact sIx_in.mp (by assumption))) ⟨va_cnB 0 hts gX6_read_X2_size_n123 rfl rfl rfl (hNs.1 _ (List.mem_append_left _ (List.mem_of_getElem? (i := 11) rfl))) (hts (.initialized RX2) (List.mem_of_getElem? (i := 17) rfl)) (by decide +kernel) ⟨Nat.le_of_ble_eq_true rfl, Nat.le_of_ble_eq_true rfl⟩, hts (.instanceMethod yX2_size) (List.mem_of_getElem? (i := 16) rfl), hts (.selects RX2 yX2_size yX2_size) (List.mem_of_getElem? (i := 18) rfl)⟩ (z_pv hK hP (ci := 3) (q0 := 9) rfl hh9 hP) rfl rfl hl.1 rfl (lv_room (Nat.le_of_ble_eq_true rfl)) dX6_read_13 ⟨(show 0 + 1 + 1 + 0 ≤ 2 by omega), (show 0 + 6 + 6 + 0 ≤ 12 by omega)⟩)) (fun zr_1 hzr_1 => ?_)
  subst hzr_1
  refine lv_aload_n hx hb dX6_read_16 rfl (lv_at hl 0 rfl) ?_
  refine va_get (D := G.1) (ci := 7) (v := .ref (r 4)) (C := RX6) (T := TX6) (N := 14) hx hb hts hi_X6 hown hK hP 0 hh0 rfl 3 (by decide) (hts (.fieldLink RX6 23 "BoilerLog" "entriesRead" "[I") (List.mem_of_getElem? (i := 2) rfl)) (fun _ h9 => h9) rfl dX6_read_17 ?_
  refine lv_iload_n hx hb dX6_read_20 rfl (lv_at hl 1 rfl) ?_
  have hh4 : w[4]? = some (r 4, .inl (G.2 0, 9, .inl (T 1))) := hC.1.1 4 (by omega)
  refine va_iald hx hb hK hP 4 0 hh4 rfl (sIx_in.mp zok_1) dX6_read_21 ?_
  refine lv_isub hx hb dX6_read_22 ?_
  refine lv_istore_n (lv' := [(2, .int ((nI (N 1)) - ((T 1) a1.toNatClampNeg))), (0, .ref (r 0)), (1, .int a1)]) hx hb dX6_read_23 rfl hl (by decide) rfl (fun ls hl => ?_)
  refine lv_aload_n hx hb dX6_read_24 rfl (lv_at hl 1 rfl) ?_
  refine va_get (D := G.1) (ci := 7) (v := .ref (r 4)) (C := RX6) (T := TX6) (N := 14) hx hb hts hi_X6 hown hK hP 0 hh0 rfl 3 (by decide) (hts (.fieldLink RX6 23 "BoilerLog" "entriesRead" "[I") (List.mem_of_getElem? (i := 2) rfl)) (fun _ h9 => h9) rfl dX6_read_25 ?_
  refine lv_iload_n hx hb dX6_read_28 rfl (lv_at hl 2 rfl) ?_
  refine lv_aload_n hx hb dX6_read_29 rfl (lv_at hl 1 rfl) ?_
  refine va_get (D := G.1) (ci := 7) (v := .ref (r 9)) (C := RX6) (T := TX6) (N := 14) hx hb hts hi_X6 hown hK hP 0 hh0 rfl 8 (by decide) (hts (.fieldLink RX6 45 "BoilerLog" "log" "LBoilerLog$Log;") (List.mem_of_getElem? (i := 1) rfl)) (fun _ h9 => h9) rfl dX6_read_30 ?_
  refine z_csi (va_Run.run (va_runVN (As := []) (rest := [.int a1, .ref (r 4)]) ⟨hx, hb, hml, hown, hts⟩ (c_X2_size l G w 9 (r 9) (A 8) (nI (N 1)) (by first | assumption | omega | exact sIx_in.mp (by assumption))) ⟨va_cnB 0 hts gX6_read_X2_size_n123 rfl rfl rfl (hNs.1 _ (List.mem_append_left _ (List.mem_of_getElem? (i := 11) rfl))) (hts (.initialized RX2) (List.mem_of_getElem? (i := 17) rfl)) (by decide +kernel) ⟨Nat.le_of_ble_eq_true rfl, Nat.le_of_ble_eq_true rfl⟩, hts (.instanceMethod yX2_size) (List.mem_of_getElem? (i := 16) rfl), hts (.selects RX2 yX2_size yX2_size) (List.mem_of_getElem? (i := 18) rfl)⟩ (z_pv hK hP (ci := 3) (q0 := 9) rfl hh9 hP) rfl rfl hl.1 rfl (lv_room (Nat.le_of_ble_eq_true rfl)) dX6_read_33 ⟨(show 0 + 1 + 1 + 0 ≤ 2 by omega), (show 0 + 6 + 6 + 0 ≤ 12 by omega)⟩)) (fun zr_2 hzr_2 => ?_)
  subst hzr_2
  refine va_iast hx hb hK hP hD hS 4 0 hh4 rfl (sIx_in.mp zok_1) dX6_read_36 (fun Hz Lz hP hD hS => ?_)
  have hP : va_P G.1 vwCl (w.set 4 (r 4, .inl (G.2 0, 9, .inl (upd (T 1) a1.toNatClampNeg (nI (N 1)))))) Hz := hP
  have hD : va_D Aw (w.set 4 (r 4, .inl (G.2 0, 9, .inl (upd (T 1) a1.toNatClampNeg (nI (N 1)))))) := hD
  have hC : sCQ G d r A mc g N (va_up T 1 (upd (T 1) a1.toNatClampNeg (nI (N 1)))) (w.set 4 (r 4, .inl (G.2 0, 9, .inl (upd (T 1) a1.toNatClampNeg (nI (N 1)))))) := (sC_x4 hC hN)
  generalize (w.set 4 (r 4, .inl (G.2 0, 9, .inl (upd (T 1) a1.toNatClampNeg (nI (N 1)))))) = zw_3 at hP hD hC
  refine lv_iload_n hx hb dX6_read_37 rfl (lv_at hl 0 rfl) ?_
  exact vx_ret (z_widen (k := 2) (n := 12) (show 0 + 1 + 1 ≤ 2 by omega) (show 0 + 6 + 6 ≤ 12 by omega) (W.iret (v := (nI (N 1)) - ((T 1) a1.toNatClampNeg)) hx hb hr (fun t ht hW => ⟨⟨(nI (N 1)) - ((T 1) a1.toNatClampNeg), zw_3, rfl, ⟨hk0, rfl, _, _, _, hC⟩, ⟨by rw [ht]; exact hP, hD⟩⟩, hS.F ht⟩) hS.2.2 dX6_read_38 hlocks))

set_option maxHeartbeats 4000000 in
set_option maxRecDepth 100000 in
theorem c_X6_pipe (l : Launch) (hst : l.stackTraces = false) (G : zG) (d : Nat) (r A : Nat → Nat) (mc : Nat → Int32) (g : Nat → Nat → Int32) (N : Nat → Nat) (T : Nat → Nat → Int32) (w : va_W) (K : Nat) (a1 a2 a3 : Int32) (sz : Nat) (hC : sCQ G d r A mc g N T w) (hI : sInv N T K 0) (hKk : K ≤ 511) : vx_Met l yX6_pipe wsX6_pipe ({ frames := 7, cells := 2, slots := 12, locals := 110 }) (va_Pc [.ref (r 0), .int a1, .int a2, .int a3] (zCu G d w sz)) (va_Qi (fun (r1 : Int32) (w1 : va_W) => sK3 (sIx a1 8) (((sEnd a2) && (sEnd a3)) && !decide (a2 = a3)) (decide (T 3 a1.toNatClampNeg = 0)) = 0 ∧ r1 = nI (sOn N T a1) ∧ sCO G d r N ((nPipe N T a1 a2 a3).2) w1) (zB G (va_A w sz)) (va_A w sz)) (zXk ["java/lang/IndexOutOfBoundsException", "java/lang/IllegalArgumentException", "java/lang/IllegalStateException"] (sK3 (sIx a1 8) (((sEnd a2) && (sEnd a3)) && !decide (a2 = a3)) (decide (T 3 a1.toNatClampNeg = 0)))) (2) (12) (va_A w sz) := by
  refine vx_ofW (cc := cX6_pipe) (maxL := 5) (ret := (some .int)) (by decide) rfl ?_
  intro p e s m args below meth c s₁ B hml hxt hv
  obtain ⟨rfl, hsz, hP, hK, hD0, hZ⟩ := hv
  have hx := B.exec
  have hb := B.bytes
  have hr := B.returns
  have hts := atoms_spec (ws := wsX6_pipe) B.pre
  have hown : s.vm.findClass RX6 = some m.cls := findClass_of_methodNamed B.named
  have hlocks := B.notSynchronized
  have hi_X5 : ∀ w ∈ u_ws RX5 TX5 3, w ∈ wsX6_pipe := (fun _ h => List.mem_cons_of_mem _ (List.mem_append_left _ (List.mem_append_left _ (List.mem_append_left _ (List.mem_append_left _ (List.mem_append_left _ (List.mem_append_right _ h)))))))
  have hi_X6 : ∀ w ∈ u_ws RX6 TX6 14, w ∈ wsX6_pipe := (fun _ h => List.mem_cons_of_mem _ (List.mem_append_left _ (List.mem_append_left _ (List.mem_append_left _ (List.mem_append_left _ (List.mem_append_left _ (List.mem_append_left _ (List.mem_append_right _ h))))))))
  have hNs := hZ.1.2.2
  have hS0 : va_S (fun _ => False) s.heap s.heap [] := va_S.rf
  subst hsz
  have hD := hD0.self (sz := s.heap.size)
  generalize hAe : va_A w s.heap.size = Aw at hD hZ ⊢
  have hA : ∀ q : Nat, s.heap.size ≤ q → Aw q := fun q h => by rw [← hAe]; exact Or.inr h
  have hS : va_S Aw s.heap s.heap [] := va_S.rf
  have hl := lv_entry ([.ref (r 0), .int a1, .int a2, .int a3]) (n := 5) (Nat.le_of_ble_eq_true rfl)
  rw [lg_entry_eq]
  generalize (lg_sl ([.ref (r 0), .int a1, .int a2, .int a3]) ++ List.replicate (5 - (lg_sl ([.ref (r 0), .int a1, .int a2, .int a3])).length) Slot.unset).toArray = ls at hl ⊢
  have hl : lv_has ls 5 [(0, .ref (r 0)), (1, .int a1), (2, .int a2), (3, .int a3)] := hl
  have hN := hI.sm
  obtain ⟨hn2, hn3, hn4, hn5, hn6, hn0⟩ := id hN
  have h1n := sN1_c hI hKk
  refine lv_iload_n hx hb dX6_pipe_0 rfl (lv_at hl 1 rfl) ?_
  refine z_chk (vx_runS (As := [.int a1]) (rest := []) ⟨hx, hb, hml, hown, hts⟩ (c_X6_checkValve l hst G w a1) (va_cwS 1 hts gX6_pipe_X6_checkValve rfl rfl rfl (by decide +kernel) ⟨Nat.le_of_ble_eq_true rfl, Nat.le_of_ble_eq_true rfl⟩) (z_rs hK hP hZ.1 hS) rfl rfl hl.1 rfl (lv_room (Nat.le_of_ble_eq_true rfl)) dX6_pipe_1 ⟨(show 0 + 1 ≤ 2 by omega), (show 0 + 6 ≤ 12 by omega)⟩) hP hS0 (fun zno => ⟨0, (show sK3 (sIx a1 8) (((sEnd a2) && (sEnd a3)) && !decide (a2 = a3)) (decide (T 3 a1.toNatClampNeg = 0)) = (1 : Int32) from by simp [sK1, sK2, sK3, zno]), rfl⟩) (fun x h => (hxt x h).elim) hlocks (show 0 + 1 ≤ 2 by omega) (show 0 + 6 ≤ 12 by omega) (fun zok_1 Hz Lz hP hS0 => ?_)
  have hS : va_S Aw s.heap Hz Lz := z_SF hS0
  refine lv_iload_n hx hb dX6_pipe_4 rfl (lv_at hl 2 rfl) ?_
  refine z_csi (va_Run.run (va_runS (As := [.int a2]) (rest := []) ⟨hx, hb, hml, hown, hts⟩ (c_X6_isEnd l G a2) (va_cwS 1 hts gX6_pipe_X6_isEnd rfl rfl rfl (by decide +kernel) ⟨Nat.le_of_ble_eq_true rfl, Nat.le_of_ble_eq_true rfl⟩) (z_ps hK z_none) rfl rfl hl.1 rfl (lv_room (Nat.le_of_ble_eq_true rfl)) dX6_pipe_5 ⟨(show 0 + 1 + 0 ≤ 2 by omega), (show 0 + 6 + 0 ≤ 12 by omega)⟩)) (fun zr_1 hzr_1 => ?_)
  subst hzr_1
  refine lv_if_eq (tgt := 23) hx hb dX6_pipe_8 (by decide) (fun zc_2 => ?_) (fun zc_2 => ?_)
  · skip
    have zc_2 := zb_0.mp zc_2
    obtain ⟨sa, hsa⟩ := zText hNs (i := 0) (q := ("BoilerLog", 86, "no way for a valve")) rfl
    exact vx_throwS (own := RX6) (cls := "java/lang/IllegalArgumentException") (names := ["java/lang/RuntimeException", "java/lang/Exception"]) (A := fun _ => False) hx hb hst hown (by decide) (by decide) (hts _ (List.mem_of_getElem? (i := 1) rfl)) (hts _ (List.mem_of_getElem? (i := 2) rfl)) hsa (zThrow_all (fun w h => hts w (List.mem_cons_of_mem _ (List.mem_append_left _ (List.mem_append_left _ (List.mem_append_right _ h))))) zBad_88 hNs) zGood_88 (hZ.1.1.narrow (fun _ h => h.elim)) (hZ.1.2.1.narrow (fun _ h => h.elim)) hS0 (by rw [hml]; exact hl.1) dX6_pipe_23 dX6_pipe_26 dX6_pipe_27 dX6_pipe_29 dX6_pipe_32 (fun x h => (hxt x h).elim) (Nat.le_of_ble_eq_true rfl) (Nat.le_of_ble_eq_true rfl) (show 0 + 1 + 1 ≤ 2 by omega) (show 0 + 6 + 6 ≤ 12 by omega) hlocks (fun t _ hz hq => ⟨1, (show sK3 (sIx a1 8) (((sEnd a2) && (sEnd a3)) && !decide (a2 = a3)) (decide (T 3 a1.toNatClampNeg = 0)) = (2 : Int32) from by simp [sK1, sK2, sK3, zok_1, zc_2]), rfl, ⟨Nat.le_trans hS0.1 hz, fun q hq1 _ => (hq q (Nat.lt_of_lt_of_le hq1 hS0.1)).trans (hS0.2.1 q hq1 id)⟩⟩) (fun z hz => (hS0.2.2 z hz).elim) (show 0 + 1 + 1 ≤ 2 by omega) (show 0 + 6 + 6 ≤ 12 by omega)
  · skip
    have zc_2 := zb_n0 zc_2
    refine lv_iload_n hx hb dX6_pipe_11 rfl (lv_at hl 3 rfl) ?_
    refine z_csi (va_Run.run (va_runS (As := [.int a3]) (rest := []) ⟨hx, hb, hml, hown, hts⟩ (c_X6_isEnd l G a3) (va_cwS 1 hts gX6_pipe_X6_isEnd rfl rfl rfl (by decide +kernel) ⟨Nat.le_of_ble_eq_true rfl, Nat.le_of_ble_eq_true rfl⟩) (z_ps hK z_none) rfl rfl hl.1 rfl (lv_room (Nat.le_of_ble_eq_true rfl)) dX6_pipe_12 ⟨(show 0 + 1 + 0 ≤ 2 by omega), (show 0 + 6 + 0 ≤ 12 by omega)⟩)) (fun zr_3 hzr_3 => ?_)
    subst hzr_3
    refine lv_if_eq (tgt := 23) hx hb dX6_pipe_15 (by decide) (fun zc_4 => ?_) (fun zc_4 => ?_)
    · skip
      have zc_4 := zb_0.mp zc_4
      obtain ⟨sa, hsa⟩ := zText hNs (i := 0) (q := ("BoilerLog", 86, "no way for a valve")) rfl
      exact vx_throwS (own := RX6) (cls := "java/lang/IllegalArgumentException") (names := ["java/lang/RuntimeException", "java/lang/Exception"]) (A := fun _ => False) hx hb hst hown (by decide) (by decide) (hts _ (List.mem_of_getElem? (i := 1) rfl)) (hts _ (List.mem_of_getElem? (i := 2) rfl)) hsa (zThrow_all (fun w h => hts w (List.mem_cons_of_mem _ (List.mem_append_left _ (List.mem_append_left _ (List.mem_append_right _ h))))) zBad_88 hNs) zGood_88 (hZ.1.1.narrow (fun _ h => h.elim)) (hZ.1.2.1.narrow (fun _ h => h.elim)) hS0 (by rw [hml]; exact hl.1) dX6_pipe_23 dX6_pipe_26 dX6_pipe_27 dX6_pipe_29 dX6_pipe_32 (fun x h => (hxt x h).elim) (Nat.le_of_ble_eq_true rfl) (Nat.le_of_ble_eq_true rfl) (show 0 + 1 + 1 ≤ 2 by omega) (show 0 + 6 + 6 ≤ 12 by omega) hlocks (fun t _ hz hq => ⟨1, (show sK3 (sIx a1 8) (((sEnd a2) && (sEnd a3)) && !decide (a2 = a3)) (decide (T 3 a1.toNatClampNeg = 0)) = (2 : Int32) from by simp [sK1, sK2, sK3, zok_1, zc_2, zc_4]), rfl, ⟨Nat.le_trans hS0.1 hz, fun q hq1 _ => (hq q (Nat.lt_of_lt_of_le hq1 hS0.1)).trans (hS0.2.1 q hq1 id)⟩⟩) (fun z hz => (hS0.2.2 z hz).elim) (show 0 + 1 + 1 ≤ 2 by omega) (show 0 + 6 + 6 ≤ 12 by omega)
    · skip
      have zc_4 := zb_n0 zc_4
      refine lv_iload_n hx hb dX6_pipe_18 rfl (lv_at hl 2 rfl) ?_
      refine lv_iload_n hx hb dX6_pipe_19 rfl (lv_at hl 3 rfl) ?_
      refine lv_icmp_ne (tgt := 33) hx hb dX6_pipe_20 (by decide) (fun zc_5 => ?_) (fun zc_5 => ?_)
      · skip
        refine lv_aload_n hx hb dX6_pipe_33 rfl (lv_at hl 0 rfl) ?_
        have hh0 : w[0]? = some (r 0, .inr (7, [.ref (r 1), .ref (r 2), .ref (r 3), .ref (r 4), .ref (r 5), .ref (r 6), .ref (r 7), .ref (r 8), .ref (r 9), .ref (r 10), .int (nI (N 0)), .int ((T 19) 0), .int ((T 19) 1), .int (nI (N 6))])) := hC.1.1 0 (by omega)
        refine va_get (D := G.1) (ci := 7) (v := .ref (r 1)) (C := RX6) (T := TX6) (N := 14) hx hb hts hi_X6 hown hK hP 0 hh0 rfl 0 (by decide) (hts (.fieldLink RX6 11 "BoilerLog" "valves" "[LBoilerLog$Valve;") (List.mem_of_getElem? (i := 5) rfl)) (fun _ h9 => h9) rfl dX6_pipe_34 ?_
        refine lv_iload_n hx hb dX6_pipe_37 rfl (lv_at hl 1 rfl) ?_
        have hh1 : w[1]? = some (r 1, .inl (G.2 4, 8, .inr (.inr (.inr (.inr (cGa A 0 8)))))) := hC.1.1 1 (by omega)
        refine va_aldq hx hb hK hP 1 4 hh1 rfl (by first | assumption | exact sIx_in.mp (by assumption) | exact vp_in_nI (by omega) (by omega)) dX6_pipe_38 ?_
        refine W.eq (g2 := F0 m 39 ls [.ref (A a1.toNatClampNeg)]) (by first | (rw [cGa_0 (zCl (sIx_in.mp zok_1) (by omega)).1]; done) | (rw [cGa_0 (zCl (sIx_in.mp zok_1) (by omega)).1]; rfl)) ?_
        refine lv_astore (lv' := [(4, .ref (A a1.toNatClampNeg)), (0, .ref (r 0)), (1, .int a1), (2, .int a2), (3, .int a3)]) hx hb dX6_pipe_39 hl (by decide) rfl (fun ls hl => ?_)
        refine lv_aload hx hb dX6_pipe_41 (lv_at hl 0 rfl) ?_
        obtain ⟨kz6, zk6, hz6⟩ := hC.1.2.1 a1.toNatClampNeg (Or.inl (zCl (sIx_in.mp zok_1) (by omega)).1)
        rw [cE_val (zCl (sIx_in.mp zok_1) (by omega)).1] at hz6
        have hz6 : w[kz6]? = some (A a1.toNatClampNeg, .inr (6, [.int ((T 3) a1.toNatClampNeg), .int ((T 4) a1.toNatClampNeg), .int ((T 5) a1.toNatClampNeg)])) := hz6
        refine va_getN (D := G.1) (ci := 6) (v := .int ((T 3) a1.toNatClampNeg)) (C := RX5) (T := TX5) (N := 3) hx hb hts hi_X5 hown hK hP kz6 hz6 rfl 0 (by decide) (va_Nw.use rfl (hNs.1 _ (List.mem_append_left _ (List.mem_of_getElem? (i := 10) rfl)))) (fun _ h9 => h9) rfl dX6_pipe_43 ?_
        refine lv_if_eq (tgt := 59) hx hb dX6_pipe_46 (by decide) (fun zc_7 => ?_) (fun zc_7 => ?_)
        · skip
          have hk0 : sK3 (sIx a1 8) (((sEnd a2) && (sEnd a3)) && !decide (a2 = a3)) (decide (T 3 a1.toNatClampNeg = 0)) = 0 := by simp [sK1, sK2, sK3, zok_1, zc_2, zc_4, zc_5, zc_7]
          refine lv_aload hx hb dX6_pipe_59 (lv_at hl 0 rfl) ?_
          refine lv_iload_n hx hb dX6_pipe_61 rfl (lv_at hl 3 rfl) ?_
          refine va_putN (D := G.1) (ci := 6) (v := .int a2) (ty := .int) (C := RX5) (T := TX5) (N := 3) hx hb hts hi_X5 tyX5 tyX5_ok nmX5 hown hK hP hD hS kz6 hz6 rfl 1 (by decide) (va_Nw.use rfl (hNs.1 _ (List.mem_append_left _ (List.mem_of_getElem? (i := 0) rfl)))) (fun _ h9 => h9) rfl (by decide +kernel) rfl rfl (Nat.le_of_ble_eq_true rfl) dX6_pipe_62 (fun Hz Lz hP hD hS => ?_)
          have hP : va_P G.1 vwCl (w.set kz6 (A a1.toNatClampNeg, .inr (6, [.int ((T 3) a1.toNatClampNeg), .int a2, .int ((T 5) a1.toNatClampNeg)]))) Hz := hP
          have hD : va_D Aw (w.set kz6 (A a1.toNatClampNeg, .inr (6, [.int ((T 3) a1.toNatClampNeg), .int a2, .int ((T 5) a1.toNatClampNeg)]))) := hD
          have hC : sCQ G d r A mc g N (va_up T 4 (upd (T 4) a1.toNatClampNeg a2)) (w.set kz6 (A a1.toNatClampNeg, .inr (6, [.int ((T 3) a1.toNatClampNeg), .int a2, .int ((T 5) a1.toNatClampNeg)]))) := (sC_v4 hC hN (zCl (sIx_in.mp zok_1) (by omega)).1 zk6 hz6)
          generalize (w.set kz6 (A a1.toNatClampNeg, .inr (6, [.int ((T 3) a1.toNatClampNeg), .int a2, .int ((T 5) a1.toNatClampNeg)]))) = zw_8 at hP hD hC
          refine lv_aload hx hb dX6_pipe_65 (lv_at hl 0 rfl) ?_
          refine lv_iload_n hx hb dX6_pipe_67 rfl (lv_at hl 4 rfl) ?_
          obtain ⟨kz9, zk9, hz9⟩ := hC.1.2.1 a1.toNatClampNeg (Or.inl (zCl (sIx_in.mp zok_1) (by omega)).1)
          rw [cE_val (zCl (sIx_in.mp zok_1) (by omega)).1] at hz9
          have hz9 : zw_8[kz9]? = some (A a1.toNatClampNeg, .inr (6, [.int ((T 3) a1.toNatClampNeg), .int ((upd (T 4) a1.toNatClampNeg a2) a1.toNatClampNeg), .int ((T 5) a1.toNatClampNeg)])) := hz9
          refine va_putN (D := G.1) (ci := 6) (v := .int a3) (ty := .int) (C := RX5) (T := TX5) (N := 3) hx hb hts hi_X5 tyX5 tyX5_ok nmX5 hown hK hP hD hS kz9 hz9 rfl 2 (by decide) (va_Nw.use rfl (hNs.1 _ (List.mem_append_left _ (List.mem_of_getElem? (i := 1) rfl)))) (fun _ h9 => h9) rfl (by decide +kernel) rfl rfl (Nat.le_of_ble_eq_true rfl) dX6_pipe_68 (fun Hz Lz hP hD hS => ?_)
          have hP : va_P G.1 vwCl (zw_8.set kz9 (A a1.toNatClampNeg, .inr (6, [.int ((T 3) a1.toNatClampNeg), .int ((upd (T 4) a1.toNatClampNeg a2) a1.toNatClampNeg), .int a3]))) Hz := hP
          have hD : va_D Aw (zw_8.set kz9 (A a1.toNatClampNeg, .inr (6, [.int ((T 3) a1.toNatClampNeg), .int ((upd (T 4) a1.toNatClampNeg a2) a1.toNatClampNeg), .int a3]))) := hD
          have hC : sCQ G d r A mc g N (va_up (va_up T 4 (upd (T 4) a1.toNatClampNeg a2)) 5 (upd (T 5) a1.toNatClampNeg a3)) (zw_8.set kz9 (A a1.toNatClampNeg, .inr (6, [.int ((T 3) a1.toNatClampNeg), .int ((upd (T 4) a1.toNatClampNeg a2) a1.toNatClampNeg), .int a3]))) := (sC_v5 hC hN (zCl (sIx_in.mp zok_1) (by omega)).1 zk9 hz9)
          generalize (zw_8.set kz9 (A a1.toNatClampNeg, .inr (6, [.int ((T 3) a1.toNatClampNeg), .int ((upd (T 4) a1.toNatClampNeg a2) a1.toNatClampNeg), .int a3]))) = zw_10 at hP hD hC
          refine lv_aload_n hx hb dX6_pipe_71 rfl (lv_at hl 1 rfl) ?_
          refine lv_iload_n hx hb dX6_pipe_72 rfl (lv_at hl 2 rfl) ?_
          have hh0 : zw_10[0]? = some (r 0, .inr (7, [.ref (r 1), .ref (r 2), .ref (r 3), .ref (r 4), .ref (r 5), .ref (r 6), .ref (r 7), .ref (r 8), .ref (r 9), .ref (r 10), .int (nI (N 0)), .int ((T 19) 0), .int ((T 19) 1), .int (nI (N 6))])) := hC.1.1 0 (by omega)
          refine z_csi (va_Run.run (va_runV (As := [.int a1]) (rest := []) ⟨hx, hb, hml, hown, hts⟩ (c_X6_countTagsOn l G d r A mc g N (va_up (va_up T 4 (upd (T 4) a1.toNatClampNeg a2)) 5 (upd (T 5) a1.toNatClampNeg a3)) zw_10 a1 hC hn2) (cwV 1 hts gX6_pipe_X6_countTagsOn rfl rfl rfl (by decide +kernel) ⟨Nat.le_of_ble_eq_true rfl, Nat.le_of_ble_eq_true rfl⟩) (z_rv hK hP (ci := 7) (q0 := 0) rfl hh0 hP hZ.1 hS) rfl rfl hl.1 rfl (lv_room (Nat.le_of_ble_eq_true rfl)) dX6_pipe_73 ⟨(show 0 + 1 + 0 ≤ 2 by omega), (show 0 + 6 + 0 ≤ 12 by omega)⟩)) (fun zr_11 hzr_11 => ?_)
          subst hzr_11
          exact vx_ret (z_widen (k := 2) (n := 12) (show 0 + 1 ≤ 2 by omega) (show 0 + 6 ≤ 12 by omega) (W.iret (v := nI (sOn N (va_up (va_up T 4 (upd (T 4) a1.toNatClampNeg a2)) 5 (upd (T 5) a1.toNatClampNeg a3)) a1)) hx hb hr (fun t ht hW => ⟨⟨nI (sOn N (va_up (va_up T 4 (upd (T 4) a1.toNatClampNeg a2)) 5 (upd (T 5) a1.toNatClampNeg a3)) a1), zw_10, rfl, ⟨hk0, rfl, _, _, _, hC⟩, ⟨by rw [ht]; exact hP, hD⟩⟩, hS.F ht⟩) hS.2.2 dX6_pipe_76 hlocks))
        · skip
          obtain ⟨sa, hsa⟩ := zText hNs (i := 1) (q := ("BoilerLog", 97, "the valve is open")) rfl
          exact vx_throwS (own := RX6) (cls := "java/lang/IllegalStateException") (names := ["java/lang/RuntimeException", "java/lang/Exception"]) (A := fun _ => False) hx hb hst hown (by decide) (by decide) (hts _ (List.mem_of_getElem? (i := 3) rfl)) (hts _ (List.mem_of_getElem? (i := 4) rfl)) hsa (zThrow_all (fun w h => hts w (List.mem_cons_of_mem _ (List.mem_append_left _ (List.mem_append_right _ h)))) zBad_99 hNs) zGood_99 (hZ.1.1.narrow (fun _ h => h.elim)) (hZ.1.2.1.narrow (fun _ h => h.elim)) hS0 (by rw [hml]; exact hl.1) dX6_pipe_49 dX6_pipe_52 dX6_pipe_53 dX6_pipe_55 dX6_pipe_58 (fun x h => (hxt x h).elim) (Nat.le_of_ble_eq_true rfl) (Nat.le_of_ble_eq_true rfl) (show 0 + 1 + 1 ≤ 2 by omega) (show 0 + 6 + 6 ≤ 12 by omega) hlocks (fun t _ hz hq => ⟨2, (show sK3 (sIx a1 8) (((sEnd a2) && (sEnd a3)) && !decide (a2 = a3)) (decide (T 3 a1.toNatClampNeg = 0)) = (3 : Int32) from by simp [sK1, sK2, sK3, zok_1, zc_2, zc_4, zc_5, zc_7]), rfl, ⟨Nat.le_trans hS0.1 hz, fun q hq1 _ => (hq q (Nat.lt_of_lt_of_le hq1 hS0.1)).trans (hS0.2.1 q hq1 id)⟩⟩) (fun z hz => (hS0.2.2 z hz).elim) (show 0 + 1 + 1 ≤ 2 by omega) (show 0 + 6 + 6 ≤ 12 by omega)
      · skip
        obtain ⟨sa, hsa⟩ := zText hNs (i := 0) (q := ("BoilerLog", 86, "no way for a valve")) rfl
        exact vx_throwS (own := RX6) (cls := "java/lang/IllegalArgumentException") (names := ["java/lang/RuntimeException", "java/lang/Exception"]) (A := fun _ => False) hx hb hst hown (by decide) (by decide) (hts _ (List.mem_of_getElem? (i := 1) rfl)) (hts _ (List.mem_of_getElem? (i := 2) rfl)) hsa (zThrow_all (fun w h => hts w (List.mem_cons_of_mem _ (List.mem_append_left _ (List.mem_append_left _ (List.mem_append_right _ h))))) zBad_88 hNs) zGood_88 (hZ.1.1.narrow (fun _ h => h.elim)) (hZ.1.2.1.narrow (fun _ h => h.elim)) hS0 (by rw [hml]; exact hl.1) dX6_pipe_23 dX6_pipe_26 dX6_pipe_27 dX6_pipe_29 dX6_pipe_32 (fun x h => (hxt x h).elim) (Nat.le_of_ble_eq_true rfl) (Nat.le_of_ble_eq_true rfl) (show 0 + 1 + 1 ≤ 2 by omega) (show 0 + 6 + 6 ≤ 12 by omega) hlocks (fun t _ hz hq => ⟨1, (show sK3 (sIx a1 8) (((sEnd a2) && (sEnd a3)) && !decide (a2 = a3)) (decide (T 3 a1.toNatClampNeg = 0)) = (2 : Int32) from by simp [sK1, sK2, sK3, zok_1, zc_2, zc_4, zc_5]), rfl, ⟨Nat.le_trans hS0.1 hz, fun q hq1 _ => (hq q (Nat.lt_of_lt_of_le hq1 hS0.1)).trans (hS0.2.1 q hq1 id)⟩⟩) (fun z hz => (hS0.2.2 z hz).elim) (show 0 + 1 + 1 ≤ 2 by omega) (show 0 + 6 + 6 ≤ 12 by omega)

set_option maxHeartbeats 4000000 in
set_option maxRecDepth 100000 in
theorem c_X6_finish (l : Launch) (hst : l.stackTraces = false) (G : zG) (d : Nat) (r A : Nat → Nat) (mc : Nat → Int32) (g : Nat → Nat → Int32) (N : Nat → Nat) (T : Nat → Nat → Int32) (w : va_W) (K : Nat) (a1 a2 : Int32) (sz : Nat) (hC : sCQ G d r A mc g N T w) (hI : sInv N T K 0) (hKk : K ≤ 511) : vx_Met l yX6_finish wsX6_finish ({ frames := 7, cells := (8 + zmc (sK2 ((sIx a1 9) && (sIx a2 (N 6))) ((decide (T 18 a2.toNatClampNeg = a1)) && (decide (T 2 a1.toNatClampNeg = 0)))) (N 1) (N 1 + 1)), slots := (200 + zms (sK2 ((sIx a1 9) && (sIx a2 (N 6))) ((decide (T 18 a2.toNatClampNeg = a1)) && (decide (T 2 a1.toNatClampNeg = 0)))) (N 1) (N 1 + 1)), locals := 111 }) (va_Pc [.ref (r 0), .int a1, .int a2] (zCu G d w sz)) (va_Qv (fun w1 : va_W => sK2 ((sIx a1 9) && (sIx a2 (N 6))) ((decide (T 18 a2.toNatClampNeg = a1)) && (decide (T 2 a1.toNatClampNeg = 0))) = 0 ∧ sCO G d r ((nFin N T a1 a2).1) ((nFin N T a1 a2).2) w1) (zB G (va_A w sz)) (va_A w sz)) (zXk ["java/lang/IndexOutOfBoundsException", "java/lang/IllegalStateException"] (sK2 ((sIx a1 9) && (sIx a2 (N 6))) ((decide (T 18 a2.toNatClampNeg = a1)) && (decide (T 2 a1.toNatClampNeg = 0))))) ((8 + zmc (sK2 ((sIx a1 9) && (sIx a2 (N 6))) ((decide (T 18 a2.toNatClampNeg = a1)) && (decide (T 2 a1.toNatClampNeg = 0)))) (N 1) (N 1 + 1))) ((200 + zms (sK2 ((sIx a1 9) && (sIx a2 (N 6))) ((decide (T 18 a2.toNatClampNeg = a1)) && (decide (T 2 a1.toNatClampNeg = 0)))) (N 1) (N 1 + 1))) (va_A w sz) := by
  refine vx_ofW (cc := cX6_finish) (maxL := 3) (ret := none) (by decide) rfl ?_
  intro p e s m args below meth c s₁ B hml hxt hv
  obtain ⟨rfl, hsz, hP, hK, hD0, hZ⟩ := hv
  have hx := B.exec
  have hb := B.bytes
  have hr := B.returns
  have hts := atoms_spec (ws := wsX6_finish) B.pre
  have hown : s.vm.findClass RX6 = some m.cls := findClass_of_methodNamed B.named
  have hlocks := B.notSynchronized
  have hi_X6 : ∀ w ∈ u_ws RX6 TX6 14, w ∈ wsX6_finish := (fun _ h => List.mem_cons_of_mem _ (List.mem_append_left _ (List.mem_append_left _ (List.mem_append_left _ (List.mem_append_right _ h)))))
  have hNs := hZ.1.2.2
  have hS0 : va_S (fun _ => False) s.heap s.heap [] := va_S.rf
  subst hsz
  have hD := hD0.self (sz := s.heap.size)
  generalize hAe : va_A w s.heap.size = Aw at hD hZ ⊢
  have hA : ∀ q : Nat, s.heap.size ≤ q → Aw q := fun q h => by rw [← hAe]; exact Or.inr h
  have hS : va_S Aw s.heap s.heap [] := va_S.rf
  have hl := lv_entry ([.ref (r 0), .int a1, .int a2]) (n := 3) (Nat.le_of_ble_eq_true rfl)
  rw [lg_entry_eq]
  generalize (lg_sl ([.ref (r 0), .int a1, .int a2]) ++ List.replicate (3 - (lg_sl ([.ref (r 0), .int a1, .int a2])).length) Slot.unset).toArray = ls at hl ⊢
  have hl : lv_has ls 3 [(0, .ref (r 0)), (1, .int a1), (2, .int a2)] := hl
  have hN := hI.sm
  obtain ⟨hn2, hn3, hn4, hn5, hn6, hn0⟩ := id hN
  have h1n := sN1_c hI hKk
  refine lv_iload_n hx hb dX6_finish_0 rfl (lv_at hl 1 rfl) ?_
  refine z_chk (vx_runS (As := [.int a1]) (rest := []) ⟨hx, hb, hml, hown, hts⟩ (c_X6_checkPerson l hst G w a1) (va_cwS 1 hts gX6_finish_X6_checkPerson rfl rfl rfl (by decide +kernel) ⟨Nat.le_of_ble_eq_true rfl, Nat.le_of_ble_eq_true rfl⟩) (z_rs hK hP hZ.1 hS) rfl rfl hl.1 rfl (lv_room (Nat.le_of_ble_eq_true rfl)) dX6_finish_1 ⟨(show 0 + 1 ≤ (8 + zmc (sK2 ((sIx a1 9) && (sIx a2 (N 6))) ((decide (T 18 a2.toNatClampNeg = a1)) && (decide (T 2 a1.toNatClampNeg = 0)))) (N 1) (N 1 + 1)) by first | omega | (rw [zmc_0 hk0]; omega) | (rw [zms_0 hk0]; omega)), (show 0 + 6 ≤ (200 + zms (sK2 ((sIx a1 9) && (sIx a2 (N 6))) ((decide (T 18 a2.toNatClampNeg = a1)) && (decide (T 2 a1.toNatClampNeg = 0)))) (N 1) (N 1 + 1)) by first | omega | (rw [zmc_0 hk0]; omega) | (rw [zms_0 hk0]; omega))⟩) hP hS0 (fun zno => ⟨0, (show sK2 ((sIx a1 9) && (sIx a2 (N 6))) ((decide (T 18 a2.toNatClampNeg = a1)) && (decide (T 2 a1.toNatClampNeg = 0))) = (1 : Int32) from by simp [sK1, sK2, sK3, zno]), rfl⟩) (fun x h => (hxt x h).elim) hlocks (show 0 + 1 ≤ (8 + zmc (sK2 ((sIx a1 9) && (sIx a2 (N 6))) ((decide (T 18 a2.toNatClampNeg = a1)) && (decide (T 2 a1.toNatClampNeg = 0)))) (N 1) (N 1 + 1)) by omega) (show 0 + 6 ≤ (200 + zms (sK2 ((sIx a1 9) && (sIx a2 (N 6))) ((decide (T 18 a2.toNatClampNeg = a1)) && (decide (T 2 a1.toNatClampNeg = 0)))) (N 1) (N 1 + 1)) by omega) (fun zok_1 Hz Lz hP hS0 => ?_)
  have hS : va_S Aw s.heap Hz Lz := z_SF hS0
  refine lv_aload_n hx hb dX6_finish_4 rfl (lv_at hl 0 rfl) ?_
  refine lv_iload_n hx hb dX6_finish_5 rfl (lv_at hl 2 rfl) ?_
  have hh0 : w[0]? = some (r 0, .inr (7, [.ref (r 1), .ref (r 2), .ref (r 3), .ref (r 4), .ref (r 5), .ref (r 6), .ref (r 7), .ref (r 8), .ref (r 9), .ref (r 10), .int (nI (N 0)), .int ((T 19) 0), .int ((T 19) 1), .int (nI (N 6))])) := hC.1.1 0 (by omega)
  refine z_chk (vx_runV (As := [.int a2]) (rest := []) ⟨hx, hb, hml, hown, hts⟩ (c_X6_checkThread l hst G w 0 r (nI (N 0)) ((T 19) 0) ((T 19) 1) (nI (N 6)) (N 6) a2 hh0 rfl (by omega)) (cwV 1 hts gX6_finish_X6_checkThread rfl rfl rfl (by decide +kernel) ⟨Nat.le_of_ble_eq_true rfl, Nat.le_of_ble_eq_true rfl⟩) (z_rv hK hP (ci := 7) (q0 := 0) rfl hh0 hP hZ.1 hS) rfl rfl hl.1 rfl (lv_room (Nat.le_of_ble_eq_true rfl)) dX6_finish_6 ⟨(show 0 + 1 + 1 ≤ (8 + zmc (sK2 ((sIx a1 9) && (sIx a2 (N 6))) ((decide (T 18 a2.toNatClampNeg = a1)) && (decide (T 2 a1.toNatClampNeg = 0)))) (N 1) (N 1 + 1)) by first | omega | (rw [zmc_0 hk0]; omega) | (rw [zms_0 hk0]; omega)), (show 0 + 6 + 6 ≤ (200 + zms (sK2 ((sIx a1 9) && (sIx a2 (N 6))) ((decide (T 18 a2.toNatClampNeg = a1)) && (decide (T 2 a1.toNatClampNeg = 0)))) (N 1) (N 1 + 1)) by first | omega | (rw [zmc_0 hk0]; omega) | (rw [zms_0 hk0]; omega))⟩) hP hS0 (fun zno => ⟨0, (show sK2 ((sIx a1 9) && (sIx a2 (N 6))) ((decide (T 18 a2.toNatClampNeg = a1)) && (decide (T 2 a1.toNatClampNeg = 0))) = (1 : Int32) from by simp [sK1, sK2, sK3, zok_1, zno]), rfl⟩) (fun x h => (hxt x h).elim) hlocks (show 0 + 1 + 1 ≤ (8 + zmc (sK2 ((sIx a1 9) && (sIx a2 (N 6))) ((decide (T 18 a2.toNatClampNeg = a1)) && (decide (T 2 a1.toNatClampNeg = 0)))) (N 1) (N 1 + 1)) by omega) (show 0 + 6 + 6 ≤ (200 + zms (sK2 ((sIx a1 9) && (sIx a2 (N 6))) ((decide (T 18 a2.toNatClampNeg = a1)) && (decide (T 2 a1.toNatClampNeg = 0)))) (N 1) (N 1 + 1)) by omega) (fun zok_6 Hz Lz hP hS0 => ?_)
  have hS : va_S Aw s.heap Hz Lz := z_SF hS0
  refine lv_aload_n hx hb dX6_finish_9 rfl (lv_at hl 0 rfl) ?_
  refine lv_iload_n hx hb dX6_finish_10 rfl (lv_at hl 1 rfl) ?_
  have hh3 : w[3]? = some (r 3, .inl (G.2 2, 9, .inl (T 2))) := hC.1.1 3 (by omega)
  refine z_chk (vx_runV (As := [.int a1]) (rest := []) ⟨hx, hb, hml, hown, hts⟩ (c_X6_checkNotGone l hst G w 0 r (nI (N 0)) ((T 19) 0) ((T 19) 1) (nI (N 6)) 3 (T 2) a1 hh0 hh3 (sIx_in.mp zok_1)) (cwV 1 hts gX6_finish_X6_checkNotGone rfl rfl rfl (by decide +kernel) ⟨Nat.le_of_ble_eq_true rfl, Nat.le_of_ble_eq_true rfl⟩) (z_rv hK hP (ci := 7) (q0 := 0) rfl hh0 hP hZ.1 hS) rfl rfl hl.1 rfl (lv_room (Nat.le_of_ble_eq_true rfl)) dX6_finish_11 ⟨(show 0 + 1 + 1 + 1 ≤ (8 + zmc (sK2 ((sIx a1 9) && (sIx a2 (N 6))) ((decide (T 18 a2.toNatClampNeg = a1)) && (decide (T 2 a1.toNatClampNeg = 0)))) (N 1) (N 1 + 1)) by first | omega | (rw [zmc_0 hk0]; omega) | (rw [zms_0 hk0]; omega)), (show 0 + 6 + 6 + 6 ≤ (200 + zms (sK2 ((sIx a1 9) && (sIx a2 (N 6))) ((decide (T 18 a2.toNatClampNeg = a1)) && (decide (T 2 a1.toNatClampNeg = 0)))) (N 1) (N 1 + 1)) by first | omega | (rw [zmc_0 hk0]; omega) | (rw [zms_0 hk0]; omega))⟩) hP hS0 (fun zno => ⟨1, (show sK2 ((sIx a1 9) && (sIx a2 (N 6))) ((decide (T 18 a2.toNatClampNeg = a1)) && (decide (T 2 a1.toNatClampNeg = 0))) = (2 : Int32) from by simp [sK1, sK2, sK3, zok_1, zok_6, zno]), rfl⟩) (fun x h => (hxt x h).elim) hlocks (show 0 + 1 + 1 + 1 ≤ (8 + zmc (sK2 ((sIx a1 9) && (sIx a2 (N 6))) ((decide (T 18 a2.toNatClampNeg = a1)) && (decide (T 2 a1.toNatClampNeg = 0)))) (N 1) (N 1 + 1)) by omega) (show 0 + 6 + 6 + 6 ≤ (200 + zms (sK2 ((sIx a1 9) && (sIx a2 (N 6))) ((decide (T 18 a2.toNatClampNeg = a1)) && (decide (T 2 a1.toNatClampNeg = 0)))) (N 1) (N 1 + 1)) by omega) (fun zok_11 Hz Lz hP hS0 => ?_)
  have hS : va_S Aw s.heap Hz Lz := z_SF hS0
  refine lv_aload_n hx hb dX6_finish_14 rfl (lv_at hl 0 rfl) ?_
  refine va_get (D := G.1) (ci := 7) (v := .ref (r 8)) (C := RX6) (T := TX6) (N := 14) hx hb hts hi_X6 hown hK hP 0 hh0 rfl 7 (by decide) (hts (.fieldLink RX6 39 "BoilerLog" "tasks" "[I") (List.mem_of_getElem? (i := 3) rfl)) (fun _ h9 => h9) rfl dX6_finish_15 ?_
  refine lv_iload_n hx hb dX6_finish_18 rfl (lv_at hl 2 rfl) ?_
  have hh8 : w[8]? = some (r 8, .inl (G.2 0, 60, .inl (T 18))) := hC.1.1 8 (by omega)
  refine va_iald hx hb hK hP 8 0 hh8 rfl (vp_in_m (sIx_in.mp zok_6) hn6) dX6_finish_19 ?_
  refine lv_iload_n hx hb dX6_finish_20 rfl (lv_at hl 1 rfl) ?_
  refine lv_icmp_eq (tgt := 35) hx hb dX6_finish_21 (by decide) (fun zc_1 => ?_) (fun zc_1 => ?_)
  · skip
    have hk0 : sK2 ((sIx a1 9) && (sIx a2 (N 6))) ((decide (T 18 a2.toNatClampNeg = a1)) && (decide (T 2 a1.toNatClampNeg = 0))) = 0 := by simp [sK1, sK2, sK3, zok_1, zok_6, zok_11, zc_1]
    have hzq1 := zpc_m (Nat.le_succ (N 1))
    have hzq2 := zps_m (Nat.le_succ (N 1))
    refine lv_aload_n hx hb dX6_finish_35 rfl (lv_at hl 0 rfl) ?_
    refine va_get (D := G.1) (ci := 7) (v := .ref (r 8)) (C := RX6) (T := TX6) (N := 14) hx hb hts hi_X6 hown hK hP 0 hh0 rfl 7 (by decide) (hts (.fieldLink RX6 39 "BoilerLog" "tasks" "[I") (List.mem_of_getElem? (i := 3) rfl)) (fun _ h9 => h9) rfl dX6_finish_36 ?_
    refine lv_iload_n hx hb dX6_finish_39 rfl (lv_at hl 2 rfl) ?_
    refine lv_iconst (v := (-1)) hx hb dX6_finish_40 (by decide) ?_
    refine va_iast hx hb hK hP hD hS 8 0 hh8 rfl (vp_in_m (sIx_in.mp zok_6) hn6) dX6_finish_41 (fun Hz Lz hP hD hS => ?_)
    have hP : va_P G.1 vwCl (w.set 8 (r 8, .inl (G.2 0, 60, .inl (upd (T 18) a2.toNatClampNeg (-1))))) Hz := hP
    have hD : va_D Aw (w.set 8 (r 8, .inl (G.2 0, 60, .inl (upd (T 18) a2.toNatClampNeg (-1))))) := hD
    have hC : sCQ G d r A mc g N (va_up T 18 (upd (T 18) a2.toNatClampNeg (-1))) (w.set 8 (r 8, .inl (G.2 0, 60, .inl (upd (T 18) a2.toNatClampNeg (-1))))) := (sC_x8 hC hN)
    generalize (w.set 8 (r 8, .inl (G.2 0, 60, .inl (upd (T 18) a2.toNatClampNeg (-1))))) = zw_2 at hP hD hC
    refine lv_aload_n hx hb dX6_finish_42 rfl (lv_at hl 0 rfl) ?_
    have hh0 : zw_2[0]? = some (r 0, .inr (7, [.ref (r 1), .ref (r 2), .ref (r 3), .ref (r 4), .ref (r 5), .ref (r 6), .ref (r 7), .ref (r 8), .ref (r 9), .ref (r 10), .int (nI (N 0)), .int ((T 19) 0), .int ((T 19) 1), .int (nI (N 6))])) := hC.1.1 0 (by omega)
    refine va_get (D := G.1) (ci := 7) (v := .ref (r 9)) (C := RX6) (T := TX6) (N := 14) hx hb hts hi_X6 hown hK hP 0 hh0 rfl 8 (by decide) (hts (.fieldLink RX6 45 "BoilerLog" "log" "LBoilerLog$Log;") (List.mem_of_getElem? (i := 4) rfl)) (fun _ h9 => h9) rfl dX6_finish_43 ?_
    refine lv_aload_n hx hb dX6_finish_46 rfl (lv_at hl 0 rfl) ?_
    refine va_get (D := G.1) (ci := 7) (v := .int (nI (N 0))) (C := RX6) (T := TX6) (N := 14) hx hb hts hi_X6 hown hK hP 0 hh0 rfl 10 (by decide) (hts (.fieldLink RX6 56 "BoilerLog" "now" "I") (List.mem_of_getElem? (i := 5) rfl)) (fun _ h9 => h9) rfl dX6_finish_47 ?_
    refine lv_bipush (v := 6) hx hb dX6_finish_50 (by decide) ?_
    refine lv_iload_n hx hb dX6_finish_52 rfl (lv_at hl 1 rfl) ?_
    refine lv_iload_n hx hb dX6_finish_53 rfl (lv_at hl 2 rfl) ?_
    have hh9 : zw_2[9]? = some (r 9, .inr (3, [.ref (A 8), .int (nI (N 1))])) := hC.1.1 9 (by omega)
    refine z_cuv (va_runVN (As := [.int (nI (N 0)), .int 6, .int a1, .int a2]) (rest := []) ⟨hx, hb, hml, hown, hts⟩ (c_X2_note l G d r A mc g N (va_up T 18 (upd (T 18) a2.toNatClampNeg (-1))) zw_2 6 a1 a2 Hz.size hC hN h1n) ⟨va_cnB 4 hts gX6_finish_X2_note_n154 rfl rfl rfl (hNs.1 _ (List.mem_append_left _ (List.mem_of_getElem? (i := 16) rfl))) (hts (.initialized RX2) (List.mem_of_getElem? (i := 23) rfl)) (by decide +kernel) ⟨Nat.le_of_ble_eq_true rfl, Nat.le_of_ble_eq_true rfl⟩, hts (.instanceMethod yX2_note) (List.mem_of_getElem? (i := 22) rfl), hts (.selects RX2 yX2_note yX2_note) (List.mem_of_getElem? (i := 24) rfl)⟩ (z_wv hK hP (ci := 3) (q0 := 9) rfl hh9 hP hD hZ hS hA) rfl rfl hl.1 rfl (lv_room (Nat.le_of_ble_eq_true rfl)) dX6_finish_54 ⟨(show 0 + 1 + 1 + 1 + (zpc (N 1 + 1) - zpc (N 1)) ≤ (8 + zmc (sK2 ((sIx a1 9) && (sIx a2 (N 6))) ((decide (T 18 a2.toNatClampNeg = a1)) && (decide (T 2 a1.toNatClampNeg = 0)))) (N 1) (N 1 + 1)) by first | omega | (rw [zmc_0 hk0]; omega) | (rw [zms_0 hk0]; omega)), (show 0 + 6 + 6 + 6 + (zps (N 1 + 1) - zps (N 1)) ≤ (200 + zms (sK2 ((sIx a1 9) && (sIx a2 (N 6))) ((decide (T 18 a2.toNatClampNeg = a1)) && (decide (T 2 a1.toNatClampNeg = 0)))) (N 1) (N 1 + 1)) by first | omega | (rw [zmc_0 hk0]; omega) | (rw [zms_0 hk0]; omega))⟩) hD hS hA (fun zw_3 Hz Lz hw hP hD hS => ?_)
    obtain ⟨zA_3, mc, g, hC, heA_3⟩ := hw
    exact vx_ret (z_widen (k := (8 + zmc (sK2 ((sIx a1 9) && (sIx a2 (N 6))) ((decide (T 18 a2.toNatClampNeg = a1)) && (decide (T 2 a1.toNatClampNeg = 0)))) (N 1) (N 1 + 1))) (n := (200 + zms (sK2 ((sIx a1 9) && (sIx a2 (N 6))) ((decide (T 18 a2.toNatClampNeg = a1)) && (decide (T 2 a1.toNatClampNeg = 0)))) (N 1) (N 1 + 1))) (show 0 + 1 + 1 + 1 + (zpc (N 1 + 1) - zpc (N 1)) ≤ (8 + zmc (sK2 ((sIx a1 9) && (sIx a2 (N 6))) ((decide (T 18 a2.toNatClampNeg = a1)) && (decide (T 2 a1.toNatClampNeg = 0)))) (N 1) (N 1 + 1)) by first | omega | (rw [zmc_0 hk0]; omega) | (rw [zms_0 hk0]; omega)) (show 0 + 6 + 6 + 6 + (zps (N 1 + 1) - zps (N 1)) ≤ (200 + zms (sK2 ((sIx a1 9) && (sIx a2 (N 6))) ((decide (T 18 a2.toNatClampNeg = a1)) && (decide (T 2 a1.toNatClampNeg = 0)))) (N 1) (N 1 + 1)) by first | omega | (rw [zmc_0 hk0]; omega) | (rw [zms_0 hk0]; omega)) (W.vret hx hb hr (fun t ht hW => ⟨⟨zw_3, rfl, ⟨hk0, _, _, _, hC⟩, ⟨by rw [ht]; exact hP, hD⟩⟩, hS.F ht⟩) hS.2.2 dX6_finish_57 hlocks))
  · skip
    obtain ⟨sa, hsa⟩ := zText hNs (i := 14) (q := ("BoilerLog", 260, "no open task of the person")) rfl
    exact vx_throwSW (own := RX6) (cls := "java/lang/IllegalStateException") (names := ["java/lang/RuntimeException", "java/lang/Exception"]) (A := fun _ => False) hx hb hst hown (by decide) (by decide) (hts _ (List.mem_of_getElem? (i := 1) rfl)) (hts _ (List.mem_of_getElem? (i := 2) rfl)) hsa (zThrow_all (fun w h => hts w (List.mem_cons_of_mem _ (List.mem_append_left _ (List.mem_append_right _ h)))) zBad_99 hNs) zGood_99 (hZ.1.1.narrow (fun _ h => h.elim)) (hZ.1.2.1.narrow (fun _ h => h.elim)) hS0 (by rw [hml]; exact hl.1) dX6_finish_24 dX6_finish_27 dX6_finish_28 dX6_finish_31 dX6_finish_34 (fun x h => (hxt x h).elim) (Nat.le_of_ble_eq_true rfl) (Nat.le_of_ble_eq_true rfl) (show 0 + 1 + 1 + 1 + 1 ≤ (8 + zmc (sK2 ((sIx a1 9) && (sIx a2 (N 6))) ((decide (T 18 a2.toNatClampNeg = a1)) && (decide (T 2 a1.toNatClampNeg = 0)))) (N 1) (N 1 + 1)) by omega) (show 0 + 6 + 6 + 6 + 6 ≤ (200 + zms (sK2 ((sIx a1 9) && (sIx a2 (N 6))) ((decide (T 18 a2.toNatClampNeg = a1)) && (decide (T 2 a1.toNatClampNeg = 0)))) (N 1) (N 1 + 1)) by omega) hlocks (fun t _ hz hq => ⟨1, (show sK2 ((sIx a1 9) && (sIx a2 (N 6))) ((decide (T 18 a2.toNatClampNeg = a1)) && (decide (T 2 a1.toNatClampNeg = 0))) = (2 : Int32) from by simp [sK1, sK2, sK3, zok_1, zok_6, zok_11, zc_1]), rfl, ⟨Nat.le_trans hS0.1 hz, fun q hq1 _ => (hq q (Nat.lt_of_lt_of_le hq1 hS0.1)).trans (hS0.2.1 q hq1 id)⟩⟩) (fun z hz => (hS0.2.2 z hz).elim) (show 0 + 1 + 1 + 1 + 1 ≤ (8 + zmc (sK2 ((sIx a1 9) && (sIx a2 (N 6))) ((decide (T 18 a2.toNatClampNeg = a1)) && (decide (T 2 a1.toNatClampNeg = 0)))) (N 1) (N 1 + 1)) by omega) (show 0 + 6 + 6 + 6 + 6 ≤ (200 + zms (sK2 ((sIx a1 9) && (sIx a2 (N 6))) ((decide (T 18 a2.toNatClampNeg = a1)) && (decide (T 2 a1.toNatClampNeg = 0)))) (N 1) (N 1 + 1)) by omega)

set_option maxHeartbeats 4000000 in
set_option maxRecDepth 100000 in
theorem c_X6_valveOf (l : Launch) (hst : l.stackTraces = false) (G : zG) (d : Nat) (r A : Nat → Nat) (mc : Nat → Int32) (g : Nat → Nat → Int32) (N : Nat → Nat) (T : Nat → Nat → Int32) (w : va_W) (K : Nat) (a1 : Int32) (sz : Nat) (hC : sCQ G d r A mc g N T w) (hI : sInv N T K 0) (hKk : K ≤ 511) : vx_Met l yX6_valveOf wsX6_valveOf ({ frames := 7, cells := 2, slots := 12, locals := 111 }) (va_Pc [.ref (r 0), .int a1] (zCu G d w sz)) (va_Qi (fun (r1 : Int32) (w1 : va_W) => sK1 (sIx a1 (N 2)) = 0 ∧ r1 = rValveOf T a1 ∧ sCO G d r N T w1) (zB G (va_A w sz)) (va_A w sz)) (zXk ["java/lang/IndexOutOfBoundsException"] (sK1 (sIx a1 (N 2)))) (2) (12) (va_A w sz) := by
  refine vx_ofW (cc := cX6_valveOf) (maxL := 3) (ret := (some .int)) (by decide) rfl ?_
  intro p e s m args below meth c s₁ B hml hxt hv
  obtain ⟨rfl, hsz, hP, hK, hD0, hZ⟩ := hv
  have hx := B.exec
  have hb := B.bytes
  have hr := B.returns
  have hts := atoms_spec (ws := wsX6_valveOf) B.pre
  have hown : s.vm.findClass RX6 = some m.cls := findClass_of_methodNamed B.named
  have hlocks := B.notSynchronized
  have hi_X4 : ∀ w ∈ u_ws RX4 TX4 4, w ∈ wsX6_valveOf := (fun _ h => List.mem_cons_of_mem _ (List.mem_append_left _ (List.mem_append_left _ (List.mem_append_right _ h))))
  have hi_X6 : ∀ w ∈ u_ws RX6 TX6 14, w ∈ wsX6_valveOf := (fun _ h => List.mem_cons_of_mem _ (List.mem_append_left _ (List.mem_append_left _ (List.mem_append_left _ (List.mem_append_right _ h)))))
  have hNs := hZ.1.2.2
  have hS0 : va_S (fun _ => False) s.heap s.heap [] := va_S.rf
  subst hsz
  have hD := hD0.self (sz := s.heap.size)
  generalize hAe : va_A w s.heap.size = Aw at hD hZ ⊢
  have hA : ∀ q : Nat, s.heap.size ≤ q → Aw q := fun q h => by rw [← hAe]; exact Or.inr h
  have hS : va_S Aw s.heap s.heap [] := va_S.rf
  have hl := lv_entry ([.ref (r 0), .int a1]) (n := 3) (Nat.le_of_ble_eq_true rfl)
  rw [lg_entry_eq]
  generalize (lg_sl ([.ref (r 0), .int a1]) ++ List.replicate (3 - (lg_sl ([.ref (r 0), .int a1])).length) Slot.unset).toArray = ls at hl ⊢
  have hl : lv_has ls 3 [(0, .ref (r 0)), (1, .int a1)] := hl
  have hN := hI.sm
  obtain ⟨hn2, hn3, hn4, hn5, hn6, hn0⟩ := id hN
  have h1n := sN1_c hI hKk
  refine lv_aload_n hx hb dX6_valveOf_0 rfl (lv_at hl 0 rfl) ?_
  refine lv_iload_n hx hb dX6_valveOf_1 rfl (lv_at hl 1 rfl) ?_
  have hh0 : w[0]? = some (r 0, .inr (7, [.ref (r 1), .ref (r 2), .ref (r 3), .ref (r 4), .ref (r 5), .ref (r 6), .ref (r 7), .ref (r 8), .ref (r 9), .ref (r 10), .int (nI (N 0)), .int ((T 19) 0), .int ((T 19) 1), .int (nI (N 6))])) := hC.1.1 0 (by omega)
  have hh5 : w[5]? = some (r 5, .inr (0, [.int (mc 0), cDt d (N 2) (A 9), .int (nI (N 2))])) := hC.1.1 5 (by omega)
  refine z_chk (vx_runV (As := [.int a1]) (rest := []) ⟨hx, hb, hml, hown, hts⟩ (c_X6_checkTag l hst G w 0 r (nI (N 0)) ((T 19) 0) ((T 19) 1) (nI (N 6)) 5 (mc 0) (cDt d (N 2) (A 9)) (N 2) a1 (by first | assumption | omega | exact sIx_in.mp (by assumption)) (by first | assumption | omega | exact sIx_in.mp (by assumption)) (by first | assumption | omega | exact sIx_in.mp (by assumption))) (cwV 1 hts gX6_valveOf_X6_checkTag rfl rfl rfl (by decide +kernel) ⟨Nat.le_of_ble_eq_true rfl, Nat.le_of_ble_eq_true rfl⟩) (z_rv hK hP (ci := 7) (q0 := 0) rfl hh0 hP hZ.1 hS) rfl rfl hl.1 rfl (lv_room (Nat.le_of_ble_eq_true rfl)) dX6_valveOf_2 ⟨(show 0 + 1 ≤ 2 by omega), (show 0 + 6 ≤ 12 by omega)⟩) hP hS0 (fun zno => ⟨0, (show sK1 (sIx a1 (N 2)) = (1 : Int32) from by simp [sK1, sK2, sK3, zno]), rfl⟩) (fun x h => (hxt x h).elim) hlocks (show 0 + 1 ≤ 2 by omega) (show 0 + 6 ≤ 12 by omega) (fun zok_2 Hz Lz hP hS0 => ?_)
  have hS : va_S Aw s.heap Hz Lz := z_SF hS0
  have hk0 : sK1 (sIx a1 (N 2)) = 0 := by simp [sK1, sK2, sK3, zok_2]
  have hp2 : a1.toNatClampNeg < N 2 := (zCl (sIx_in.mp zok_2) (by omega)).1
  refine lv_aload_n hx hb dX6_valveOf_5 rfl (lv_at hl 0 rfl) ?_
  have hh0 : w[0]? = some (r 0, .inr (7, [.ref (r 1), .ref (r 2), .ref (r 3), .ref (r 4), .ref (r 5), .ref (r 6), .ref (r 7), .ref (r 8), .ref (r 9), .ref (r 10), .int (nI (N 0)), .int ((T 19) 0), .int ((T 19) 1), .int (nI (N 6))])) := hC.1.1 0 (by omega)
  refine va_get (D := G.1) (ci := 7) (v := .ref (r 5)) (C := RX6) (T := TX6) (N := 14) hx hb hts hi_X6 hown hK hP 0 hh0 rfl 4 (by decide) (hts (.fieldLink RX6 29 "BoilerLog" "tags" "Ljava/util/ArrayList;") (List.mem_of_getElem? (i := 1) rfl)) (fun _ h9 => h9) rfl dX6_valveOf_6 ?_
  refine lv_iload_n hx hb dX6_valveOf_9 rfl (lv_at hl 1 rfl) ?_
  have hh5 : w[5]? = some (r 5, .inr (0, [.int (mc 0), .ref (A 9), .int (nI (N 2))])) := by rw [← cDt_p (d := d) (a := A 9) (show 0 < N 2 by omega)]; exact hC.1.1 5 (by omega)
  obtain ⟨kz1, zk1, hz1⟩ := hC.1.2.1 9 (zL_l9 (show 0 < N 2 by omega))
  have hz1 : w[kz1]? = some (A 9, .inl (G.2 5, (lcap (N 2)), .inr (.inr (.inr (.inr (cGa A 100 (N 2))))))) := hz1
  refine z_csq (va_Run.run (va_runV (As := [.int a1]) (rest := []) ⟨hx, hb, hml, hown, hts⟩ (c_Jx4a65c_get_915e3 l G w 5 (r 5) (mc 0) (A 9) (nI (N 2)) kz1 (lcap (N 2)) (cGa A 100 (N 2)) a1 (by assumption) (by assumption) (zNn_in (sIx_in.mp zok_2)) (zLt_in (sIx_in.mp zok_2) (by omega)) (zlc (k := 60) (sIx_in.mp zok_2) (by omega) (by omega))) (cwV 1 hts gX6_valveOf_Jx4a65c_get_915e3 rfl rfl rfl (by decide +kernel) ⟨Nat.le_of_ble_eq_true rfl, Nat.le_of_ble_eq_true rfl⟩) (z_pv hK hP (ci := 0) (q0 := 5) rfl hh5 hP) rfl rfl hl.1 rfl (lv_room (Nat.le_of_ble_eq_true rfl)) dX6_valveOf_10 ⟨(show 0 + 1 + 0 ≤ 2 by omega), (show 0 + 6 + 0 ≤ 12 by omega)⟩)) (fun zr_2 hzr_2 => ?_)
  subst hzr_2
  refine W.eq (g2 := F0 m 13 ls [.ref (A (100 + a1.toNatClampNeg))]) (by first | (rw [cGa_p hp2]; done) | (rw [cGa_p hp2]; rfl)) ?_
  obtain ⟨kz3, zk3, hz3⟩ := hC.1.2.1 (100 + a1.toNatClampNeg) (zL_tag hp2)
  rw [cE_tag (show a1.toNatClampNeg < 100 by have := hp2; omega)] at hz3
  have hz3 : w[kz3]? = some (A (100 + a1.toNatClampNeg), .inr (5, [.int ((T 7) a1.toNatClampNeg), .int ((T 8) a1.toNatClampNeg), .int ((T 9) a1.toNatClampNeg), .int ((T 10) a1.toNatClampNeg)])) := hz3
  refine va_castS (cC := G.1.1 5) hx hb hown (hts (.classLink RX6 145 "BoilerLog$Tag") (List.mem_of_getElem? (i := 2) rfl)) (hK.1 5 _ rfl).2 (va_recv hK hP (ci := 5) (q0 := kz3) rfl hz3) dX6_valveOf_13 ?_
  refine lv_astore_n (lv' := [(2, .ref (A (100 + a1.toNatClampNeg))), (0, .ref (r 0)), (1, .int a1)]) hx hb dX6_valveOf_16 rfl hl (by decide) rfl (fun ls hl => ?_)
  refine lv_aload_n hx hb dX6_valveOf_17 rfl (lv_at hl 0 rfl) ?_
  refine va_getN (D := G.1) (ci := 5) (v := .int ((T 10) a1.toNatClampNeg)) (C := RX4) (T := TX4) (N := 4) hx hb hts hi_X4 hown hK hP kz3 hz3 rfl 3 (by decide) (va_Nw.use rfl (hNs.1 _ (List.mem_append_left _ (List.mem_of_getElem? (i := 2) rfl)))) (fun _ h9 => h9) rfl dX6_valveOf_18 ?_
  refine lv_if_eq (tgt := 28) hx hb dX6_valveOf_21 (by decide) (fun zc_4 => ?_) (fun zc_4 => ?_)
  · skip
    refine lv_aload_n hx hb dX6_valveOf_28 rfl (lv_at hl 0 rfl) ?_
    refine va_getN (D := G.1) (ci := 5) (v := .int ((T 8) a1.toNatClampNeg)) (C := RX4) (T := TX4) (N := 4) hx hb hts hi_X4 hown hK hP kz3 hz3 rfl 1 (by decide) (va_Nw.use rfl (hNs.1 _ (List.mem_append_left _ (List.mem_of_getElem? (i := 5) rfl)))) (fun _ h9 => h9) rfl dX6_valveOf_29 ?_
    exact vx_ret (z_widen (k := 2) (n := 12) (show 0 + 1 ≤ 2 by omega) (show 0 + 6 ≤ 12 by omega) (W.iret (v := (T 8) a1.toNatClampNeg) hx hb hr (fun t ht hW => ⟨⟨(T 8) a1.toNatClampNeg, w, rfl, ⟨hk0, (by rw [rValveOf]; simp [zc_4]), _, _, _, hC⟩, ⟨by rw [ht]; exact hP, hD⟩⟩, hS.F ht⟩) hS.2.2 dX6_valveOf_32 hlocks))
  · skip
    refine lv_iconst (v := (-1)) hx hb dX6_valveOf_24 (by decide) ?_
    refine lv_goto (tgt := 32) hx hb dX6_valveOf_25 (by decide) ?_
    exact vx_ret (z_widen (k := 2) (n := 12) (show 0 + 1 ≤ 2 by omega) (show 0 + 6 ≤ 12 by omega) (W.iret (v := (-1)) hx hb hr (fun t ht hW => ⟨⟨(-1), w, rfl, ⟨hk0, (by rw [rValveOf]; simp [zc_4]), _, _, _, hC⟩, ⟨by rw [ht]; exact hP, hD⟩⟩, hS.F ht⟩) hS.2.2 dX6_valveOf_32 hlocks))

set_option maxHeartbeats 4000000 in
set_option maxRecDepth 100000 in
theorem c_X6_ownerOf (l : Launch) (hst : l.stackTraces = false) (G : zG) (d : Nat) (r A : Nat → Nat) (mc : Nat → Int32) (g : Nat → Nat → Int32) (N : Nat → Nat) (T : Nat → Nat → Int32) (w : va_W) (K : Nat) (a1 : Int32) (sz : Nat) (hC : sCQ G d r A mc g N T w) (hI : sInv N T K 0) (hKk : K ≤ 511) : vx_Met l yX6_ownerOf wsX6_ownerOf ({ frames := 7, cells := 2, slots := 12, locals := 111 }) (va_Pc [.ref (r 0), .int a1] (zCu G d w sz)) (va_Qi (fun (r1 : Int32) (w1 : va_W) => sK1 (sIx a1 (N 2)) = 0 ∧ r1 = T 7 a1.toNatClampNeg ∧ sCO G d r N T w1) (zB G (va_A w sz)) (va_A w sz)) (zXk ["java/lang/IndexOutOfBoundsException"] (sK1 (sIx a1 (N 2)))) (2) (12) (va_A w sz) := by
  refine vx_ofW (cc := cX6_ownerOf) (maxL := 2) (ret := (some .int)) (by decide) rfl ?_
  intro p e s m args below meth c s₁ B hml hxt hv
  obtain ⟨rfl, hsz, hP, hK, hD0, hZ⟩ := hv
  have hx := B.exec
  have hb := B.bytes
  have hr := B.returns
  have hts := atoms_spec (ws := wsX6_ownerOf) B.pre
  have hown : s.vm.findClass RX6 = some m.cls := findClass_of_methodNamed B.named
  have hlocks := B.notSynchronized
  have hi_X4 : ∀ w ∈ u_ws RX4 TX4 4, w ∈ wsX6_ownerOf := (fun _ h => List.mem_cons_of_mem _ (List.mem_append_left _ (List.mem_append_left _ (List.mem_append_right _ h))))
  have hi_X6 : ∀ w ∈ u_ws RX6 TX6 14, w ∈ wsX6_ownerOf := (fun _ h => List.mem_cons_of_mem _ (List.mem_append_left _ (List.mem_append_left _ (List.mem_append_left _ (List.mem_append_right _ h)))))
  have hNs := hZ.1.2.2
  have hS0 : va_S (fun _ => False) s.heap s.heap [] := va_S.rf
  subst hsz
  have hD := hD0.self (sz := s.heap.size)
  generalize hAe : va_A w s.heap.size = Aw at hD hZ ⊢
  have hA : ∀ q : Nat, s.heap.size ≤ q → Aw q := fun q h => by rw [← hAe]; exact Or.inr h
  have hS : va_S Aw s.heap s.heap [] := va_S.rf
  have hl := lv_entry ([.ref (r 0), .int a1]) (n := 2) (Nat.le_of_ble_eq_true rfl)
  rw [lg_entry_eq]
  generalize (lg_sl ([.ref (r 0), .int a1]) ++ List.replicate (2 - (lg_sl ([.ref (r 0), .int a1])).length) Slot.unset).toArray = ls at hl ⊢
  have hl : lv_has ls 2 [(0, .ref (r 0)), (1, .int a1)] := hl
  have hN := hI.sm
  obtain ⟨hn2, hn3, hn4, hn5, hn6, hn0⟩ := id hN
  have h1n := sN1_c hI hKk
  refine lv_aload_n hx hb dX6_ownerOf_0 rfl (lv_at hl 0 rfl) ?_
  refine lv_iload_n hx hb dX6_ownerOf_1 rfl (lv_at hl 1 rfl) ?_
  have hh0 : w[0]? = some (r 0, .inr (7, [.ref (r 1), .ref (r 2), .ref (r 3), .ref (r 4), .ref (r 5), .ref (r 6), .ref (r 7), .ref (r 8), .ref (r 9), .ref (r 10), .int (nI (N 0)), .int ((T 19) 0), .int ((T 19) 1), .int (nI (N 6))])) := hC.1.1 0 (by omega)
  have hh5 : w[5]? = some (r 5, .inr (0, [.int (mc 0), cDt d (N 2) (A 9), .int (nI (N 2))])) := hC.1.1 5 (by omega)
  refine z_chk (vx_runV (As := [.int a1]) (rest := []) ⟨hx, hb, hml, hown, hts⟩ (c_X6_checkTag l hst G w 0 r (nI (N 0)) ((T 19) 0) ((T 19) 1) (nI (N 6)) 5 (mc 0) (cDt d (N 2) (A 9)) (N 2) a1 (by first | assumption | omega | exact sIx_in.mp (by assumption)) (by first | assumption | omega | exact sIx_in.mp (by assumption)) (by first | assumption | omega | exact sIx_in.mp (by assumption))) (cwV 1 hts gX6_ownerOf_X6_checkTag rfl rfl rfl (by decide +kernel) ⟨Nat.le_of_ble_eq_true rfl, Nat.le_of_ble_eq_true rfl⟩) (z_rv hK hP (ci := 7) (q0 := 0) rfl hh0 hP hZ.1 hS) rfl rfl hl.1 rfl (lv_room (Nat.le_of_ble_eq_true rfl)) dX6_ownerOf_2 ⟨(show 0 + 1 ≤ 2 by omega), (show 0 + 6 ≤ 12 by omega)⟩) hP hS0 (fun zno => ⟨0, (show sK1 (sIx a1 (N 2)) = (1 : Int32) from by simp [sK1, sK2, sK3, zno]), rfl⟩) (fun x h => (hxt x h).elim) hlocks (show 0 + 1 ≤ 2 by omega) (show 0 + 6 ≤ 12 by omega) (fun zok_2 Hz Lz hP hS0 => ?_)
  have hS : va_S Aw s.heap Hz Lz := z_SF hS0
  have hk0 : sK1 (sIx a1 (N 2)) = 0 := by simp [sK1, sK2, sK3, zok_2]
  have hp2 : a1.toNatClampNeg < N 2 := (zCl (sIx_in.mp zok_2) (by omega)).1
  refine lv_aload_n hx hb dX6_ownerOf_5 rfl (lv_at hl 0 rfl) ?_
  have hh0 : w[0]? = some (r 0, .inr (7, [.ref (r 1), .ref (r 2), .ref (r 3), .ref (r 4), .ref (r 5), .ref (r 6), .ref (r 7), .ref (r 8), .ref (r 9), .ref (r 10), .int (nI (N 0)), .int ((T 19) 0), .int ((T 19) 1), .int (nI (N 6))])) := hC.1.1 0 (by omega)
  refine va_get (D := G.1) (ci := 7) (v := .ref (r 5)) (C := RX6) (T := TX6) (N := 14) hx hb hts hi_X6 hown hK hP 0 hh0 rfl 4 (by decide) (hts (.fieldLink RX6 29 "BoilerLog" "tags" "Ljava/util/ArrayList;") (List.mem_of_getElem? (i := 1) rfl)) (fun _ h9 => h9) rfl dX6_ownerOf_6 ?_
  refine lv_iload_n hx hb dX6_ownerOf_9 rfl (lv_at hl 1 rfl) ?_
  have hh5 : w[5]? = some (r 5, .inr (0, [.int (mc 0), .ref (A 9), .int (nI (N 2))])) := by rw [← cDt_p (d := d) (a := A 9) (show 0 < N 2 by omega)]; exact hC.1.1 5 (by omega)
  obtain ⟨kz1, zk1, hz1⟩ := hC.1.2.1 9 (zL_l9 (show 0 < N 2 by omega))
  have hz1 : w[kz1]? = some (A 9, .inl (G.2 5, (lcap (N 2)), .inr (.inr (.inr (.inr (cGa A 100 (N 2))))))) := hz1
  refine z_csq (va_Run.run (va_runV (As := [.int a1]) (rest := []) ⟨hx, hb, hml, hown, hts⟩ (c_Jx4a65c_get_915e3 l G w 5 (r 5) (mc 0) (A 9) (nI (N 2)) kz1 (lcap (N 2)) (cGa A 100 (N 2)) a1 (by assumption) (by assumption) (zNn_in (sIx_in.mp zok_2)) (zLt_in (sIx_in.mp zok_2) (by omega)) (zlc (k := 60) (sIx_in.mp zok_2) (by omega) (by omega))) (cwV 1 hts gX6_ownerOf_Jx4a65c_get_915e3 rfl rfl rfl (by decide +kernel) ⟨Nat.le_of_ble_eq_true rfl, Nat.le_of_ble_eq_true rfl⟩) (z_pv hK hP (ci := 0) (q0 := 5) rfl hh5 hP) rfl rfl hl.1 rfl (lv_room (Nat.le_of_ble_eq_true rfl)) dX6_ownerOf_10 ⟨(show 0 + 1 + 0 ≤ 2 by omega), (show 0 + 6 + 0 ≤ 12 by omega)⟩)) (fun zr_2 hzr_2 => ?_)
  subst hzr_2
  refine W.eq (g2 := F0 m 13 ls [.ref (A (100 + a1.toNatClampNeg))]) (by first | (rw [cGa_p hp2]; done) | (rw [cGa_p hp2]; rfl)) ?_
  obtain ⟨kz3, zk3, hz3⟩ := hC.1.2.1 (100 + a1.toNatClampNeg) (zL_tag hp2)
  rw [cE_tag (show a1.toNatClampNeg < 100 by have := hp2; omega)] at hz3
  have hz3 : w[kz3]? = some (A (100 + a1.toNatClampNeg), .inr (5, [.int ((T 7) a1.toNatClampNeg), .int ((T 8) a1.toNatClampNeg), .int ((T 9) a1.toNatClampNeg), .int ((T 10) a1.toNatClampNeg)])) := hz3
  refine va_castS (cC := G.1.1 5) hx hb hown (hts (.classLink RX6 145 "BoilerLog$Tag") (List.mem_of_getElem? (i := 2) rfl)) (hK.1 5 _ rfl).2 (va_recv hK hP (ci := 5) (q0 := kz3) rfl hz3) dX6_ownerOf_13 ?_
  refine va_getN (D := G.1) (ci := 5) (v := .int ((T 7) a1.toNatClampNeg)) (C := RX4) (T := TX4) (N := 4) hx hb hts hi_X4 hown hK hP kz3 hz3 rfl 0 (by decide) (va_Nw.use rfl (hNs.1 _ (List.mem_append_left _ (List.mem_of_getElem? (i := 3) rfl)))) (fun _ h9 => h9) rfl dX6_ownerOf_16 ?_
  exact vx_ret (z_widen (k := 2) (n := 12) (show 0 + 1 ≤ 2 by omega) (show 0 + 6 ≤ 12 by omega) (W.iret (v := (T 7) a1.toNatClampNeg) hx hb hr (fun t ht hW => ⟨⟨(T 7) a1.toNatClampNeg, w, rfl, ⟨hk0, rfl, _, _, _, hC⟩, ⟨by rw [ht]; exact hP, hD⟩⟩, hS.F ht⟩) hS.2.2 dX6_ownerOf_19 hlocks))
