set_option maxHeartbeats 4000000 in
set_option maxRecDepth 100000 in
theorem c_X6_leave (l : Launch) (hst : l.stackTraces = false) (G : zG) (d : Nat) (r A : Nat → Nat) (mc : Nat → Int32) (g : Nat → Nat → Int32) (N : Nat → Nat) (T : Nat → Nat → Int32) (w : va_W) (K : Nat) (a1 : Int32) (sz : Nat) (hC : sCQ G d r A mc g N T w) (hI : sInv N T K 0) (hKk : K ≤ 511) : vx_Met l yX6_leave wsX6_leave ({ frames := 7, cells := (8 + zmc (sK2 (sIx a1 9) (decide (T 2 a1.toNatClampNeg = 0))) (N 1) (N 1 + 1)), slots := (200 + zms (sK2 (sIx a1 9) (decide (T 2 a1.toNatClampNeg = 0))) (N 1) (N 1 + 1)), locals := 111 }) (va_Pc [.ref (r 0), .int a1] (zCu G d w sz)) (va_Qi (fun (r1 : Int32) (w1 : va_W) => sK2 (sIx a1 9) (decide (T 2 a1.toNatClampNeg = 0)) = 0 ∧ r1 = rLeave N T a1 ∧ sCO G d r ((nLeave N T a1).1) ((nLeave N T a1).2) w1) (zB G (va_A w sz)) (va_A w sz)) (zXk ["java/lang/IndexOutOfBoundsException", "java/lang/IllegalStateException"] (sK2 (sIx a1 9) (decide (T 2 a1.toNatClampNeg = 0)))) ((8 + zmc (sK2 (sIx a1 9) (decide (T 2 a1.toNatClampNeg = 0))) (N 1) (N 1 + 1))) ((200 + zms (sK2 (sIx a1 9) (decide (T 2 a1.toNatClampNeg = 0))) (N 1) (N 1 + 1))) (va_A w sz) := by
  refine vx_ofW (cc := cX6_leave) (maxL := 5) (ret := (some .int)) (by decide) rfl ?_
  intro p e s m args below meth c s₁ B hml hxt hv
  obtain ⟨rfl, hsz, hP, hK, hD0, hZ⟩ := hv
  have hx := B.exec
  have hb := B.bytes
  have hr := B.returns
  have hts := atoms_spec (ws := wsX6_leave) B.pre
  have hown : s.vm.findClass RX6 = some m.cls := findClass_of_methodNamed B.named
  have hlocks := B.notSynchronized
  have hi_X4 : ∀ w ∈ u_ws RX4 TX4 4, w ∈ wsX6_leave := (fun _ h => List.mem_cons_of_mem _ (List.mem_append_left _ (List.mem_append_left _ (List.mem_append_left _ (List.mem_append_left _ (List.mem_append_right _ h))))))
  have hi_X6 : ∀ w ∈ u_ws RX6 TX6 14, w ∈ wsX6_leave := (fun _ h => List.mem_cons_of_mem _ (List.mem_append_left _ (List.mem_append_left _ (List.mem_append_left _ (List.mem_append_left _ (List.mem_append_left _ (List.mem_append_right _ h)))))))
  have hNs := hZ.1.2.2
  have hS0 : va_S (fun _ => False) s.heap s.heap [] := va_S.rf
  subst hsz
  have hD := hD0.self (sz := s.heap.size)
  generalize hAe : va_A w s.heap.size = Aw at hD hZ ⊢
  have hA : ∀ q : Nat, s.heap.size ≤ q → Aw q := fun q h => by rw [← hAe]; exact Or.inr h
  have hS : va_S Aw s.heap s.heap [] := va_S.rf
  have hl := lv_entry ([.ref (r 0), .int a1]) (n := 5) (Nat.le_of_ble_eq_true rfl)
  rw [lg_entry_eq]
  generalize (lg_sl ([.ref (r 0), .int a1]) ++ List.replicate (5 - (lg_sl ([.ref (r 0), .int a1])).length) Slot.unset).toArray = ls at hl ⊢
  have hl : lv_has ls 5 [(0, .ref (r 0)), (1, .int a1)] := hl
  have hN := hI.sm
  obtain ⟨hn2, hn3, hn4, hn5, hn6, hn0⟩ := id hN
  have h1n := sN1_c hI hKk
  refine lv_iload_n hx hb dX6_leave_0 rfl (lv_at hl 1 rfl) ?_
  refine z_chk (vx_runS (As := [.int a1]) (rest := []) ⟨hx, hb, hml, hown, hts⟩ (c_X6_checkPerson l hst G w a1) (va_cwS 1 hts gX6_leave_X6_checkPerson rfl rfl rfl (by decide +kernel) ⟨Nat.le_of_ble_eq_true rfl, Nat.le_of_ble_eq_true rfl⟩) (z_rs hK hP hZ.1 hS) rfl rfl hl.1 rfl (lv_room (Nat.le_of_ble_eq_true rfl)) dX6_leave_1 ⟨(show 0 + 1 ≤ (8 + zmc (sK2 (sIx a1 9) (decide (T 2 a1.toNatClampNeg = 0))) (N 1) (N 1 + 1)) by first | omega | (rw [zmc_0 hk0]; omega) | (rw [zms_0 hk0]; omega)), (show 0 + 6 ≤ (200 + zms (sK2 (sIx a1 9) (decide (T 2 a1.toNatClampNeg = 0))) (N 1) (N 1 + 1)) by first | omega | (rw [zmc_0 hk0]; omega) | (rw [zms_0 hk0]; omega))⟩) hP hS0 (fun zno => ⟨0, (show sK2 (sIx a1 9) (decide (T 2 a1.toNatClampNeg = 0)) = (1 : Int32) from by simp [sK1, sK2, sK3, zno]), rfl⟩) (fun x h => (hxt x h).elim) hlocks (show 0 + 1 ≤ (8 + zmc (sK2 (sIx a1 9) (decide (T 2 a1.toNatClampNeg = 0))) (N 1) (N 1 + 1)) by omega) (show 0 + 6 ≤ (200 + zms (sK2 (sIx a1 9) (decide (T 2 a1.toNatClampNeg = 0))) (N 1) (N 1 + 1)) by omega) (fun zok_1 Hz Lz hP hS0 => ?_)
  have hS : va_S Aw s.heap Hz Lz := z_SF hS0
  refine lv_aload_n hx hb dX6_leave_4 rfl (lv_at hl 0 rfl) ?_
  refine lv_iload_n hx hb dX6_leave_5 rfl (lv_at hl 1 rfl) ?_
  have hh0 : w[0]? = some (r 0, .inr (7, [.ref (r 1), .ref (r 2), .ref (r 3), .ref (r 4), .ref (r 5), .ref (r 6), .ref (r 7), .ref (r 8), .ref (r 9), .ref (r 10), .int (nI (N 0)), .int ((T 19) 0), .int ((T 19) 1), .int (nI (N 6))])) := hC.1.1 0 (by omega)
  have hh3 : w[3]? = some (r 3, .inl (G.2 2, 9, .inl (T 2))) := hC.1.1 3 (by omega)
  refine z_chk (vx_runV (As := [.int a1]) (rest := []) ⟨hx, hb, hml, hown, hts⟩ (c_X6_checkNotGone l hst G w 0 r (nI (N 0)) ((T 19) 0) ((T 19) 1) (nI (N 6)) 3 (T 2) a1 hh0 hh3 (sIx_in.mp zok_1)) (cwV 1 hts gX6_leave_X6_checkNotGone rfl rfl rfl (by decide +kernel) ⟨Nat.le_of_ble_eq_true rfl, Nat.le_of_ble_eq_true rfl⟩) (z_rv hK hP (ci := 7) (q0 := 0) rfl hh0 hP hZ.1 hS) rfl rfl hl.1 rfl (lv_room (Nat.le_of_ble_eq_true rfl)) dX6_leave_6 ⟨(show 0 + 1 + 1 ≤ (8 + zmc (sK2 (sIx a1 9) (decide (T 2 a1.toNatClampNeg = 0))) (N 1) (N 1 + 1)) by first | omega | (rw [zmc_0 hk0]; omega) | (rw [zms_0 hk0]; omega)), (show 0 + 6 + 6 ≤ (200 + zms (sK2 (sIx a1 9) (decide (T 2 a1.toNatClampNeg = 0))) (N 1) (N 1 + 1)) by first | omega | (rw [zmc_0 hk0]; omega) | (rw [zms_0 hk0]; omega))⟩) hP hS0 (fun zno => ⟨1, (show sK2 (sIx a1 9) (decide (T 2 a1.toNatClampNeg = 0)) = (2 : Int32) from by simp [sK1, sK2, sK3, zok_1, zno]), rfl⟩) (fun x h => (hxt x h).elim) hlocks (show 0 + 1 + 1 ≤ (8 + zmc (sK2 (sIx a1 9) (decide (T 2 a1.toNatClampNeg = 0))) (N 1) (N 1 + 1)) by omega) (show 0 + 6 + 6 ≤ (200 + zms (sK2 (sIx a1 9) (decide (T 2 a1.toNatClampNeg = 0))) (N 1) (N 1 + 1)) by omega) (fun zok_6 Hz Lz hP hS0 => ?_)
  have hS : va_S Aw s.heap Hz Lz := z_SF hS0
  have hk0 : sK2 (sIx a1 9) (decide (T 2 a1.toNatClampNeg = 0)) = 0 := by simp [sK1, sK2, sK3, zok_1, zok_6]
  have hzq1 := zpc_m (Nat.le_succ (N 1))
  have hzq2 := zps_m (Nat.le_succ (N 1))
  refine lv_aload_n hx hb dX6_leave_9 rfl (lv_at hl 0 rfl) ?_
  refine va_get (D := G.1) (ci := 7) (v := .ref (r 3)) (C := RX6) (T := TX6) (N := 14) hx hb hts hi_X6 hown hK hP 0 hh0 rfl 2 (by decide) (hts (.fieldLink RX6 19 "BoilerLog" "gone" "[Z") (List.mem_of_getElem? (i := 1) rfl)) (fun _ h9 => h9) rfl dX6_leave_10 ?_
  refine lv_iload_n hx hb dX6_leave_13 rfl (lv_at hl 1 rfl) ?_
  refine lv_iconst (v := 1) hx hb dX6_leave_14 (by decide) ?_
  refine va_zast hx hb hK hP hD hS 3 2 hh3 rfl (sIx_in.mp zok_1) dX6_leave_15 (fun Hz Lz hP hD hS => ?_)
  rw [show vp_nar .boolean (1 : Int32) = 1 from by decide] at hP hD
  have hP : va_P G.1 vwCl (w.set 3 (r 3, .inl (G.2 2, 9, .inl (upd (T 2) a1.toNatClampNeg 1)))) Hz := hP
  have hD : va_D Aw (w.set 3 (r 3, .inl (G.2 2, 9, .inl (upd (T 2) a1.toNatClampNeg 1)))) := hD
  have hC : sCQ G d r A mc g N (va_up T 2 (upd (T 2) a1.toNatClampNeg 1)) (w.set 3 (r 3, .inl (G.2 2, 9, .inl (upd (T 2) a1.toNatClampNeg 1)))) := (sC_x3 hC hN)
  generalize (w.set 3 (r 3, .inl (G.2 2, 9, .inl (upd (T 2) a1.toNatClampNeg 1)))) = zw_1 at hP hD hC
  refine lv_aload_n hx hb dX6_leave_16 rfl (lv_at hl 0 rfl) ?_
  have hh0 : zw_1[0]? = some (r 0, .inr (7, [.ref (r 1), .ref (r 2), .ref (r 3), .ref (r 4), .ref (r 5), .ref (r 6), .ref (r 7), .ref (r 8), .ref (r 9), .ref (r 10), .int (nI (N 0)), .int ((T 19) 0), .int ((T 19) 1), .int (nI (N 6))])) := hC.1.1 0 (by omega)
  refine va_get (D := G.1) (ci := 7) (v := .ref (r 9)) (C := RX6) (T := TX6) (N := 14) hx hb hts hi_X6 hown hK hP 0 hh0 rfl 8 (by decide) (hts (.fieldLink RX6 45 "BoilerLog" "log" "LBoilerLog$Log;") (List.mem_of_getElem? (i := 2) rfl)) (fun _ h9 => h9) rfl dX6_leave_17 ?_
  refine lv_aload_n hx hb dX6_leave_20 rfl (lv_at hl 0 rfl) ?_
  refine va_get (D := G.1) (ci := 7) (v := .int (nI (N 0))) (C := RX6) (T := TX6) (N := 14) hx hb hts hi_X6 hown hK hP 0 hh0 rfl 10 (by decide) (hts (.fieldLink RX6 56 "BoilerLog" "now" "I") (List.mem_of_getElem? (i := 3) rfl)) (fun _ h9 => h9) rfl dX6_leave_21 ?_
  refine lv_iconst (v := 4) hx hb dX6_leave_24 (by decide) ?_
  refine lv_iload_n hx hb dX6_leave_25 rfl (lv_at hl 1 rfl) ?_
  refine lv_iconst (v := 0) hx hb dX6_leave_26 (by decide) ?_
  have hh9 : zw_1[9]? = some (r 9, .inr (3, [.ref (A 8), .int (nI (N 1))])) := hC.1.1 9 (by omega)
  refine z_cuv (va_runVN (As := [.int (nI (N 0)), .int 4, .int a1, .int 0]) (rest := []) ⟨hx, hb, hml, hown, hts⟩ (c_X2_note l G d r A mc g N (va_up T 2 (upd (T 2) a1.toNatClampNeg 1)) zw_1 4 a1 0 Hz.size hC hN h1n) ⟨va_cnB 4 hts gX6_leave_X2_note_n154 rfl rfl rfl (hNs.1 _ (List.mem_append_left _ (List.mem_of_getElem? (i := 16) rfl))) (hts (.initialized RX2) (List.mem_of_getElem? (i := 19) rfl)) (by decide +kernel) ⟨Nat.le_of_ble_eq_true rfl, Nat.le_of_ble_eq_true rfl⟩, hts (.instanceMethod yX2_note) (List.mem_of_getElem? (i := 18) rfl), hts (.selects RX2 yX2_note yX2_note) (List.mem_of_getElem? (i := 20) rfl)⟩ (z_wv hK hP (ci := 3) (q0 := 9) rfl hh9 hP hD hZ hS hA) rfl rfl hl.1 rfl (lv_room (Nat.le_of_ble_eq_true rfl)) dX6_leave_27 ⟨(show 0 + 1 + 1 + (zpc (N 1 + 1) - zpc (N 1)) ≤ (8 + zmc (sK2 (sIx a1 9) (decide (T 2 a1.toNatClampNeg = 0))) (N 1) (N 1 + 1)) by first | omega | (rw [zmc_0 hk0]; omega) | (rw [zms_0 hk0]; omega)), (show 0 + 6 + 6 + (zps (N 1 + 1) - zps (N 1)) ≤ (200 + zms (sK2 (sIx a1 9) (decide (T 2 a1.toNatClampNeg = 0))) (N 1) (N 1 + 1)) by first | omega | (rw [zmc_0 hk0]; omega) | (rw [zms_0 hk0]; omega))⟩) hD hS hA (fun zw_2 Hz Lz hw hP hD hS => ?_)
  obtain ⟨zA_2, mc, g, hC, heA_2⟩ := hw
  refine lv_iconst (v := 0) hx hb dX6_leave_30 (by decide) ?_
  refine lv_istore_n (lv' := [(2, .int 0), (0, .ref (r 0)), (1, .int a1)]) hx hb dX6_leave_31 rfl hl (by decide) rfl (fun ls hl => ?_)
  refine lv_iconst (v := 0) hx hb dX6_leave_32 (by decide) ?_
  refine lv_istore_n (lv' := [(3, .int 0), (2, .int 0), (0, .ref (r 0)), (1, .int a1)]) hx hb dX6_leave_33 rfl hl (by decide) rfl (fun ls hl => ?_)
  have key_34 : ∀ (n i : Nat), i ≤ N 2 → N 2 < i + n → ∀ ls : Array Slot, lv_has ls 5 [(0, .ref (r 0)), (1, .int a1), (2, .int (nI (sCnt (fun t => decide (T 10 t = 0) && decide (T 7 t = a1)) i))), (3, .int (nI i))] → W p l e (headSpec wsX6_leave ({ frames := 7, cells := (8 + zmc (sK2 (sIx a1 9) (decide (T 2 a1.toNatClampNeg = 0))) (N 1) (N 1 + 1)), slots := (200 + zms (sK2 (sIx a1 9) (decide (T 2 a1.toNatClampNeg = 0))) (N 1) (N 1 + 1)), locals := 111 })).room s m ([.ref (r 0), .int a1] : List Value).toArray below meth c Hz Lz (0 + 1 + 1 + (zpc (N 1 + 1) - zpc (N 1))) (0 + 6 + 6 + (zps (N 1 + 1) - zps (N 1))) (vx_MQ below (va_Qi (fun (r1 : Int32) (w1 : va_W) => sK2 (sIx a1 9) (decide (T 2 a1.toNatClampNeg = 0)) = 0 ∧ r1 = rLeave N T a1 ∧ sCO G d r ((nLeave N T a1).1) ((nLeave N T a1).2) w1) (zB G Aw) Aw) (zXk ["java/lang/IndexOutOfBoundsException", "java/lang/IllegalStateException"] (sK2 (sIx a1 9) (decide (T 2 a1.toNatClampNeg = 0)))) (([.ref (r 0), .int a1] : List Value).toArray) s ((8 + zmc (sK2 (sIx a1 9) (decide (T 2 a1.toNatClampNeg = 0))) (N 1) (N 1 + 1))) ((200 + zms (sK2 (sIx a1 9) (decide (T 2 a1.toNatClampNeg = 0))) (N 1) (N 1 + 1))) Aw) (F0 m 34 ls []) := by
    intro n
    induction n with
    | zero => intro i h1 h2; exact absurd h2 (by omega)
    | succ n ih =>
      intro i hi hn ls hl
      refine lv_iload_n hx hb dX6_leave_34 rfl (lv_at hl 3 rfl) ?_
      refine lv_aload_n hx hb dX6_leave_35 rfl (lv_at hl 0 rfl) ?_
      have hh0 : zw_2[0]? = some (r 0, .inr (7, [.ref (r 1), .ref (r 2), .ref (r 3), .ref (r 4), .ref (r 5), .ref (r 6), .ref (r 7), .ref (r 8), .ref (r 9), .ref (r 10), .int (nI (N 0)), .int ((T 19) 0), .int ((T 19) 1), .int (nI (N 6))])) := hC.1.1 0 (by omega)
      refine va_get (D := G.1) (ci := 7) (v := .ref (r 5)) (C := RX6) (T := TX6) (N := 14) hx hb hts hi_X6 hown hK hP 0 hh0 rfl 4 (by decide) (hts (.fieldLink RX6 29 "BoilerLog" "tags" "Ljava/util/ArrayList;") (List.mem_of_getElem? (i := 4) rfl)) (fun _ h9 => h9) rfl dX6_leave_36 ?_
      have hh5 : zw_2[5]? = some (r 5, .inr (0, [.int (mc 0), cDt d (N 2) (zA_2 9), .int (nI (N 2))])) := hC.1.1 5 (by omega)
      refine z_csi (va_Run.run (va_runV (As := []) (rest := [.int (nI i)]) ⟨hx, hb, hml, hown, hts⟩ (c_Jx4a65c_size_8abf5 l G zw_2 5 (r 5) (mc 0) (cDt d (N 2) (zA_2 9)) (nI (N 2)) (by first | assumption | omega | exact sIx_in.mp (by assumption))) (cwV 0 hts gX6_leave_Jx4a65c_size_8abf5 rfl rfl rfl (by decide +kernel) ⟨Nat.le_of_ble_eq_true rfl, Nat.le_of_ble_eq_true rfl⟩) (z_pv hK hP (ci := 0) (q0 := 5) rfl hh5 hP) rfl rfl hl.1 rfl (lv_room (Nat.le_of_ble_eq_true rfl)) dX6_leave_39 ⟨(show 0 + 1 + 1 + (zpc (N 1 + 1) - zpc (N 1)) + 0 ≤ (8 + zmc (sK2 (sIx a1 9) (decide (T 2 a1.toNatClampNeg = 0))) (N 1) (N 1 + 1)) by first | omega | (rw [zmc_0 hk0]; omega) | (rw [zms_0 hk0]; omega)), (show 0 + 6 + 6 + (zps (N 1 + 1) - zps (N 1)) + 0 ≤ (200 + zms (sK2 (sIx a1 9) (decide (T 2 a1.toNatClampNeg = 0))) (N 1) (N 1 + 1)) by first | omega | (rw [zmc_0 hk0]; omega) | (rw [zms_0 hk0]; omega))⟩)) (fun zr_3 hzr_3 => ?_)
      subst hzr_3
      refine lv_icmp_ge (tgt := 84) hx hb dX6_leave_42 (by decide) (fun zc_4 => ?_) (fun zc_4 => ?_)
      · skip
        have zd_4 := Int32.not_lt.mpr zc_4
        have zhc := (nI_leI (a := N 2) (by omega) (by omega)).mp zc_4
        have zie := Nat.le_antisymm hi zhc
        subst zie
        refine lv_iload_n hx hb dX6_leave_84 rfl (lv_at hl 2 rfl) ?_
        exact vx_ret (z_widen (k := (8 + zmc (sK2 (sIx a1 9) (decide (T 2 a1.toNatClampNeg = 0))) (N 1) (N 1 + 1))) (n := (200 + zms (sK2 (sIx a1 9) (decide (T 2 a1.toNatClampNeg = 0))) (N 1) (N 1 + 1))) (show 0 + 1 + 1 + (zpc (N 1 + 1) - zpc (N 1)) ≤ (8 + zmc (sK2 (sIx a1 9) (decide (T 2 a1.toNatClampNeg = 0))) (N 1) (N 1 + 1)) by first | omega | (rw [zmc_0 hk0]; omega) | (rw [zms_0 hk0]; omega)) (show 0 + 6 + 6 + (zps (N 1 + 1) - zps (N 1)) ≤ (200 + zms (sK2 (sIx a1 9) (decide (T 2 a1.toNatClampNeg = 0))) (N 1) (N 1 + 1)) by first | omega | (rw [zmc_0 hk0]; omega) | (rw [zms_0 hk0]; omega)) (W.iret (v := nI (sCnt (fun t => decide (T 10 t = 0) && decide (T 7 t = a1)) (N 2))) hx hb hr (fun t ht hW => ⟨⟨nI (sCnt (fun t => decide (T 10 t = 0) && decide (T 7 t = a1)) (N 2)), zw_2, rfl, ⟨hk0, rfl, by exact ⟨_, _, _, hC⟩⟩, ⟨by rw [ht]; exact hP, hD⟩⟩, hS.F ht⟩) hS.2.2 dX6_leave_85 hlocks))
      · skip
        have zd_4 := Int32.not_le.mp zc_4
        have zhc : i < N 2 := Nat.lt_of_not_le (fun z => zc_4 ((nI_leI (by omega) (by omega)).mpr z))
        refine lv_aload_n hx hb dX6_leave_45 rfl (lv_at hl 0 rfl) ?_
        have hh0 : zw_2[0]? = some (r 0, .inr (7, [.ref (r 1), .ref (r 2), .ref (r 3), .ref (r 4), .ref (r 5), .ref (r 6), .ref (r 7), .ref (r 8), .ref (r 9), .ref (r 10), .int (nI (N 0)), .int ((T 19) 0), .int ((T 19) 1), .int (nI (N 6))])) := hC.1.1 0 (by omega)
        refine va_get (D := G.1) (ci := 7) (v := .ref (r 5)) (C := RX6) (T := TX6) (N := 14) hx hb hts hi_X6 hown hK hP 0 hh0 rfl 4 (by decide) (hts (.fieldLink RX6 29 "BoilerLog" "tags" "Ljava/util/ArrayList;") (List.mem_of_getElem? (i := 4) rfl)) (fun _ h9 => h9) rfl dX6_leave_46 ?_
        refine lv_iload_n hx hb dX6_leave_49 rfl (lv_at hl 3 rfl) ?_
        have hh5 : zw_2[5]? = some (r 5, .inr (0, [.int (mc 0), .ref (zA_2 9), .int (nI (N 2))])) := by rw [← cDt_p (d := d) (a := zA_2 9) (show 0 < N 2 by omega)]; exact hC.1.1 5 (by omega)
        obtain ⟨kz5, zk5, hz5⟩ := hC.1.2.1 9 (zL_l9 (show 0 < N 2 by omega))
        have hz5 : zw_2[kz5]? = some (zA_2 9, .inl (G.2 5, (lcap (N 2)), .inr (.inr (.inr (.inr (cGa zA_2 100 (N 2))))))) := hz5
        refine z_csq (va_Run.run (va_runV (As := [.int (nI i)]) (rest := []) ⟨hx, hb, hml, hown, hts⟩ (c_Jx4a65c_get_915e3 l G zw_2 5 (r 5) (mc 0) (zA_2 9) (nI (N 2)) kz5 (lcap (N 2)) (cGa zA_2 100 (N 2)) (nI i) (by assumption) (by assumption) (zNn (by omega)) (by assumption) (zlc (k := 60) (vp_in_nI (show i < N 2 by omega) (by omega)) (by omega) (by omega))) (cwV 1 hts gX6_leave_Jx4a65c_get_915e3 rfl rfl rfl (by decide +kernel) ⟨Nat.le_of_ble_eq_true rfl, Nat.le_of_ble_eq_true rfl⟩) (z_pv hK hP (ci := 0) (q0 := 5) rfl hh5 hP) rfl rfl hl.1 rfl (lv_room (Nat.le_of_ble_eq_true rfl)) dX6_leave_50 ⟨(show 0 + 1 + 1 + (zpc (N 1 + 1) - zpc (N 1)) + 0 ≤ (8 + zmc (sK2 (sIx a1 9) (decide (T 2 a1.toNatClampNeg = 0))) (N 1) (N 1 + 1)) by first | omega | (rw [zmc_0 hk0]; omega) | (rw [zms_0 hk0]; omega)), (show 0 + 6 + 6 + (zps (N 1 + 1) - zps (N 1)) + 0 ≤ (200 + zms (sK2 (sIx a1 9) (decide (T 2 a1.toNatClampNeg = 0))) (N 1) (N 1 + 1)) by first | omega | (rw [zmc_0 hk0]; omega) | (rw [zms_0 hk0]; omega))⟩)) (fun zr_6 hzr_6 => ?_)
        subst hzr_6
        refine W.eq (g2 := F0 m 53 ls [.ref (zA_2 (100 + i))]) (by first | (rw [nI_clamp (by omega), cGa_p (show i < N 2 by omega)]; done) | (rw [nI_clamp (by omega), cGa_p (show i < N 2 by omega)]; rfl)) ?_
        obtain ⟨kz7, zk7, hz7⟩ := hC.1.2.1 (100 + i) (zL_tag (show i < N 2 by omega))
        rw [cE_tag (show i < 100 by have := (show i < N 2 by omega); omega)] at hz7
        have hz7 : zw_2[kz7]? = some (zA_2 (100 + i), .inr (5, [.int ((T 7) i), .int ((T 8) i), .int ((T 9) i), .int ((T 10) i)])) := hz7
        refine va_castS (cC := G.1.1 5) hx hb hown (hts (.classLink RX6 145 "BoilerLog$Tag") (List.mem_of_getElem? (i := 5) rfl)) (hK.1 5 _ rfl).2 (va_recv hK hP (ci := 5) (q0 := kz7) rfl hz7) dX6_leave_53 ?_
        refine lv_astore (lv' := [(4, .ref (zA_2 (100 + i))), (0, .ref (r 0)), (1, .int a1), (2, .int (nI (sCnt (fun t => decide (T 10 t = 0) && decide (T 7 t = a1)) i))), (3, .int (nI i))]) hx hb dX6_leave_56 hl (by decide) rfl (fun ls hl => ?_)
        refine lv_aload hx hb dX6_leave_58 (lv_at hl 0 rfl) ?_
        refine va_getN (D := G.1) (ci := 5) (v := .int ((T 10) i)) (C := RX4) (T := TX4) (N := 4) hx hb hts hi_X4 hown hK hP kz7 hz7 rfl 3 (by decide) (va_Nw.use rfl (hNs.1 _ (List.mem_append_left _ (List.mem_of_getElem? (i := 2) rfl)))) (fun _ h9 => h9) rfl dX6_leave_60 ?_
        refine lv_if_ne (tgt := 78) hx hb dX6_leave_63 (by decide) (fun zc_8 => ?_) (fun zc_8 => ?_)
        · skip
          refine lv_iinc (v := (nI (i + 1))) (lv' := [(3, .int (nI (i + 1))), (4, .ref (zA_2 (100 + i))), (0, .ref (r 0)), (1, .int a1), (2, .int (nI (sCnt (fun t => decide (T 10 t = 0) && decide (T 7 t = a1)) i)))]) hx hb dX6_leave_78 hl (k := 4) rfl (by first | exact nI_1 _ | rfl) (by decide) rfl (fun ls hl => ?_)
          refine lv_goto (tgt := 34) hx hb dX6_leave_81 (by decide) ?_
          have hl2 := lv_sub (l' := [(0, .ref (r 0)), (1, .int a1), (2, .int (nI (sCnt (fun t => decide (T 10 t = 0) && decide (T 7 t = a1)) i))), (3, .int (nI (i + 1)))]) hl [2, 3, 4, 0] rfl
          have e_2 : nI (sCnt (fun t => decide (T 10 t = 0) && decide (T 7 t = a1)) i) = nI (sCnt (fun t => decide (T 10 t = 0) && decide (T 7 t = a1)) (i + 1)) := by simp [sCnt, nI_succ, zc_4, zc_8]
          rw [e_2] at hl2
          exact ih (i + 1) (by omega) (by omega) ls hl2
        · skip
          refine lv_aload hx hb dX6_leave_66 (lv_at hl 0 rfl) ?_
          refine va_getN (D := G.1) (ci := 5) (v := .int ((T 7) i)) (C := RX4) (T := TX4) (N := 4) hx hb hts hi_X4 hown hK hP kz7 hz7 rfl 0 (by decide) (va_Nw.use rfl (hNs.1 _ (List.mem_append_left _ (List.mem_of_getElem? (i := 3) rfl)))) (fun _ h9 => h9) rfl dX6_leave_68 ?_
          refine lv_iload_n hx hb dX6_leave_71 rfl (lv_at hl 2 rfl) ?_
          refine lv_icmp_ne (tgt := 78) hx hb dX6_leave_72 (by decide) (fun zc_9 => ?_) (fun zc_9 => ?_)
          · skip
            refine lv_iinc (v := (nI (i + 1))) (lv' := [(3, .int (nI (i + 1))), (4, .ref (zA_2 (100 + i))), (0, .ref (r 0)), (1, .int a1), (2, .int (nI (sCnt (fun t => decide (T 10 t = 0) && decide (T 7 t = a1)) i)))]) hx hb dX6_leave_78 hl (k := 4) rfl (by first | exact nI_1 _ | rfl) (by decide) rfl (fun ls hl => ?_)
            refine lv_goto (tgt := 34) hx hb dX6_leave_81 (by decide) ?_
            have hl2 := lv_sub (l' := [(0, .ref (r 0)), (1, .int a1), (2, .int (nI (sCnt (fun t => decide (T 10 t = 0) && decide (T 7 t = a1)) i))), (3, .int (nI (i + 1)))]) hl [2, 3, 4, 0] rfl
            have e_2 : nI (sCnt (fun t => decide (T 10 t = 0) && decide (T 7 t = a1)) i) = nI (sCnt (fun t => decide (T 10 t = 0) && decide (T 7 t = a1)) (i + 1)) := by simp [sCnt, nI_succ, zc_8, zc_9]
            rw [e_2] at hl2
            exact ih (i + 1) (by omega) (by omega) ls hl2
          · skip
            refine lv_iinc (v := (nI (sCnt (fun t => decide (T 10 t = 0) && decide (T 7 t = a1)) i + 1))) (lv' := [(2, .int (nI (sCnt (fun t => decide (T 10 t = 0) && decide (T 7 t = a1)) i + 1))), (4, .ref (zA_2 (100 + i))), (0, .ref (r 0)), (1, .int a1), (3, .int (nI i))]) hx hb dX6_leave_75 hl (k := 3) rfl (by first | exact nI_1 _ | rfl) (by decide) rfl (fun ls hl => ?_)
            refine lv_iinc (v := (nI (i + 1))) (lv' := [(3, .int (nI (i + 1))), (2, .int (nI (sCnt (fun t => decide (T 10 t = 0) && decide (T 7 t = a1)) i + 1))), (4, .ref (zA_2 (100 + i))), (0, .ref (r 0)), (1, .int a1)]) hx hb dX6_leave_78 hl (k := 4) rfl (by first | exact nI_1 _ | rfl) (by decide) rfl (fun ls hl => ?_)
            refine lv_goto (tgt := 34) hx hb dX6_leave_81 (by decide) ?_
            have hl2 := lv_sub (l' := [(0, .ref (r 0)), (1, .int a1), (2, .int (nI (sCnt (fun t => decide (T 10 t = 0) && decide (T 7 t = a1)) i + 1))), (3, .int (nI (i + 1)))]) hl [3, 4, 1, 0] rfl
            have e_2 : nI (sCnt (fun t => decide (T 10 t = 0) && decide (T 7 t = a1)) i + 1) = nI (sCnt (fun t => decide (T 10 t = 0) && decide (T 7 t = a1)) (i + 1)) := by simp [sCnt, nI_succ, zc_8, zc_9]
            rw [e_2] at hl2
            exact ih (i + 1) (by omega) (by omega) ls hl2
  exact key_34 (N 2 + 1) 0 (Nat.zero_le _) (by omega) ls (lv_sub hl [2, 3, 1, 0] rfl)

set_option maxHeartbeats 4000000 in
set_option maxRecDepth 100000 in
theorem c_X6_entryAt (l : Launch) (hst : l.stackTraces = false) (G : zG) (d : Nat) (r A : Nat → Nat) (mc : Nat → Int32) (g : Nat → Nat → Int32) (N : Nat → Nat) (T : Nat → Nat → Int32) (w : va_W) (K : Nat) (a1 : Int32) (sz : Nat) (hC : sCQ G d r A mc g N T w) (hI : sInv N T K 0) (hKk : K ≤ 511) : vx_Met l yX6_entryAt wsX6_entryAt ({ frames := 6, cells := 2, slots := 12, locals := 90 }) (va_Pc [.ref (r 0), .int a1] (zCu G d w sz)) (va_Qi (fun (r1 : Int32) (w1 : va_W) => sK1 (sIx a1 (N 1)) = 0 ∧ r1 = T 0 a1.toNatClampNeg ∧ sCO G d r N T w1) (zB G (va_A w sz)) (va_A w sz)) (zXk ["java/lang/IndexOutOfBoundsException"] (sK1 (sIx a1 (N 1)))) (2) (12) (va_A w sz) := by
  refine vx_ofW (cc := cX6_entryAt) (maxL := 2) (ret := (some .int)) (by decide) rfl ?_
  intro p e s m args below meth c s₁ B hml hxt hv
  obtain ⟨rfl, hsz, hP, hK, hD0, hZ⟩ := hv
  have hx := B.exec
  have hb := B.bytes
  have hr := B.returns
  have hts := atoms_spec (ws := wsX6_entryAt) B.pre
  have hown : s.vm.findClass RX6 = some m.cls := findClass_of_methodNamed B.named
  have hlocks := B.notSynchronized
  have hi_X6 : ∀ w ∈ u_ws RX6 TX6 14, w ∈ wsX6_entryAt := (fun _ h => List.mem_cons_of_mem _ (List.mem_append_left _ (List.mem_append_left _ (List.mem_append_right _ h))))
  have hNs := hZ.1.2.2
  have hS0 : va_S (fun _ => False) s.heap s.heap [] := va_S.rf
  subst hsz
  have hD := hD0.self (sz := s.heap.size)
  generalize hAe : va_A w s.heap.size = Aw at hD hZ ⊢
  have hA : ∀ q : Nat, s.heap.size ≤ q → Aw q := fun q h => by rw [← hAe]; exact Or.inr h
  have hS : va_S Aw s.heap s.heap [] := va_S.rf
  have hl := lv_entry ([.ref (r 0), .int a1]) (n := 2) (Nat.le_of_ble_eq_true rfl)
  rw [lg_entry_eq]
  generalize (lg_sl ([.ref (r 0), .int a1]) ++ List.replicate (2 - (lg_sl ([.ref (r 0), .int a1])).length) Slot.unset).toArray = ls at hl ⊢
  have hl : lv_has ls 2 [(0, .ref (r 0)), (1, .int a1)] := hl
  have hN := hI.sm
  obtain ⟨hn2, hn3, hn4, hn5, hn6, hn0⟩ := id hN
  have h1n := sN1_c hI hKk
  have hzt := zcap_top (N 1)
  have hzl := zcap_le (N 1)
  refine lv_iload_n hx hb dX6_entryAt_0 rfl (lv_at hl 1 rfl) ?_
  refine lv_if_lt (tgt := 15) hx hb dX6_entryAt_1 (by decide) (fun zc_1 => ?_) (fun zc_1 => ?_)
  · skip
    have zd_1 := Int32.not_le.mpr zc_1
    obtain ⟨sa, hsa⟩ := zText hNs (i := 7) (q := ("BoilerLog", 202, "no such entry")) rfl
    exact vx_throwS (own := RX6) (cls := "java/lang/IndexOutOfBoundsException") (names := ["java/lang/RuntimeException", "java/lang/Exception"]) (A := fun _ => False) hx hb hst hown (by decide) (by decide) (hts _ (List.mem_of_getElem? (i := 1) rfl)) (hts _ (List.mem_of_getElem? (i := 2) rfl)) hsa (zThrow_all (fun w h => hts w (List.mem_cons_of_mem _ (List.mem_append_right _ h))) zBad_204 hNs) zGood_204 (hZ.1.1.narrow (fun _ h => h.elim)) (hZ.1.2.1.narrow (fun _ h => h.elim)) hS0 (by rw [hml]; exact hl.1) dX6_entryAt_15 dX6_entryAt_18 dX6_entryAt_19 dX6_entryAt_21 dX6_entryAt_24 (fun x h => (hxt x h).elim) (Nat.le_of_ble_eq_true rfl) (Nat.le_of_ble_eq_true rfl) (show 0 + 1 ≤ 2 by omega) (show 0 + 6 ≤ 12 by omega) hlocks (fun t _ hz hq => ⟨0, (show sK1 (sIx a1 (N 1)) = (1 : Int32) from by rw [sK1, zIx_neg zc_1]; rfl), rfl, ⟨Nat.le_trans hS0.1 hz, fun q hq1 _ => (hq q (Nat.lt_of_lt_of_le hq1 hS0.1)).trans (hS0.2.1 q hq1 id)⟩⟩) (fun z hz => (hS0.2.2 z hz).elim) (show 0 + 1 ≤ 2 by omega) (show 0 + 6 ≤ 12 by omega)
  · skip
    have zd_1 := Int32.not_lt.mp zc_1
    refine lv_iload_n hx hb dX6_entryAt_4 rfl (lv_at hl 1 rfl) ?_
    refine lv_aload_n hx hb dX6_entryAt_5 rfl (lv_at hl 0 rfl) ?_
    have hh0 : w[0]? = some (r 0, .inr (7, [.ref (r 1), .ref (r 2), .ref (r 3), .ref (r 4), .ref (r 5), .ref (r 6), .ref (r 7), .ref (r 8), .ref (r 9), .ref (r 10), .int (nI (N 0)), .int ((T 19) 0), .int ((T 19) 1), .int (nI (N 6))])) := hC.1.1 0 (by omega)
    refine va_get (D := G.1) (ci := 7) (v := .ref (r 9)) (C := RX6) (T := TX6) (N := 14) hx hb hts hi_X6 hown hK hP 0 hh0 rfl 8 (by decide) (hts (.fieldLink RX6 45 "BoilerLog" "log" "LBoilerLog$Log;") (List.mem_of_getElem? (i := 3) rfl)) (fun _ h9 => h9) rfl dX6_entryAt_6 ?_
    have hh9 : w[9]? = some (r 9, .inr (3, [.ref (A 8), .int (nI (N 1))])) := hC.1.1 9 (by omega)
    refine z_csi (va_Run.run (va_runVN (As := []) (rest := [.int a1]) ⟨hx, hb, hml, hown, hts⟩ (c_X2_size l G w 9 (r 9) (A 8) (nI (N 1)) (by first | assumption | omega | exact sIx_in.mp (by assumption))) ⟨va_cnB 0 hts gX6_entryAt_X2_size_n123 rfl rfl rfl (hNs.1 _ (List.mem_append_left _ (List.mem_of_getElem? (i := 11) rfl))) (hts (.initialized RX2) (List.mem_of_getElem? (i := 5) rfl)) (by decide +kernel) ⟨Nat.le_of_ble_eq_true rfl, Nat.le_of_ble_eq_true rfl⟩, hts (.instanceMethod yX2_size) (List.mem_of_getElem? (i := 4) rfl), hts (.selects RX2 yX2_size yX2_size) (List.mem_of_getElem? (i := 6) rfl)⟩ (z_pv hK hP (ci := 3) (q0 := 9) rfl hh9 hP) rfl rfl hl.1 rfl (lv_room (Nat.le_of_ble_eq_true rfl)) dX6_entryAt_9 ⟨(show 0 + 0 ≤ 2 by omega), (show 0 + 0 ≤ 12 by omega)⟩)) (fun zr_2 hzr_2 => ?_)
    subst hzr_2
    refine lv_icmp_lt (tgt := 25) hx hb dX6_entryAt_12 (by decide) (fun zc_3 => ?_) (fun zc_3 => ?_)
    · skip
      have zd_3 := Int32.not_le.mpr zc_3
      have hin1 : vp_in a1 (N 1) := zIn_lt (by omega) (Int32.not_lt.mp zc_1) zc_3
      have hk0 : sK1 (sIx a1 (N 1)) = 0 := by rw [sK1, sIx_in.mpr hin1]; rfl
      refine lv_aload_n hx hb dX6_entryAt_25 rfl (lv_at hl 0 rfl) ?_
      refine va_get (D := G.1) (ci := 7) (v := .ref (r 9)) (C := RX6) (T := TX6) (N := 14) hx hb hts hi_X6 hown hK hP 0 hh0 rfl 8 (by decide) (hts (.fieldLink RX6 45 "BoilerLog" "log" "LBoilerLog$Log;") (List.mem_of_getElem? (i := 3) rfl)) (fun _ h9 => h9) rfl dX6_entryAt_26 ?_
      refine lv_iload_n hx hb dX6_entryAt_29 rfl (lv_at hl 1 rfl) ?_
      obtain ⟨kz4, zk4, hz4⟩ := hC.1.2.1 8 (Or.inr (Or.inl rfl))
      have hz4 : w[kz4]? = some (A 8, .inl (G.2 0, (zcap (N 1)), .inl (g 8))) := hz4
      refine z_csi (va_Run.run (va_runVN (As := [.int a1]) (rest := []) ⟨hx, hb, hml, hown, hts⟩ (c_X2_codeAt l G w 9 (r 9) (A 8) (nI (N 1)) kz4 (zcap (N 1)) (g 8) a1 (by assumption) (by assumption) (vp_in_m hin1 hzl)) ⟨va_cnB 1 hts gX6_entryAt_X2_codeAt_n205 rfl rfl rfl (hNs.1 _ (List.mem_append_left _ (List.mem_of_getElem? (i := 18) rfl))) (hts (.initialized RX2) (List.mem_of_getElem? (i := 5) rfl)) (by decide +kernel) ⟨Nat.le_of_ble_eq_true rfl, Nat.le_of_ble_eq_true rfl⟩, hts (.instanceMethod yX2_codeAt) (List.mem_of_getElem? (i := 9) rfl), hts (.selects RX2 yX2_codeAt yX2_codeAt) (List.mem_of_getElem? (i := 10) rfl)⟩ (z_pv hK hP (ci := 3) (q0 := 9) rfl hh9 hP) rfl rfl hl.1 rfl (lv_room (Nat.le_of_ble_eq_true rfl)) dX6_entryAt_30 ⟨(show 0 + 0 ≤ 2 by omega), (show 0 + 0 ≤ 12 by omega)⟩)) (fun zr_5 hzr_5 => ?_)
      subst hzr_5
      exact vx_ret (z_widen (k := 2) (n := 12) (show 0 ≤ 2 by omega) (show 0 ≤ 12 by omega) (W.iret (v := (g 8) a1.toNatClampNeg) hx hb hr (fun t ht hW => ⟨⟨(g 8) a1.toNatClampNeg, w, rfl, ⟨hk0, hC.2 _ (zCl hin1 (by omega)).1, _, _, _, hC⟩, ⟨by rw [ht]; exact hP, hD⟩⟩, hS.F ht⟩) hS.2.2 dX6_entryAt_33 hlocks))
    · skip
      have zd_3 := Int32.not_lt.mp zc_3
      obtain ⟨sa, hsa⟩ := zText hNs (i := 7) (q := ("BoilerLog", 202, "no such entry")) rfl
      exact vx_throwS (own := RX6) (cls := "java/lang/IndexOutOfBoundsException") (names := ["java/lang/RuntimeException", "java/lang/Exception"]) (A := fun _ => False) hx hb hst hown (by decide) (by decide) (hts _ (List.mem_of_getElem? (i := 1) rfl)) (hts _ (List.mem_of_getElem? (i := 2) rfl)) hsa (zThrow_all (fun w h => hts w (List.mem_cons_of_mem _ (List.mem_append_right _ h))) zBad_204 hNs) zGood_204 (hZ.1.1.narrow (fun _ h => h.elim)) (hZ.1.2.1.narrow (fun _ h => h.elim)) hS0 (by rw [hml]; exact hl.1) dX6_entryAt_15 dX6_entryAt_18 dX6_entryAt_19 dX6_entryAt_21 dX6_entryAt_24 (fun x h => (hxt x h).elim) (Nat.le_of_ble_eq_true rfl) (Nat.le_of_ble_eq_true rfl) (show 0 + 1 ≤ 2 by omega) (show 0 + 6 ≤ 12 by omega) hlocks (fun t _ hz hq => ⟨0, (show sK1 (sIx a1 (N 1)) = (1 : Int32) from by rw [sK1, zIx_ge (nI_toInt (by omega)) zc_3]; rfl), rfl, ⟨Nat.le_trans hS0.1 hz, fun q hq1 _ => (hq q (Nat.lt_of_lt_of_le hq1 hS0.1)).trans (hS0.2.1 q hq1 id)⟩⟩) (fun z hz => (hS0.2.2 z hz).elim) (show 0 + 1 ≤ 2 by omega) (show 0 + 6 ≤ 12 by omega)

set_option maxHeartbeats 4000000 in
set_option maxRecDepth 100000 in
theorem c_X6_stateOf (l : Launch) (hst : l.stackTraces = false) (G : zG) (d : Nat) (r A : Nat → Nat) (mc : Nat → Int32) (g : Nat → Nat → Int32) (N : Nat → Nat) (T : Nat → Nat → Int32) (w : va_W) (K : Nat) (a1 : Int32) (sz : Nat) (hC : sCQ G d r A mc g N T w) (hI : sInv N T K 0) (hKk : K ≤ 511) : vx_Met l yX6_stateOf wsX6_stateOf ({ frames := 6, cells := 2, slots := 12, locals := 90 }) (va_Pc [.ref (r 0), .int a1] (zCu G d w sz)) (va_Qi (fun (r1 : Int32) (w1 : va_W) => sK1 (sIx a1 (N 3)) = 0 ∧ r1 = T 16 a1.toNatClampNeg ∧ sCO G d r N T w1) (zB G (va_A w sz)) (va_A w sz)) (zXk ["java/lang/IndexOutOfBoundsException"] (sK1 (sIx a1 (N 3)))) (2) (12) (va_A w sz) := by
  refine vx_ofW (cc := cX6_stateOf) (maxL := 2) (ret := (some .int)) (by decide) rfl ?_
  intro p e s m args below meth c s₁ B hml hxt hv
  obtain ⟨rfl, hsz, hP, hK, hD0, hZ⟩ := hv
  have hx := B.exec
  have hb := B.bytes
  have hr := B.returns
  have hts := atoms_spec (ws := wsX6_stateOf) B.pre
  have hown : s.vm.findClass RX6 = some m.cls := findClass_of_methodNamed B.named
  have hlocks := B.notSynchronized
  have hi_X0 : ∀ w ∈ u_ws RX0 TX0 6, w ∈ wsX6_stateOf := (fun _ h => List.mem_cons_of_mem _ (List.mem_append_left _ (List.mem_append_left _ (List.mem_append_right _ h))))
  have hi_X6 : ∀ w ∈ u_ws RX6 TX6 14, w ∈ wsX6_stateOf := (fun _ h => List.mem_cons_of_mem _ (List.mem_append_left _ (List.mem_append_left _ (List.mem_append_left _ (List.mem_append_right _ h)))))
  have hNs := hZ.1.2.2
  have hS0 : va_S (fun _ => False) s.heap s.heap [] := va_S.rf
  subst hsz
  have hD := hD0.self (sz := s.heap.size)
  generalize hAe : va_A w s.heap.size = Aw at hD hZ ⊢
  have hA : ∀ q : Nat, s.heap.size ≤ q → Aw q := fun q h => by rw [← hAe]; exact Or.inr h
  have hS : va_S Aw s.heap s.heap [] := va_S.rf
  have hl := lv_entry ([.ref (r 0), .int a1]) (n := 2) (Nat.le_of_ble_eq_true rfl)
  rw [lg_entry_eq]
  generalize (lg_sl ([.ref (r 0), .int a1]) ++ List.replicate (2 - (lg_sl ([.ref (r 0), .int a1])).length) Slot.unset).toArray = ls at hl ⊢
  have hl : lv_has ls 2 [(0, .ref (r 0)), (1, .int a1)] := hl
  have hN := hI.sm
  obtain ⟨hn2, hn3, hn4, hn5, hn6, hn0⟩ := id hN
  have h1n := sN1_c hI hKk
  refine lv_iload_n hx hb dX6_stateOf_0 rfl (lv_at hl 1 rfl) ?_
  refine lv_if_lt (tgt := 15) hx hb dX6_stateOf_1 (by decide) (fun zc_1 => ?_) (fun zc_1 => ?_)
  · skip
    have zd_1 := Int32.not_le.mpr zc_1
    obtain ⟨sa, hsa⟩ := zText hNs (i := 10) (q := ("BoilerLog", 217, "no such alarm")) rfl
    exact vx_throwS (own := RX6) (cls := "java/lang/IndexOutOfBoundsException") (names := ["java/lang/RuntimeException", "java/lang/Exception"]) (A := fun _ => False) hx hb hst hown (by decide) (by decide) (hts _ (List.mem_of_getElem? (i := 1) rfl)) (hts _ (List.mem_of_getElem? (i := 2) rfl)) hsa (zThrow_all (fun w h => hts w (List.mem_cons_of_mem _ (List.mem_append_right _ h))) zBad_204 hNs) zGood_204 (hZ.1.1.narrow (fun _ h => h.elim)) (hZ.1.2.1.narrow (fun _ h => h.elim)) hS0 (by rw [hml]; exact hl.1) dX6_stateOf_15 dX6_stateOf_18 dX6_stateOf_19 dX6_stateOf_21 dX6_stateOf_24 (fun x h => (hxt x h).elim) (Nat.le_of_ble_eq_true rfl) (Nat.le_of_ble_eq_true rfl) (show 0 + 1 ≤ 2 by omega) (show 0 + 6 ≤ 12 by omega) hlocks (fun t _ hz hq => ⟨0, (show sK1 (sIx a1 (N 3)) = (1 : Int32) from by rw [sK1, zIx_neg zc_1]; rfl), rfl, ⟨Nat.le_trans hS0.1 hz, fun q hq1 _ => (hq q (Nat.lt_of_lt_of_le hq1 hS0.1)).trans (hS0.2.1 q hq1 id)⟩⟩) (fun z hz => (hS0.2.2 z hz).elim) (show 0 + 1 ≤ 2 by omega) (show 0 + 6 ≤ 12 by omega)
  · skip
    have zd_1 := Int32.not_lt.mp zc_1
    refine lv_iload_n hx hb dX6_stateOf_4 rfl (lv_at hl 1 rfl) ?_
    refine lv_aload_n hx hb dX6_stateOf_5 rfl (lv_at hl 0 rfl) ?_
    have hh0 : w[0]? = some (r 0, .inr (7, [.ref (r 1), .ref (r 2), .ref (r 3), .ref (r 4), .ref (r 5), .ref (r 6), .ref (r 7), .ref (r 8), .ref (r 9), .ref (r 10), .int (nI (N 0)), .int ((T 19) 0), .int ((T 19) 1), .int (nI (N 6))])) := hC.1.1 0 (by omega)
    refine va_get (D := G.1) (ci := 7) (v := .ref (r 6)) (C := RX6) (T := TX6) (N := 14) hx hb hts hi_X6 hown hK hP 0 hh0 rfl 5 (by decide) (hts (.fieldLink RX6 33 "BoilerLog" "alarms" "Ljava/util/ArrayList;") (List.mem_of_getElem? (i := 3) rfl)) (fun _ h9 => h9) rfl dX6_stateOf_6 ?_
    have hh6 : w[6]? = some (r 6, .inr (0, [.int (mc 1), cDt d (N 3) (A 10), .int (nI (N 3))])) := hC.1.1 6 (by omega)
    refine z_csi (va_Run.run (va_runV (As := []) (rest := [.int a1]) ⟨hx, hb, hml, hown, hts⟩ (c_Jx4a65c_size_8abf5 l G w 6 (r 6) (mc 1) (cDt d (N 3) (A 10)) (nI (N 3)) (by first | assumption | omega | exact sIx_in.mp (by assumption))) (cwV 0 hts gX6_stateOf_Jx4a65c_size_8abf5 rfl rfl rfl (by decide +kernel) ⟨Nat.le_of_ble_eq_true rfl, Nat.le_of_ble_eq_true rfl⟩) (z_pv hK hP (ci := 0) (q0 := 6) rfl hh6 hP) rfl rfl hl.1 rfl (lv_room (Nat.le_of_ble_eq_true rfl)) dX6_stateOf_9 ⟨(show 0 + 0 ≤ 2 by omega), (show 0 + 0 ≤ 12 by omega)⟩)) (fun zr_2 hzr_2 => ?_)
    subst hzr_2
    refine lv_icmp_lt (tgt := 25) hx hb dX6_stateOf_12 (by decide) (fun zc_3 => ?_) (fun zc_3 => ?_)
    · skip
      have zd_3 := Int32.not_le.mpr zc_3
      have hin1 : vp_in a1 (N 3) := zIn_lt (by omega) (Int32.not_lt.mp zc_1) zc_3
      have hk0 : sK1 (sIx a1 (N 3)) = 0 := by rw [sK1, sIx_in.mpr hin1]; rfl
      have hp2 : a1.toNatClampNeg < N 3 := (zCl hin1 (by omega)).1
      refine lv_aload_n hx hb dX6_stateOf_25 rfl (lv_at hl 0 rfl) ?_
      have hh0 : w[0]? = some (r 0, .inr (7, [.ref (r 1), .ref (r 2), .ref (r 3), .ref (r 4), .ref (r 5), .ref (r 6), .ref (r 7), .ref (r 8), .ref (r 9), .ref (r 10), .int (nI (N 0)), .int ((T 19) 0), .int ((T 19) 1), .int (nI (N 6))])) := hC.1.1 0 (by omega)
      refine va_get (D := G.1) (ci := 7) (v := .ref (r 6)) (C := RX6) (T := TX6) (N := 14) hx hb hts hi_X6 hown hK hP 0 hh0 rfl 5 (by decide) (hts (.fieldLink RX6 33 "BoilerLog" "alarms" "Ljava/util/ArrayList;") (List.mem_of_getElem? (i := 3) rfl)) (fun _ h9 => h9) rfl dX6_stateOf_26 ?_
      refine lv_iload_n hx hb dX6_stateOf_29 rfl (lv_at hl 1 rfl) ?_
      have hh6 : w[6]? = some (r 6, .inr (0, [.int (mc 1), .ref (A 10), .int (nI (N 3))])) := by rw [← cDt_p (d := d) (a := A 10) (show 0 < N 3 by omega)]; exact hC.1.1 6 (by omega)
      obtain ⟨kz4, zk4, hz4⟩ := hC.1.2.1 10 (zL_l10 (show 0 < N 3 by omega))
      have hz4 : w[kz4]? = some (A 10, .inl (G.2 5, (lcap (N 3)), .inr (.inr (.inr (.inr (cGa A 200 (N 3))))))) := hz4
      refine z_csq (va_Run.run (va_runV (As := [.int a1]) (rest := []) ⟨hx, hb, hml, hown, hts⟩ (c_Jx4a65c_get_915e3 l G w 6 (r 6) (mc 1) (A 10) (nI (N 3)) kz4 (lcap (N 3)) (cGa A 200 (N 3)) a1 (by assumption) (by assumption) (zNn_in hin1) (zLt_in hin1 (by omega)) (zlc (k := 60) hin1 (by omega) (by omega))) (cwV 1 hts gX6_stateOf_Jx4a65c_get_915e3 rfl rfl rfl (by decide +kernel) ⟨Nat.le_of_ble_eq_true rfl, Nat.le_of_ble_eq_true rfl⟩) (z_pv hK hP (ci := 0) (q0 := 6) rfl hh6 hP) rfl rfl hl.1 rfl (lv_room (Nat.le_of_ble_eq_true rfl)) dX6_stateOf_30 ⟨(show 0 + 0 ≤ 2 by omega), (show 0 + 0 ≤ 12 by omega)⟩)) (fun zr_5 hzr_5 => ?_)
      subst hzr_5
      refine W.eq (g2 := F0 m 33 ls [.ref (A (200 + a1.toNatClampNeg))]) (by first | (rw [cGa_p hp2]; done) | (rw [cGa_p hp2]; rfl)) ?_
      obtain ⟨kz6, zk6, hz6⟩ := hC.1.2.1 (200 + a1.toNatClampNeg) (zL_alarm hp2)
      rw [cE_alarm (show a1.toNatClampNeg < 100 by have := hp2; omega)] at hz6
      have hz6 : w[kz6]? = some (A (200 + a1.toNatClampNeg), .inr (1, [.int ((T 11) a1.toNatClampNeg), .int ((T 12) a1.toNatClampNeg), .int ((T 13) a1.toNatClampNeg), .int ((T 14) a1.toNatClampNeg), .int ((T 15) a1.toNatClampNeg), .int ((T 16) a1.toNatClampNeg)])) := hz6
      refine va_castS (cC := G.1.1 1) hx hb hown (hts (.classLink RX6 212 "BoilerLog$Alarm") (List.mem_of_getElem? (i := 4) rfl)) (hK.1 1 _ rfl).2 (va_recv hK hP (ci := 1) (q0 := kz6) rfl hz6) dX6_stateOf_33 ?_
      refine va_getN (D := G.1) (ci := 1) (v := .int ((T 16) a1.toNatClampNeg)) (C := RX0) (T := TX0) (N := 6) hx hb hts hi_X0 hown hK hP kz6 hz6 rfl 5 (by decide) (va_Nw.use rfl (hNs.1 _ (List.mem_append_left _ (List.mem_of_getElem? (i := 6) rfl)))) (fun _ h9 => h9) rfl dX6_stateOf_36 ?_
      exact vx_ret (z_widen (k := 2) (n := 12) (show 0 ≤ 2 by omega) (show 0 ≤ 12 by omega) (W.iret (v := (T 16) a1.toNatClampNeg) hx hb hr (fun t ht hW => ⟨⟨(T 16) a1.toNatClampNeg, w, rfl, ⟨hk0, rfl, _, _, _, hC⟩, ⟨by rw [ht]; exact hP, hD⟩⟩, hS.F ht⟩) hS.2.2 dX6_stateOf_39 hlocks))
    · skip
      have zd_3 := Int32.not_lt.mp zc_3
      obtain ⟨sa, hsa⟩ := zText hNs (i := 10) (q := ("BoilerLog", 217, "no such alarm")) rfl
      exact vx_throwS (own := RX6) (cls := "java/lang/IndexOutOfBoundsException") (names := ["java/lang/RuntimeException", "java/lang/Exception"]) (A := fun _ => False) hx hb hst hown (by decide) (by decide) (hts _ (List.mem_of_getElem? (i := 1) rfl)) (hts _ (List.mem_of_getElem? (i := 2) rfl)) hsa (zThrow_all (fun w h => hts w (List.mem_cons_of_mem _ (List.mem_append_right _ h))) zBad_204 hNs) zGood_204 (hZ.1.1.narrow (fun _ h => h.elim)) (hZ.1.2.1.narrow (fun _ h => h.elim)) hS0 (by rw [hml]; exact hl.1) dX6_stateOf_15 dX6_stateOf_18 dX6_stateOf_19 dX6_stateOf_21 dX6_stateOf_24 (fun x h => (hxt x h).elim) (Nat.le_of_ble_eq_true rfl) (Nat.le_of_ble_eq_true rfl) (show 0 + 1 ≤ 2 by omega) (show 0 + 6 ≤ 12 by omega) hlocks (fun t _ hz hq => ⟨0, (show sK1 (sIx a1 (N 3)) = (1 : Int32) from by rw [sK1, zIx_ge (nI_toInt (by omega)) zc_3]; rfl), rfl, ⟨Nat.le_trans hS0.1 hz, fun q hq1 _ => (hq q (Nat.lt_of_lt_of_le hq1 hS0.1)).trans (hS0.2.1 q hq1 id)⟩⟩) (fun z hz => (hS0.2.2 z hz).elim) (show 0 + 1 ≤ 2 by omega) (show 0 + 6 ≤ 12 by omega)

set_option maxHeartbeats 4000000 in
set_option maxRecDepth 100000 in
theorem c_X6_takeOff (l : Launch) (hst : l.stackTraces = false) (G : zG) (d : Nat) (r A : Nat → Nat) (mc : Nat → Int32) (g : Nat → Nat → Int32) (N : Nat → Nat) (T : Nat → Nat → Int32) (w : va_W) (K : Nat) (a1 a2 : Int32) (sz : Nat) (hC : sCQ G d r A mc g N T w) (hI : sInv N T K 0) (hKk : K ≤ 511) : vx_Met l yX6_takeOff wsX6_takeOff ({ frames := 7, cells := (8 + zmc (sK2 ((sIx a1 9) && (sIx a2 (N 2))) (((decide (T 10 a2.toNatClampNeg = 0)) && (sMay N T a1)) && (decide (a1 = T 7 a2.toNatClampNeg) || !decide (T 2 (T 7 a2.toNatClampNeg).toNatClampNeg = 0)))) (N 1) ((nTake N T a1 a2).1 1)), slots := (200 + zms (sK2 ((sIx a1 9) && (sIx a2 (N 2))) (((decide (T 10 a2.toNatClampNeg = 0)) && (sMay N T a1)) && (decide (a1 = T 7 a2.toNatClampNeg) || !decide (T 2 (T 7 a2.toNatClampNeg).toNatClampNeg = 0)))) (N 1) ((nTake N T a1 a2).1 1)), locals := 111 }) (va_Pc [.ref (r 0), .int a1, .int a2] (zCu G d w sz)) (va_Qi (fun (r1 : Int32) (w1 : va_W) => sK2 ((sIx a1 9) && (sIx a2 (N 2))) (((decide (T 10 a2.toNatClampNeg = 0)) && (sMay N T a1)) && (decide (a1 = T 7 a2.toNatClampNeg) || !decide (T 2 (T 7 a2.toNatClampNeg).toNatClampNeg = 0))) = 0 ∧ r1 = zb (sComes T a1 a2.toNatClampNeg) ∧ sCO G d r ((nTake N T a1 a2).1) ((nTake N T a1 a2).2) w1) (zB G (va_A w sz)) (va_A w sz)) (zXk ["java/lang/IndexOutOfBoundsException", "java/lang/IllegalStateException"] (sK2 ((sIx a1 9) && (sIx a2 (N 2))) (((decide (T 10 a2.toNatClampNeg = 0)) && (sMay N T a1)) && (decide (a1 = T 7 a2.toNatClampNeg) || !decide (T 2 (T 7 a2.toNatClampNeg).toNatClampNeg = 0))))) ((8 + zmc (sK2 ((sIx a1 9) && (sIx a2 (N 2))) (((decide (T 10 a2.toNatClampNeg = 0)) && (sMay N T a1)) && (decide (a1 = T 7 a2.toNatClampNeg) || !decide (T 2 (T 7 a2.toNatClampNeg).toNatClampNeg = 0)))) (N 1) ((nTake N T a1 a2).1 1))) ((200 + zms (sK2 ((sIx a1 9) && (sIx a2 (N 2))) (((decide (T 10 a2.toNatClampNeg = 0)) && (sMay N T a1)) && (decide (a1 = T 7 a2.toNatClampNeg) || !decide (T 2 (T 7 a2.toNatClampNeg).toNatClampNeg = 0)))) (N 1) ((nTake N T a1 a2).1 1))) (va_A w sz) := by
  refine vx_ofW (cc := cX6_takeOff) (maxL := 4) (ret := (some .boolean)) (by decide) rfl ?_
  intro p e s m args below meth c s₁ B hml hxt hv
  obtain ⟨rfl, hsz, hP, hK, hD0, hZ⟩ := hv
  have hx := B.exec
  have hb := B.bytes
  have hr := B.returns
  have hts := atoms_spec (ws := wsX6_takeOff) B.pre
  have hown : s.vm.findClass RX6 = some m.cls := findClass_of_methodNamed B.named
  have hlocks := B.notSynchronized
  have hi_X4 : ∀ w ∈ u_ws RX4 TX4 4, w ∈ wsX6_takeOff := (fun _ h => List.mem_cons_of_mem _ (List.mem_append_left _ (List.mem_append_left _ (List.mem_append_left _ (List.mem_append_left _ (List.mem_append_right _ h))))))
  have hi_X6 : ∀ w ∈ u_ws RX6 TX6 14, w ∈ wsX6_takeOff := (fun _ h => List.mem_cons_of_mem _ (List.mem_append_left _ (List.mem_append_left _ (List.mem_append_left _ (List.mem_append_left _ (List.mem_append_left _ (List.mem_append_right _ h)))))))
  have hNs := hZ.1.2.2
  have hS0 : va_S (fun _ => False) s.heap s.heap [] := va_S.rf
  subst hsz
  have hD := hD0.self (sz := s.heap.size)
  generalize hAe : va_A w s.heap.size = Aw at hD hZ ⊢
  have hA : ∀ q : Nat, s.heap.size ≤ q → Aw q := fun q h => by rw [← hAe]; exact Or.inr h
  have hS : va_S Aw s.heap s.heap [] := va_S.rf
  have hl := lv_entry ([.ref (r 0), .int a1, .int a2]) (n := 4) (Nat.le_of_ble_eq_true rfl)
  rw [lg_entry_eq]
  generalize (lg_sl ([.ref (r 0), .int a1, .int a2]) ++ List.replicate (4 - (lg_sl ([.ref (r 0), .int a1, .int a2])).length) Slot.unset).toArray = ls at hl ⊢
  have hl : lv_has ls 4 [(0, .ref (r 0)), (1, .int a1), (2, .int a2)] := hl
  have hN := hI.sm
  obtain ⟨hn2, hn3, hn4, hn5, hn6, hn0⟩ := id hN
  have h1n := sN1_c hI hKk
  refine lv_iload_n hx hb dX6_takeOff_0 rfl (lv_at hl 1 rfl) ?_
  refine z_chk (vx_runS (As := [.int a1]) (rest := []) ⟨hx, hb, hml, hown, hts⟩ (c_X6_checkPerson l hst G w a1) (va_cwS 1 hts gX6_takeOff_X6_checkPerson rfl rfl rfl (by decide +kernel) ⟨Nat.le_of_ble_eq_true rfl, Nat.le_of_ble_eq_true rfl⟩) (z_rs hK hP hZ.1 hS) rfl rfl hl.1 rfl (lv_room (Nat.le_of_ble_eq_true rfl)) dX6_takeOff_1 ⟨(show 0 + 1 ≤ (8 + zmc (sK2 ((sIx a1 9) && (sIx a2 (N 2))) (((decide (T 10 a2.toNatClampNeg = 0)) && (sMay N T a1)) && (decide (a1 = T 7 a2.toNatClampNeg) || !decide (T 2 (T 7 a2.toNatClampNeg).toNatClampNeg = 0)))) (N 1) ((nTake N T a1 a2).1 1)) by first | omega | (rw [zmc_0 hk0, hn1q]; omega) | (rw [zms_0 hk0, hn1q]; omega)), (show 0 + 6 ≤ (200 + zms (sK2 ((sIx a1 9) && (sIx a2 (N 2))) (((decide (T 10 a2.toNatClampNeg = 0)) && (sMay N T a1)) && (decide (a1 = T 7 a2.toNatClampNeg) || !decide (T 2 (T 7 a2.toNatClampNeg).toNatClampNeg = 0)))) (N 1) ((nTake N T a1 a2).1 1)) by first | omega | (rw [zmc_0 hk0, hn1q]; omega) | (rw [zms_0 hk0, hn1q]; omega))⟩) hP hS0 (fun zno => ⟨0, (show sK2 ((sIx a1 9) && (sIx a2 (N 2))) (((decide (T 10 a2.toNatClampNeg = 0)) && (sMay N T a1)) && (decide (a1 = T 7 a2.toNatClampNeg) || !decide (T 2 (T 7 a2.toNatClampNeg).toNatClampNeg = 0))) = (1 : Int32) from by simp [sK1, sK2, sK3, zno]), rfl⟩) (fun x h => (hxt x h).elim) hlocks (show 0 + 1 ≤ (8 + zmc (sK2 ((sIx a1 9) && (sIx a2 (N 2))) (((decide (T 10 a2.toNatClampNeg = 0)) && (sMay N T a1)) && (decide (a1 = T 7 a2.toNatClampNeg) || !decide (T 2 (T 7 a2.toNatClampNeg).toNatClampNeg = 0)))) (N 1) ((nTake N T a1 a2).1 1)) by omega) (show 0 + 6 ≤ (200 + zms (sK2 ((sIx a1 9) && (sIx a2 (N 2))) (((decide (T 10 a2.toNatClampNeg = 0)) && (sMay N T a1)) && (decide (a1 = T 7 a2.toNatClampNeg) || !decide (T 2 (T 7 a2.toNatClampNeg).toNatClampNeg = 0)))) (N 1) ((nTake N T a1 a2).1 1)) by omega) (fun zok_1 Hz Lz hP hS0 => ?_)
  have hS : va_S Aw s.heap Hz Lz := z_SF hS0
  refine lv_aload_n hx hb dX6_takeOff_4 rfl (lv_at hl 0 rfl) ?_
  refine lv_iload_n hx hb dX6_takeOff_5 rfl (lv_at hl 2 rfl) ?_
  have hh0 : w[0]? = some (r 0, .inr (7, [.ref (r 1), .ref (r 2), .ref (r 3), .ref (r 4), .ref (r 5), .ref (r 6), .ref (r 7), .ref (r 8), .ref (r 9), .ref (r 10), .int (nI (N 0)), .int ((T 19) 0), .int ((T 19) 1), .int (nI (N 6))])) := hC.1.1 0 (by omega)
  have hh5 : w[5]? = some (r 5, .inr (0, [.int (mc 0), cDt d (N 2) (A 9), .int (nI (N 2))])) := hC.1.1 5 (by omega)
  refine z_chk (vx_runV (As := [.int a2]) (rest := []) ⟨hx, hb, hml, hown, hts⟩ (c_X6_checkTag l hst G w 0 r (nI (N 0)) ((T 19) 0) ((T 19) 1) (nI (N 6)) 5 (mc 0) (cDt d (N 2) (A 9)) (N 2) a2 (by first | assumption | omega | exact sIx_in.mp (by assumption)) (by first | assumption | omega | exact sIx_in.mp (by assumption)) (by first | assumption | omega | exact sIx_in.mp (by assumption))) (cwV 1 hts gX6_takeOff_X6_checkTag rfl rfl rfl (by decide +kernel) ⟨Nat.le_of_ble_eq_true rfl, Nat.le_of_ble_eq_true rfl⟩) (z_rv hK hP (ci := 7) (q0 := 0) rfl hh0 hP hZ.1 hS) rfl rfl hl.1 rfl (lv_room (Nat.le_of_ble_eq_true rfl)) dX6_takeOff_6 ⟨(show 0 + 1 + 1 ≤ (8 + zmc (sK2 ((sIx a1 9) && (sIx a2 (N 2))) (((decide (T 10 a2.toNatClampNeg = 0)) && (sMay N T a1)) && (decide (a1 = T 7 a2.toNatClampNeg) || !decide (T 2 (T 7 a2.toNatClampNeg).toNatClampNeg = 0)))) (N 1) ((nTake N T a1 a2).1 1)) by first | omega | (rw [zmc_0 hk0, hn1q]; omega) | (rw [zms_0 hk0, hn1q]; omega)), (show 0 + 6 + 6 ≤ (200 + zms (sK2 ((sIx a1 9) && (sIx a2 (N 2))) (((decide (T 10 a2.toNatClampNeg = 0)) && (sMay N T a1)) && (decide (a1 = T 7 a2.toNatClampNeg) || !decide (T 2 (T 7 a2.toNatClampNeg).toNatClampNeg = 0)))) (N 1) ((nTake N T a1 a2).1 1)) by first | omega | (rw [zmc_0 hk0, hn1q]; omega) | (rw [zms_0 hk0, hn1q]; omega))⟩) hP hS0 (fun zno => ⟨0, (show sK2 ((sIx a1 9) && (sIx a2 (N 2))) (((decide (T 10 a2.toNatClampNeg = 0)) && (sMay N T a1)) && (decide (a1 = T 7 a2.toNatClampNeg) || !decide (T 2 (T 7 a2.toNatClampNeg).toNatClampNeg = 0))) = (1 : Int32) from by simp [sK1, sK2, sK3, zok_1, zno]), rfl⟩) (fun x h => (hxt x h).elim) hlocks (show 0 + 1 + 1 ≤ (8 + zmc (sK2 ((sIx a1 9) && (sIx a2 (N 2))) (((decide (T 10 a2.toNatClampNeg = 0)) && (sMay N T a1)) && (decide (a1 = T 7 a2.toNatClampNeg) || !decide (T 2 (T 7 a2.toNatClampNeg).toNatClampNeg = 0)))) (N 1) ((nTake N T a1 a2).1 1)) by omega) (show 0 + 6 + 6 ≤ (200 + zms (sK2 ((sIx a1 9) && (sIx a2 (N 2))) (((decide (T 10 a2.toNatClampNeg = 0)) && (sMay N T a1)) && (decide (a1 = T 7 a2.toNatClampNeg) || !decide (T 2 (T 7 a2.toNatClampNeg).toNatClampNeg = 0)))) (N 1) ((nTake N T a1 a2).1 1)) by omega) (fun zok_6 Hz Lz hP hS0 => ?_)
  have hS : va_S Aw s.heap Hz Lz := z_SF hS0
  have hp2 : a2.toNatClampNeg < N 2 := (zCl (sIx_in.mp zok_6) (by omega)).1
  refine lv_aload_n hx hb dX6_takeOff_9 rfl (lv_at hl 0 rfl) ?_
  have hh0 : w[0]? = some (r 0, .inr (7, [.ref (r 1), .ref (r 2), .ref (r 3), .ref (r 4), .ref (r 5), .ref (r 6), .ref (r 7), .ref (r 8), .ref (r 9), .ref (r 10), .int (nI (N 0)), .int ((T 19) 0), .int ((T 19) 1), .int (nI (N 6))])) := hC.1.1 0 (by omega)
  refine va_get (D := G.1) (ci := 7) (v := .ref (r 5)) (C := RX6) (T := TX6) (N := 14) hx hb hts hi_X6 hown hK hP 0 hh0 rfl 4 (by decide) (hts (.fieldLink RX6 29 "BoilerLog" "tags" "Ljava/util/ArrayList;") (List.mem_of_getElem? (i := 3) rfl)) (fun _ h9 => h9) rfl dX6_takeOff_10 ?_
  refine lv_iload_n hx hb dX6_takeOff_13 rfl (lv_at hl 2 rfl) ?_
  have hh5 : w[5]? = some (r 5, .inr (0, [.int (mc 0), .ref (A 9), .int (nI (N 2))])) := by rw [← cDt_p (d := d) (a := A 9) (show 0 < N 2 by omega)]; exact hC.1.1 5 (by omega)
  obtain ⟨kz1, zk1, hz1⟩ := hC.1.2.1 9 (zL_l9 (show 0 < N 2 by omega))
  have hz1 : w[kz1]? = some (A 9, .inl (G.2 5, (lcap (N 2)), .inr (.inr (.inr (.inr (cGa A 100 (N 2))))))) := hz1
  refine z_csq (va_Run.run (va_runV (As := [.int a2]) (rest := []) ⟨hx, hb, hml, hown, hts⟩ (c_Jx4a65c_get_915e3 l G w 5 (r 5) (mc 0) (A 9) (nI (N 2)) kz1 (lcap (N 2)) (cGa A 100 (N 2)) a2 (by assumption) (by assumption) (zNn_in (sIx_in.mp zok_6)) (zLt_in (sIx_in.mp zok_6) (by omega)) (zlc (k := 60) (sIx_in.mp zok_6) (by omega) (by omega))) (cwV 1 hts gX6_takeOff_Jx4a65c_get_915e3 rfl rfl rfl (by decide +kernel) ⟨Nat.le_of_ble_eq_true rfl, Nat.le_of_ble_eq_true rfl⟩) (z_pv hK hP (ci := 0) (q0 := 5) rfl hh5 hP) rfl rfl hl.1 rfl (lv_room (Nat.le_of_ble_eq_true rfl)) dX6_takeOff_14 ⟨(show 0 + 1 + 1 + 0 ≤ (8 + zmc (sK2 ((sIx a1 9) && (sIx a2 (N 2))) (((decide (T 10 a2.toNatClampNeg = 0)) && (sMay N T a1)) && (decide (a1 = T 7 a2.toNatClampNeg) || !decide (T 2 (T 7 a2.toNatClampNeg).toNatClampNeg = 0)))) (N 1) ((nTake N T a1 a2).1 1)) by first | omega | (rw [zmc_0 hk0, hn1q]; omega) | (rw [zms_0 hk0, hn1q]; omega)), (show 0 + 6 + 6 + 0 ≤ (200 + zms (sK2 ((sIx a1 9) && (sIx a2 (N 2))) (((decide (T 10 a2.toNatClampNeg = 0)) && (sMay N T a1)) && (decide (a1 = T 7 a2.toNatClampNeg) || !decide (T 2 (T 7 a2.toNatClampNeg).toNatClampNeg = 0)))) (N 1) ((nTake N T a1 a2).1 1)) by first | omega | (rw [zmc_0 hk0, hn1q]; omega) | (rw [zms_0 hk0, hn1q]; omega))⟩)) (fun zr_2 hzr_2 => ?_)
  subst hzr_2
  refine W.eq (g2 := F0 m 17 ls [.ref (A (100 + a2.toNatClampNeg))]) (by first | (rw [cGa_p hp2]; done) | (rw [cGa_p hp2]; rfl)) ?_
  obtain ⟨kz3, zk3, hz3⟩ := hC.1.2.1 (100 + a2.toNatClampNeg) (zL_tag hp2)
  rw [cE_tag (show a2.toNatClampNeg < 100 by have := hp2; omega)] at hz3
  have hz3 : w[kz3]? = some (A (100 + a2.toNatClampNeg), .inr (5, [.int ((T 7) a2.toNatClampNeg), .int ((T 8) a2.toNatClampNeg), .int ((T 9) a2.toNatClampNeg), .int ((T 10) a2.toNatClampNeg)])) := hz3
  refine va_castS (cC := G.1.1 5) hx hb hown (hts (.classLink RX6 145 "BoilerLog$Tag") (List.mem_of_getElem? (i := 4) rfl)) (hK.1 5 _ rfl).2 (va_recv hK hP (ci := 5) (q0 := kz3) rfl hz3) dX6_takeOff_17 ?_
  refine lv_astore_n (lv' := [(3, .ref (A (100 + a2.toNatClampNeg))), (0, .ref (r 0)), (1, .int a1), (2, .int a2)]) hx hb dX6_takeOff_20 rfl hl (by decide) rfl (fun ls hl => ?_)
  refine lv_aload_n hx hb dX6_takeOff_21 rfl (lv_at hl 0 rfl) ?_
  refine va_getN (D := G.1) (ci := 5) (v := .int ((T 10) a2.toNatClampNeg)) (C := RX4) (T := TX4) (N := 4) hx hb hts hi_X4 hown hK hP kz3 hz3 rfl 3 (by decide) (va_Nw.use rfl (hNs.1 _ (List.mem_append_left _ (List.mem_of_getElem? (i := 2) rfl)))) (fun _ h9 => h9) rfl dX6_takeOff_22 ?_
  refine lv_if_ne (tgt := 56) hx hb dX6_takeOff_25 (by decide) (fun zc_4 => ?_) (fun zc_4 => ?_)
  · skip
    obtain ⟨sa, hsa⟩ := zText hNs (i := 4) (q := ("BoilerLog", 171, "the person may not take the tag off")) rfl
    exact vx_throwS (own := RX6) (cls := "java/lang/IllegalStateException") (names := ["java/lang/RuntimeException", "java/lang/Exception"]) (A := fun _ => False) hx hb hst hown (by decide) (by decide) (hts _ (List.mem_of_getElem? (i := 1) rfl)) (hts _ (List.mem_of_getElem? (i := 2) rfl)) hsa (zThrow_all (fun w h => hts w (List.mem_cons_of_mem _ (List.mem_append_left _ (List.mem_append_right _ h)))) zBad_99 hNs) zGood_99 (hZ.1.1.narrow (fun _ h => h.elim)) (hZ.1.2.1.narrow (fun _ h => h.elim)) hS0 (by rw [hml]; exact hl.1) dX6_takeOff_56 dX6_takeOff_59 dX6_takeOff_60 dX6_takeOff_62 dX6_takeOff_65 (fun x h => (hxt x h).elim) (Nat.le_of_ble_eq_true rfl) (Nat.le_of_ble_eq_true rfl) (show 0 + 1 + 1 + 1 ≤ (8 + zmc (sK2 ((sIx a1 9) && (sIx a2 (N 2))) (((decide (T 10 a2.toNatClampNeg = 0)) && (sMay N T a1)) && (decide (a1 = T 7 a2.toNatClampNeg) || !decide (T 2 (T 7 a2.toNatClampNeg).toNatClampNeg = 0)))) (N 1) ((nTake N T a1 a2).1 1)) by omega) (show 0 + 6 + 6 + 6 ≤ (200 + zms (sK2 ((sIx a1 9) && (sIx a2 (N 2))) (((decide (T 10 a2.toNatClampNeg = 0)) && (sMay N T a1)) && (decide (a1 = T 7 a2.toNatClampNeg) || !decide (T 2 (T 7 a2.toNatClampNeg).toNatClampNeg = 0)))) (N 1) ((nTake N T a1 a2).1 1)) by omega) hlocks (fun t _ hz hq => ⟨1, (show sK2 ((sIx a1 9) && (sIx a2 (N 2))) (((decide (T 10 a2.toNatClampNeg = 0)) && (sMay N T a1)) && (decide (a1 = T 7 a2.toNatClampNeg) || !decide (T 2 (T 7 a2.toNatClampNeg).toNatClampNeg = 0))) = (2 : Int32) from by simp [sK1, sK2, sK3, zok_1, zok_6, zc_4]), rfl, ⟨Nat.le_trans hS0.1 hz, fun q hq1 _ => (hq q (Nat.lt_of_lt_of_le hq1 hS0.1)).trans (hS0.2.1 q hq1 id)⟩⟩) (fun z hz => (hS0.2.2 z hz).elim) (show 0 + 1 + 1 + 1 ≤ (8 + zmc (sK2 ((sIx a1 9) && (sIx a2 (N 2))) (((decide (T 10 a2.toNatClampNeg = 0)) && (sMay N T a1)) && (decide (a1 = T 7 a2.toNatClampNeg) || !decide (T 2 (T 7 a2.toNatClampNeg).toNatClampNeg = 0)))) (N 1) ((nTake N T a1 a2).1 1)) by omega) (show 0 + 6 + 6 + 6 ≤ (200 + zms (sK2 ((sIx a1 9) && (sIx a2 (N 2))) (((decide (T 10 a2.toNatClampNeg = 0)) && (sMay N T a1)) && (decide (a1 = T 7 a2.toNatClampNeg) || !decide (T 2 (T 7 a2.toNatClampNeg).toNatClampNeg = 0)))) (N 1) ((nTake N T a1 a2).1 1)) by omega)
  · skip
    refine lv_aload_n hx hb dX6_takeOff_28 rfl (lv_at hl 1 rfl) ?_
    refine lv_iload_n hx hb dX6_takeOff_29 rfl (lv_at hl 2 rfl) ?_
    refine z_csi (va_Run.run (va_runV (As := [.int a1]) (rest := []) ⟨hx, hb, hml, hown, hts⟩ (c_X6_isAble l G d r A mc g N T w a1 hC (sIx_in.mp zok_1)) (cwV 1 hts gX6_takeOff_X6_isAble rfl rfl rfl (by decide +kernel) ⟨Nat.le_of_ble_eq_true rfl, Nat.le_of_ble_eq_true rfl⟩) (z_pv hK hP (ci := 7) (q0 := 0) rfl hh0 hP) rfl rfl hl.1 rfl (lv_room (Nat.le_of_ble_eq_true rfl)) dX6_takeOff_30 ⟨(show 0 + 1 + 1 + 0 ≤ (8 + zmc (sK2 ((sIx a1 9) && (sIx a2 (N 2))) (((decide (T 10 a2.toNatClampNeg = 0)) && (sMay N T a1)) && (decide (a1 = T 7 a2.toNatClampNeg) || !decide (T 2 (T 7 a2.toNatClampNeg).toNatClampNeg = 0)))) (N 1) ((nTake N T a1 a2).1 1)) by first | omega | (rw [zmc_0 hk0, hn1q]; omega) | (rw [zms_0 hk0, hn1q]; omega)), (show 0 + 6 + 6 + 0 ≤ (200 + zms (sK2 ((sIx a1 9) && (sIx a2 (N 2))) (((decide (T 10 a2.toNatClampNeg = 0)) && (sMay N T a1)) && (decide (a1 = T 7 a2.toNatClampNeg) || !decide (T 2 (T 7 a2.toNatClampNeg).toNatClampNeg = 0)))) (N 1) ((nTake N T a1 a2).1 1)) by first | omega | (rw [zmc_0 hk0, hn1q]; omega) | (rw [zms_0 hk0, hn1q]; omega))⟩)) (fun zr_5 hzr_5 => ?_)
    subst hzr_5
    refine lv_if_eq (tgt := 56) hx hb dX6_takeOff_33 (by decide) (fun zc_6 => ?_) (fun zc_6 => ?_)
    · skip
      have zc_6 := zb_0.mp zc_6
      obtain ⟨sa, hsa⟩ := zText hNs (i := 4) (q := ("BoilerLog", 171, "the person may not take the tag off")) rfl
      exact vx_throwS (own := RX6) (cls := "java/lang/IllegalStateException") (names := ["java/lang/RuntimeException", "java/lang/Exception"]) (A := fun _ => False) hx hb hst hown (by decide) (by decide) (hts _ (List.mem_of_getElem? (i := 1) rfl)) (hts _ (List.mem_of_getElem? (i := 2) rfl)) hsa (zThrow_all (fun w h => hts w (List.mem_cons_of_mem _ (List.mem_append_left _ (List.mem_append_right _ h)))) zBad_99 hNs) zGood_99 (hZ.1.1.narrow (fun _ h => h.elim)) (hZ.1.2.1.narrow (fun _ h => h.elim)) hS0 (by rw [hml]; exact hl.1) dX6_takeOff_56 dX6_takeOff_59 dX6_takeOff_60 dX6_takeOff_62 dX6_takeOff_65 (fun x h => (hxt x h).elim) (Nat.le_of_ble_eq_true rfl) (Nat.le_of_ble_eq_true rfl) (show 0 + 1 + 1 + 1 ≤ (8 + zmc (sK2 ((sIx a1 9) && (sIx a2 (N 2))) (((decide (T 10 a2.toNatClampNeg = 0)) && (sMay N T a1)) && (decide (a1 = T 7 a2.toNatClampNeg) || !decide (T 2 (T 7 a2.toNatClampNeg).toNatClampNeg = 0)))) (N 1) ((nTake N T a1 a2).1 1)) by omega) (show 0 + 6 + 6 + 6 ≤ (200 + zms (sK2 ((sIx a1 9) && (sIx a2 (N 2))) (((decide (T 10 a2.toNatClampNeg = 0)) && (sMay N T a1)) && (decide (a1 = T 7 a2.toNatClampNeg) || !decide (T 2 (T 7 a2.toNatClampNeg).toNatClampNeg = 0)))) (N 1) ((nTake N T a1 a2).1 1)) by omega) hlocks (fun t _ hz hq => ⟨1, (show sK2 ((sIx a1 9) && (sIx a2 (N 2))) (((decide (T 10 a2.toNatClampNeg = 0)) && (sMay N T a1)) && (decide (a1 = T 7 a2.toNatClampNeg) || !decide (T 2 (T 7 a2.toNatClampNeg).toNatClampNeg = 0))) = (2 : Int32) from by simp [sK1, sK2, sK3, zok_1, zok_6, zc_4, zc_6]), rfl, ⟨Nat.le_trans hS0.1 hz, fun q hq1 _ => (hq q (Nat.lt_of_lt_of_le hq1 hS0.1)).trans (hS0.2.1 q hq1 id)⟩⟩) (fun z hz => (hS0.2.2 z hz).elim) (show 0 + 1 + 1 + 1 ≤ (8 + zmc (sK2 ((sIx a1 9) && (sIx a2 (N 2))) (((decide (T 10 a2.toNatClampNeg = 0)) && (sMay N T a1)) && (decide (a1 = T 7 a2.toNatClampNeg) || !decide (T 2 (T 7 a2.toNatClampNeg).toNatClampNeg = 0)))) (N 1) ((nTake N T a1 a2).1 1)) by omega) (show 0 + 6 + 6 + 6 ≤ (200 + zms (sK2 ((sIx a1 9) && (sIx a2 (N 2))) (((decide (T 10 a2.toNatClampNeg = 0)) && (sMay N T a1)) && (decide (a1 = T 7 a2.toNatClampNeg) || !decide (T 2 (T 7 a2.toNatClampNeg).toNatClampNeg = 0)))) (N 1) ((nTake N T a1 a2).1 1)) by omega)
    · skip
      have zc_6 := zb_n0 zc_6
      refine lv_iload_n hx hb dX6_takeOff_36 rfl (lv_at hl 2 rfl) ?_
      refine lv_aload_n hx hb dX6_takeOff_37 rfl (lv_at hl 0 rfl) ?_
      refine va_getN (D := G.1) (ci := 5) (v := .int ((T 7) a2.toNatClampNeg)) (C := RX4) (T := TX4) (N := 4) hx hb hts hi_X4 hown hK hP kz3 hz3 rfl 0 (by decide) (va_Nw.use rfl (hNs.1 _ (List.mem_append_left _ (List.mem_of_getElem? (i := 3) rfl)))) (fun _ h9 => h9) rfl dX6_takeOff_38 ?_
      refine lv_icmp_eq (tgt := 66) hx hb dX6_takeOff_41 (by decide) (fun zc_7 => ?_) (fun zc_7 => ?_)
      · skip
        have hk0 : sK2 ((sIx a1 9) && (sIx a2 (N 2))) (((decide (T 10 a2.toNatClampNeg = 0)) && (sMay N T a1)) && (decide (a1 = T 7 a2.toNatClampNeg) || !decide (T 2 (T 7 a2.toNatClampNeg).toNatClampNeg = 0))) = 0 := by first | (rw [decide_eq_true zc_7]; simp [sK2, zok_1, zok_6, zc_4, zc_6]; done) | simp [sK2, zok_1, zok_6, zc_4, zc_6, zc_7]
        refine lv_iload_n hx hb dX6_takeOff_66 rfl (lv_at hl 2 rfl) ?_
        refine lv_aload_n hx hb dX6_takeOff_67 rfl (lv_at hl 0 rfl) ?_
        refine va_getN (D := G.1) (ci := 5) (v := .int ((T 7) a2.toNatClampNeg)) (C := RX4) (T := TX4) (N := 4) hx hb hts hi_X4 hown hK hP kz3 hz3 rfl 0 (by decide) (va_Nw.use rfl (hNs.1 _ (List.mem_append_left _ (List.mem_of_getElem? (i := 3) rfl)))) (fun _ h9 => h9) rfl dX6_takeOff_68 ?_
        refine lv_icmp_eq (tgt := 89) hx hb dX6_takeOff_71 (by decide) (fun zc_8 => ?_) (fun zc_8 => ?_)
        · skip
          have hcm : sComes T a1 a2.toNatClampNeg = true := by first | (rw [sComes_b (by assumption) zc_8]; rfl) | (rw [sComes, decide_eq_true zc_8]; rfl)
          have hn1q : (nTake N T a1 a2).1 1 = N 1 + 1 := by rw [nTake, if_pos hcm]; rfl
          have hzq1 := zpc_m (Nat.le_succ (N 1))
          have hzq2 := zps_m (Nat.le_succ (N 1))
          refine lv_aload_n hx hb dX6_takeOff_89 rfl (lv_at hl 0 rfl) ?_
          refine lv_iconst (v := 1) hx hb dX6_takeOff_90 (by decide) ?_
          refine va_putN (D := G.1) (ci := 5) (v := .int 1) (ty := .boolean) (C := RX4) (T := TX4) (N := 4) hx hb hts hi_X4 tyX4 tyX4_ok nmX4 hown hK hP hD hS kz3 hz3 rfl 3 (by decide) (va_Nw.use rfl (hNs.1 _ (List.mem_append_left _ (List.mem_of_getElem? (i := 2) rfl)))) (fun _ h9 => h9) rfl (by decide +kernel) rfl rfl (Nat.le_of_ble_eq_true rfl) dX6_takeOff_91 (fun Hz Lz hP hD hS => ?_)
          have hP : va_P G.1 vwCl (w.set kz3 (A (100 + a2.toNatClampNeg), .inr (5, [.int ((T 7) a2.toNatClampNeg), .int ((T 8) a2.toNatClampNeg), .int ((T 9) a2.toNatClampNeg), .int 1]))) Hz := hP
          have hD : va_D Aw (w.set kz3 (A (100 + a2.toNatClampNeg), .inr (5, [.int ((T 7) a2.toNatClampNeg), .int ((T 8) a2.toNatClampNeg), .int ((T 9) a2.toNatClampNeg), .int 1]))) := hD
          have hC : sCQ G d r A mc g N (va_up T 10 (upd (T 10) a2.toNatClampNeg 1)) (w.set kz3 (A (100 + a2.toNatClampNeg), .inr (5, [.int ((T 7) a2.toNatClampNeg), .int ((T 8) a2.toNatClampNeg), .int ((T 9) a2.toNatClampNeg), .int 1]))) := (sC_t10 hC hN hp2 zk3 hz3)
          generalize (w.set kz3 (A (100 + a2.toNatClampNeg), .inr (5, [.int ((T 7) a2.toNatClampNeg), .int ((T 8) a2.toNatClampNeg), .int ((T 9) a2.toNatClampNeg), .int 1]))) = zw_9 at hP hD hC
          refine lv_aload_n hx hb dX6_takeOff_94 rfl (lv_at hl 1 rfl) ?_
          have hh0 : zw_9[0]? = some (r 0, .inr (7, [.ref (r 1), .ref (r 2), .ref (r 3), .ref (r 4), .ref (r 5), .ref (r 6), .ref (r 7), .ref (r 8), .ref (r 9), .ref (r 10), .int (nI (N 0)), .int ((T 19) 0), .int ((T 19) 1), .int (nI (N 6))])) := hC.1.1 0 (by omega)
          refine va_get (D := G.1) (ci := 7) (v := .ref (r 9)) (C := RX6) (T := TX6) (N := 14) hx hb hts hi_X6 hown hK hP 0 hh0 rfl 8 (by decide) (hts (.fieldLink RX6 45 "BoilerLog" "log" "LBoilerLog$Log;") (List.mem_of_getElem? (i := 6) rfl)) (fun _ h9 => h9) rfl dX6_takeOff_95 ?_
          refine lv_aload_n hx hb dX6_takeOff_98 rfl (lv_at hl 1 rfl) ?_
          refine va_get (D := G.1) (ci := 7) (v := .int (nI (N 0))) (C := RX6) (T := TX6) (N := 14) hx hb hts hi_X6 hown hK hP 0 hh0 rfl 10 (by decide) (hts (.fieldLink RX6 56 "BoilerLog" "now" "I") (List.mem_of_getElem? (i := 7) rfl)) (fun _ h9 => h9) rfl dX6_takeOff_99 ?_
          refine lv_iconst (v := 2) hx hb dX6_takeOff_102 (by decide) ?_
          refine lv_iload_n hx hb dX6_takeOff_103 rfl (lv_at hl 2 rfl) ?_
          refine lv_iload_n hx hb dX6_takeOff_104 rfl (lv_at hl 3 rfl) ?_
          have hh9 : zw_9[9]? = some (r 9, .inr (3, [.ref (A 8), .int (nI (N 1))])) := hC.1.1 9 (by omega)
          refine z_cuv (va_runVN (As := [.int (nI (N 0)), .int 2, .int a1, .int a2]) (rest := []) ⟨hx, hb, hml, hown, hts⟩ (c_X2_note l G d r A mc g N (va_up T 10 (upd (T 10) a2.toNatClampNeg 1)) zw_9 2 a1 a2 Hz.size hC hN h1n) ⟨va_cnB 4 hts gX6_takeOff_X2_note_n154 rfl rfl rfl (hNs.1 _ (List.mem_append_left _ (List.mem_of_getElem? (i := 16) rfl))) (hts (.initialized RX2) (List.mem_of_getElem? (i := 55) rfl)) (by decide +kernel) ⟨Nat.le_of_ble_eq_true rfl, Nat.le_of_ble_eq_true rfl⟩, hts (.instanceMethod yX2_note) (List.mem_of_getElem? (i := 54) rfl), hts (.selects RX2 yX2_note yX2_note) (List.mem_of_getElem? (i := 56) rfl)⟩ (z_wv hK hP (ci := 3) (q0 := 9) rfl hh9 hP hD hZ hS hA) rfl rfl hl.1 rfl (lv_room (Nat.le_of_ble_eq_true rfl)) dX6_takeOff_105 ⟨(show 0 + 1 + 1 + (zpc (N 1 + 1) - zpc (N 1)) ≤ (8 + zmc (sK2 ((sIx a1 9) && (sIx a2 (N 2))) (((decide (T 10 a2.toNatClampNeg = 0)) && (sMay N T a1)) && (decide (a1 = T 7 a2.toNatClampNeg) || !decide (T 2 (T 7 a2.toNatClampNeg).toNatClampNeg = 0)))) (N 1) ((nTake N T a1 a2).1 1)) by first | omega | (rw [zmc_0 hk0, hn1q]; omega) | (rw [zms_0 hk0, hn1q]; omega)), (show 0 + 6 + 6 + (zps (N 1 + 1) - zps (N 1)) ≤ (200 + zms (sK2 ((sIx a1 9) && (sIx a2 (N 2))) (((decide (T 10 a2.toNatClampNeg = 0)) && (sMay N T a1)) && (decide (a1 = T 7 a2.toNatClampNeg) || !decide (T 2 (T 7 a2.toNatClampNeg).toNatClampNeg = 0)))) (N 1) ((nTake N T a1 a2).1 1)) by first | omega | (rw [zmc_0 hk0, hn1q]; omega) | (rw [zms_0 hk0, hn1q]; omega))⟩) hD hS hA (fun zw_10 Hz Lz hw hP hD hS => ?_)
          obtain ⟨zA_10, mc, g, hC, heA_10⟩ := hw
          refine lv_iconst (v := 1) hx hb dX6_takeOff_108 (by decide) ?_
          exact vx_ret (z_widen (k := (8 + zmc (sK2 ((sIx a1 9) && (sIx a2 (N 2))) (((decide (T 10 a2.toNatClampNeg = 0)) && (sMay N T a1)) && (decide (a1 = T 7 a2.toNatClampNeg) || !decide (T 2 (T 7 a2.toNatClampNeg).toNatClampNeg = 0)))) (N 1) ((nTake N T a1 a2).1 1))) (n := (200 + zms (sK2 ((sIx a1 9) && (sIx a2 (N 2))) (((decide (T 10 a2.toNatClampNeg = 0)) && (sMay N T a1)) && (decide (a1 = T 7 a2.toNatClampNeg) || !decide (T 2 (T 7 a2.toNatClampNeg).toNatClampNeg = 0)))) (N 1) ((nTake N T a1 a2).1 1))) (show 0 + 1 + 1 + (zpc (N 1 + 1) - zpc (N 1)) ≤ (8 + zmc (sK2 ((sIx a1 9) && (sIx a2 (N 2))) (((decide (T 10 a2.toNatClampNeg = 0)) && (sMay N T a1)) && (decide (a1 = T 7 a2.toNatClampNeg) || !decide (T 2 (T 7 a2.toNatClampNeg).toNatClampNeg = 0)))) (N 1) ((nTake N T a1 a2).1 1)) by first | omega | (rw [zmc_0 hk0, hn1q]; omega) | (rw [zms_0 hk0, hn1q]; omega)) (show 0 + 6 + 6 + (zps (N 1 + 1) - zps (N 1)) ≤ (200 + zms (sK2 ((sIx a1 9) && (sIx a2 (N 2))) (((decide (T 10 a2.toNatClampNeg = 0)) && (sMay N T a1)) && (decide (a1 = T 7 a2.toNatClampNeg) || !decide (T 2 (T 7 a2.toNatClampNeg).toNatClampNeg = 0)))) (N 1) ((nTake N T a1 a2).1 1)) by first | omega | (rw [zmc_0 hk0, hn1q]; omega) | (rw [zms_0 hk0, hn1q]; omega)) (W.zret (v := 1) hx hb hr rfl (fun t ht hW => ⟨⟨1, zw_10, rfl, ⟨hk0, by rw [hcm]; rfl, by rw [show nTake N T a1 a2 = sNote N (va_up T 10 (upd (T 10) a2.toNatClampNeg 1)) 2 a1 a2 from if_pos hcm]; exact ⟨_, _, _, hC⟩⟩, ⟨by rw [ht]; exact hP, hD⟩⟩, hS.F ht⟩) hS.2.2 dX6_takeOff_109 hlocks))
        · skip
          refine lv_aload_n hx hb dX6_takeOff_74 rfl (lv_at hl 0 rfl) ?_
          refine lv_iload_n hx hb dX6_takeOff_75 rfl (lv_at hl 2 rfl) ?_
          refine z_csi (va_Run.run (va_runS (As := [.ref (A (100 + a2.toNatClampNeg)), .int a1]) (rest := []) ⟨hx, hb, hml, hown, hts⟩ (c_X6_isFirstToAsk l G d r A mc g N T w a2.toNatClampNeg a1 hC hn2 hp2) (va_cwS 2 hts gX6_takeOff_X6_isFirstToAsk rfl rfl rfl (by decide +kernel) ⟨Nat.le_of_ble_eq_true rfl, Nat.le_of_ble_eq_true rfl⟩) (z_rs hK hP hZ.1 hS) rfl rfl hl.1 rfl (lv_room (Nat.le_of_ble_eq_true rfl)) dX6_takeOff_76 ⟨(show 0 + 1 + 1 + 0 ≤ (8 + zmc (sK2 ((sIx a1 9) && (sIx a2 (N 2))) (((decide (T 10 a2.toNatClampNeg = 0)) && (sMay N T a1)) && (decide (a1 = T 7 a2.toNatClampNeg) || !decide (T 2 (T 7 a2.toNatClampNeg).toNatClampNeg = 0)))) (N 1) ((nTake N T a1 a2).1 1)) by first | omega | (rw [zmc_0 hk0, hn1q]; omega) | (rw [zms_0 hk0, hn1q]; omega)), (show 0 + 6 + 6 + 0 ≤ (200 + zms (sK2 ((sIx a1 9) && (sIx a2 (N 2))) (((decide (T 10 a2.toNatClampNeg = 0)) && (sMay N T a1)) && (decide (a1 = T 7 a2.toNatClampNeg) || !decide (T 2 (T 7 a2.toNatClampNeg).toNatClampNeg = 0)))) (N 1) ((nTake N T a1 a2).1 1)) by first | omega | (rw [zmc_0 hk0, hn1q]; omega) | (rw [zms_0 hk0, hn1q]; omega))⟩)) (fun zr_11 hzr_11 => ?_)
          subst hzr_11
          refine lv_if_eq (tgt := 89) hx hb dX6_takeOff_79 (by decide) (fun zc_12 => ?_) (fun zc_12 => ?_)
          · skip
            have zc_12 := zb_0.mp zc_12
            have hcm : sComes T a1 a2.toNatClampNeg = true := by first | (rw [sComes_b (by assumption) zc_12]; rfl) | (rw [sComes, decide_eq_true zc_12]; rfl)
            have hn1q : (nTake N T a1 a2).1 1 = N 1 + 1 := by rw [nTake, if_pos hcm]; rfl
            have hzq1 := zpc_m (Nat.le_succ (N 1))
            have hzq2 := zps_m (Nat.le_succ (N 1))
            refine lv_aload_n hx hb dX6_takeOff_89 rfl (lv_at hl 0 rfl) ?_
            refine lv_iconst (v := 1) hx hb dX6_takeOff_90 (by decide) ?_
            refine va_putN (D := G.1) (ci := 5) (v := .int 1) (ty := .boolean) (C := RX4) (T := TX4) (N := 4) hx hb hts hi_X4 tyX4 tyX4_ok nmX4 hown hK hP hD hS kz3 hz3 rfl 3 (by decide) (va_Nw.use rfl (hNs.1 _ (List.mem_append_left _ (List.mem_of_getElem? (i := 2) rfl)))) (fun _ h9 => h9) rfl (by decide +kernel) rfl rfl (Nat.le_of_ble_eq_true rfl) dX6_takeOff_91 (fun Hz Lz hP hD hS => ?_)
            have hP : va_P G.1 vwCl (w.set kz3 (A (100 + a2.toNatClampNeg), .inr (5, [.int ((T 7) a2.toNatClampNeg), .int ((T 8) a2.toNatClampNeg), .int ((T 9) a2.toNatClampNeg), .int 1]))) Hz := hP
            have hD : va_D Aw (w.set kz3 (A (100 + a2.toNatClampNeg), .inr (5, [.int ((T 7) a2.toNatClampNeg), .int ((T 8) a2.toNatClampNeg), .int ((T 9) a2.toNatClampNeg), .int 1]))) := hD
            have hC : sCQ G d r A mc g N (va_up T 10 (upd (T 10) a2.toNatClampNeg 1)) (w.set kz3 (A (100 + a2.toNatClampNeg), .inr (5, [.int ((T 7) a2.toNatClampNeg), .int ((T 8) a2.toNatClampNeg), .int ((T 9) a2.toNatClampNeg), .int 1]))) := (sC_t10 hC hN hp2 zk3 hz3)
            generalize (w.set kz3 (A (100 + a2.toNatClampNeg), .inr (5, [.int ((T 7) a2.toNatClampNeg), .int ((T 8) a2.toNatClampNeg), .int ((T 9) a2.toNatClampNeg), .int 1]))) = zw_13 at hP hD hC
            refine lv_aload_n hx hb dX6_takeOff_94 rfl (lv_at hl 1 rfl) ?_
            have hh0 : zw_13[0]? = some (r 0, .inr (7, [.ref (r 1), .ref (r 2), .ref (r 3), .ref (r 4), .ref (r 5), .ref (r 6), .ref (r 7), .ref (r 8), .ref (r 9), .ref (r 10), .int (nI (N 0)), .int ((T 19) 0), .int ((T 19) 1), .int (nI (N 6))])) := hC.1.1 0 (by omega)
            refine va_get (D := G.1) (ci := 7) (v := .ref (r 9)) (C := RX6) (T := TX6) (N := 14) hx hb hts hi_X6 hown hK hP 0 hh0 rfl 8 (by decide) (hts (.fieldLink RX6 45 "BoilerLog" "log" "LBoilerLog$Log;") (List.mem_of_getElem? (i := 6) rfl)) (fun _ h9 => h9) rfl dX6_takeOff_95 ?_
            refine lv_aload_n hx hb dX6_takeOff_98 rfl (lv_at hl 1 rfl) ?_
            refine va_get (D := G.1) (ci := 7) (v := .int (nI (N 0))) (C := RX6) (T := TX6) (N := 14) hx hb hts hi_X6 hown hK hP 0 hh0 rfl 10 (by decide) (hts (.fieldLink RX6 56 "BoilerLog" "now" "I") (List.mem_of_getElem? (i := 7) rfl)) (fun _ h9 => h9) rfl dX6_takeOff_99 ?_
            refine lv_iconst (v := 2) hx hb dX6_takeOff_102 (by decide) ?_
            refine lv_iload_n hx hb dX6_takeOff_103 rfl (lv_at hl 2 rfl) ?_
            refine lv_iload_n hx hb dX6_takeOff_104 rfl (lv_at hl 3 rfl) ?_
            have hh9 : zw_13[9]? = some (r 9, .inr (3, [.ref (A 8), .int (nI (N 1))])) := hC.1.1 9 (by omega)
            refine z_cuv (va_runVN (As := [.int (nI (N 0)), .int 2, .int a1, .int a2]) (rest := []) ⟨hx, hb, hml, hown, hts⟩ (c_X2_note l G d r A mc g N (va_up T 10 (upd (T 10) a2.toNatClampNeg 1)) zw_13 2 a1 a2 Hz.size hC hN h1n) ⟨va_cnB 4 hts gX6_takeOff_X2_note_n154 rfl rfl rfl (hNs.1 _ (List.mem_append_left _ (List.mem_of_getElem? (i := 16) rfl))) (hts (.initialized RX2) (List.mem_of_getElem? (i := 55) rfl)) (by decide +kernel) ⟨Nat.le_of_ble_eq_true rfl, Nat.le_of_ble_eq_true rfl⟩, hts (.instanceMethod yX2_note) (List.mem_of_getElem? (i := 54) rfl), hts (.selects RX2 yX2_note yX2_note) (List.mem_of_getElem? (i := 56) rfl)⟩ (z_wv hK hP (ci := 3) (q0 := 9) rfl hh9 hP hD hZ hS hA) rfl rfl hl.1 rfl (lv_room (Nat.le_of_ble_eq_true rfl)) dX6_takeOff_105 ⟨(show 0 + 1 + 1 + (zpc (N 1 + 1) - zpc (N 1)) ≤ (8 + zmc (sK2 ((sIx a1 9) && (sIx a2 (N 2))) (((decide (T 10 a2.toNatClampNeg = 0)) && (sMay N T a1)) && (decide (a1 = T 7 a2.toNatClampNeg) || !decide (T 2 (T 7 a2.toNatClampNeg).toNatClampNeg = 0)))) (N 1) ((nTake N T a1 a2).1 1)) by first | omega | (rw [zmc_0 hk0, hn1q]; omega) | (rw [zms_0 hk0, hn1q]; omega)), (show 0 + 6 + 6 + (zps (N 1 + 1) - zps (N 1)) ≤ (200 + zms (sK2 ((sIx a1 9) && (sIx a2 (N 2))) (((decide (T 10 a2.toNatClampNeg = 0)) && (sMay N T a1)) && (decide (a1 = T 7 a2.toNatClampNeg) || !decide (T 2 (T 7 a2.toNatClampNeg).toNatClampNeg = 0)))) (N 1) ((nTake N T a1 a2).1 1)) by first | omega | (rw [zmc_0 hk0, hn1q]; omega) | (rw [zms_0 hk0, hn1q]; omega))⟩) hD hS hA (fun zw_14 Hz Lz hw hP hD hS => ?_)
            obtain ⟨zA_14, mc, g, hC, heA_14⟩ := hw
            refine lv_iconst (v := 1) hx hb dX6_takeOff_108 (by decide) ?_
            exact vx_ret (z_widen (k := (8 + zmc (sK2 ((sIx a1 9) && (sIx a2 (N 2))) (((decide (T 10 a2.toNatClampNeg = 0)) && (sMay N T a1)) && (decide (a1 = T 7 a2.toNatClampNeg) || !decide (T 2 (T 7 a2.toNatClampNeg).toNatClampNeg = 0)))) (N 1) ((nTake N T a1 a2).1 1))) (n := (200 + zms (sK2 ((sIx a1 9) && (sIx a2 (N 2))) (((decide (T 10 a2.toNatClampNeg = 0)) && (sMay N T a1)) && (decide (a1 = T 7 a2.toNatClampNeg) || !decide (T 2 (T 7 a2.toNatClampNeg).toNatClampNeg = 0)))) (N 1) ((nTake N T a1 a2).1 1))) (show 0 + 1 + 1 + (zpc (N 1 + 1) - zpc (N 1)) ≤ (8 + zmc (sK2 ((sIx a1 9) && (sIx a2 (N 2))) (((decide (T 10 a2.toNatClampNeg = 0)) && (sMay N T a1)) && (decide (a1 = T 7 a2.toNatClampNeg) || !decide (T 2 (T 7 a2.toNatClampNeg).toNatClampNeg = 0)))) (N 1) ((nTake N T a1 a2).1 1)) by first | omega | (rw [zmc_0 hk0, hn1q]; omega) | (rw [zms_0 hk0, hn1q]; omega)) (show 0 + 6 + 6 + (zps (N 1 + 1) - zps (N 1)) ≤ (200 + zms (sK2 ((sIx a1 9) && (sIx a2 (N 2))) (((decide (T 10 a2.toNatClampNeg = 0)) && (sMay N T a1)) && (decide (a1 = T 7 a2.toNatClampNeg) || !decide (T 2 (T 7 a2.toNatClampNeg).toNatClampNeg = 0)))) (N 1) ((nTake N T a1 a2).1 1)) by first | omega | (rw [zmc_0 hk0, hn1q]; omega) | (rw [zms_0 hk0, hn1q]; omega)) (W.zret (v := 1) hx hb hr rfl (fun t ht hW => ⟨⟨1, zw_14, rfl, ⟨hk0, by rw [hcm]; rfl, by rw [show nTake N T a1 a2 = sNote N (va_up T 10 (upd (T 10) a2.toNatClampNeg 1)) 2 a1 a2 from if_pos hcm]; exact ⟨_, _, _, hC⟩⟩, ⟨by rw [ht]; exact hP, hD⟩⟩, hS.F ht⟩) hS.2.2 dX6_takeOff_109 hlocks))
          · skip
            have zc_12 := zb_n0 zc_12
            have hcm : sComes T a1 a2.toNatClampNeg = false := by rw [sComes_b (by assumption) zc_12]; rfl
            refine lv_aload_n hx hb dX6_takeOff_82 rfl (lv_at hl 0 rfl) ?_
            refine lv_iload_n hx hb dX6_takeOff_83 rfl (lv_at hl 2 rfl) ?_
            refine va_putN (D := G.1) (ci := 5) (v := .int a1) (ty := .int) (C := RX4) (T := TX4) (N := 4) hx hb hts hi_X4 tyX4 tyX4_ok nmX4 hown hK hP hD hS kz3 hz3 rfl 2 (by decide) (va_Nw.use rfl (hNs.1 _ (List.mem_append_left _ (List.mem_of_getElem? (i := 4) rfl)))) (fun _ h9 => h9) rfl (by decide +kernel) rfl rfl (Nat.le_of_ble_eq_true rfl) dX6_takeOff_84 (fun Hz Lz hP hD hS => ?_)
            have hP : va_P G.1 vwCl (w.set kz3 (A (100 + a2.toNatClampNeg), .inr (5, [.int ((T 7) a2.toNatClampNeg), .int ((T 8) a2.toNatClampNeg), .int a1, .int ((T 10) a2.toNatClampNeg)]))) Hz := hP
            have hD : va_D Aw (w.set kz3 (A (100 + a2.toNatClampNeg), .inr (5, [.int ((T 7) a2.toNatClampNeg), .int ((T 8) a2.toNatClampNeg), .int a1, .int ((T 10) a2.toNatClampNeg)]))) := hD
            have hC : sCQ G d r A mc g N (va_up T 9 (upd (T 9) a2.toNatClampNeg a1)) (w.set kz3 (A (100 + a2.toNatClampNeg), .inr (5, [.int ((T 7) a2.toNatClampNeg), .int ((T 8) a2.toNatClampNeg), .int a1, .int ((T 10) a2.toNatClampNeg)]))) := (sC_t9 hC hN hp2 zk3 hz3)
            generalize (w.set kz3 (A (100 + a2.toNatClampNeg), .inr (5, [.int ((T 7) a2.toNatClampNeg), .int ((T 8) a2.toNatClampNeg), .int a1, .int ((T 10) a2.toNatClampNeg)]))) = zw_15 at hP hD hC
            refine lv_iconst (v := 0) hx hb dX6_takeOff_87 (by decide) ?_
            exact vx_ret (z_widen (k := (8 + zmc (sK2 ((sIx a1 9) && (sIx a2 (N 2))) (((decide (T 10 a2.toNatClampNeg = 0)) && (sMay N T a1)) && (decide (a1 = T 7 a2.toNatClampNeg) || !decide (T 2 (T 7 a2.toNatClampNeg).toNatClampNeg = 0)))) (N 1) ((nTake N T a1 a2).1 1))) (n := (200 + zms (sK2 ((sIx a1 9) && (sIx a2 (N 2))) (((decide (T 10 a2.toNatClampNeg = 0)) && (sMay N T a1)) && (decide (a1 = T 7 a2.toNatClampNeg) || !decide (T 2 (T 7 a2.toNatClampNeg).toNatClampNeg = 0)))) (N 1) ((nTake N T a1 a2).1 1))) (show 0 + 1 + 1 ≤ (8 + zmc (sK2 ((sIx a1 9) && (sIx a2 (N 2))) (((decide (T 10 a2.toNatClampNeg = 0)) && (sMay N T a1)) && (decide (a1 = T 7 a2.toNatClampNeg) || !decide (T 2 (T 7 a2.toNatClampNeg).toNatClampNeg = 0)))) (N 1) ((nTake N T a1 a2).1 1)) by first | omega | (rw [zmc_0 hk0, hn1q]; omega) | (rw [zms_0 hk0, hn1q]; omega)) (show 0 + 6 + 6 ≤ (200 + zms (sK2 ((sIx a1 9) && (sIx a2 (N 2))) (((decide (T 10 a2.toNatClampNeg = 0)) && (sMay N T a1)) && (decide (a1 = T 7 a2.toNatClampNeg) || !decide (T 2 (T 7 a2.toNatClampNeg).toNatClampNeg = 0)))) (N 1) ((nTake N T a1 a2).1 1)) by first | omega | (rw [zmc_0 hk0, hn1q]; omega) | (rw [zms_0 hk0, hn1q]; omega)) (W.zret (v := 0) hx hb hr rfl (fun t ht hW => ⟨⟨0, zw_15, rfl, ⟨hk0, by rw [hcm]; rfl, by rw [show nTake N T a1 a2 = (N, va_up T 9 (upd (T 9) a2.toNatClampNeg a1)) from if_neg (by rw [hcm]; decide)]; exact ⟨_, _, _, hC⟩⟩, ⟨by rw [ht]; exact hP, hD⟩⟩, hS.F ht⟩) hS.2.2 dX6_takeOff_88 hlocks))
      · skip
        refine lv_aload_n hx hb dX6_takeOff_44 rfl (lv_at hl 1 rfl) ?_
        refine va_get (D := G.1) (ci := 7) (v := .ref (r 3)) (C := RX6) (T := TX6) (N := 14) hx hb hts hi_X6 hown hK hP 0 hh0 rfl 2 (by decide) (hts (.fieldLink RX6 19 "BoilerLog" "gone" "[Z") (List.mem_of_getElem? (i := 5) rfl)) (fun _ h9 => h9) rfl dX6_takeOff_45 ?_
        refine lv_aload_n hx hb dX6_takeOff_48 rfl (lv_at hl 0 rfl) ?_
        refine va_getN (D := G.1) (ci := 5) (v := .int ((T 7) a2.toNatClampNeg)) (C := RX4) (T := TX4) (N := 4) hx hb hts hi_X4 hown hK hP kz3 hz3 rfl 0 (by decide) (va_Nw.use rfl (hNs.1 _ (List.mem_append_left _ (List.mem_of_getElem? (i := 3) rfl)))) (fun _ h9 => h9) rfl dX6_takeOff_49 ?_
        have hh3 : w[3]? = some (r 3, .inl (G.2 2, 9, .inl (T 2))) := hC.1.1 3 (by omega)
        refine va_zald hx hb hK hP 3 2 hh3 rfl (hI.2.2.2.1 _ hp2).1 dX6_takeOff_52 ?_
        refine lv_if_ne (tgt := 66) hx hb dX6_takeOff_53 (by decide) (fun zc_16 => ?_) (fun zc_16 => ?_)
        · skip
          have hk0 : sK2 ((sIx a1 9) && (sIx a2 (N 2))) (((decide (T 10 a2.toNatClampNeg = 0)) && (sMay N T a1)) && (decide (a1 = T 7 a2.toNatClampNeg) || !decide (T 2 (T 7 a2.toNatClampNeg).toNatClampNeg = 0))) = 0 := by first | (rw [decide_eq_true zc_16]; simp [sK2, zok_1, zok_6, zc_4, zc_6, zc_7]; done) | simp [sK2, zok_1, zok_6, zc_4, zc_6, zc_7, zc_16]
          refine lv_iload_n hx hb dX6_takeOff_66 rfl (lv_at hl 2 rfl) ?_
          refine lv_aload_n hx hb dX6_takeOff_67 rfl (lv_at hl 0 rfl) ?_
          refine va_getN (D := G.1) (ci := 5) (v := .int ((T 7) a2.toNatClampNeg)) (C := RX4) (T := TX4) (N := 4) hx hb hts hi_X4 hown hK hP kz3 hz3 rfl 0 (by decide) (va_Nw.use rfl (hNs.1 _ (List.mem_append_left _ (List.mem_of_getElem? (i := 3) rfl)))) (fun _ h9 => h9) rfl dX6_takeOff_68 ?_
          refine lv_icmp_eq (tgt := 89) hx hb dX6_takeOff_71 (by decide) (fun zc_17 => ?_) (fun zc_17 => ?_)
          · skip
            have hcm : sComes T a1 a2.toNatClampNeg = true := by first | (rw [sComes_b (by assumption) zc_17]; rfl) | (rw [sComes, decide_eq_true zc_17]; rfl)
            have hn1q : (nTake N T a1 a2).1 1 = N 1 + 1 := by rw [nTake, if_pos hcm]; rfl
            have hzq1 := zpc_m (Nat.le_succ (N 1))
            have hzq2 := zps_m (Nat.le_succ (N 1))
            refine lv_aload_n hx hb dX6_takeOff_89 rfl (lv_at hl 0 rfl) ?_
            refine lv_iconst (v := 1) hx hb dX6_takeOff_90 (by decide) ?_
            refine va_putN (D := G.1) (ci := 5) (v := .int 1) (ty := .boolean) (C := RX4) (T := TX4) (N := 4) hx hb hts hi_X4 tyX4 tyX4_ok nmX4 hown hK hP hD hS kz3 hz3 rfl 3 (by decide) (va_Nw.use rfl (hNs.1 _ (List.mem_append_left _ (List.mem_of_getElem? (i := 2) rfl)))) (fun _ h9 => h9) rfl (by decide +kernel) rfl rfl (Nat.le_of_ble_eq_true rfl) dX6_takeOff_91 (fun Hz Lz hP hD hS => ?_)
            have hP : va_P G.1 vwCl (w.set kz3 (A (100 + a2.toNatClampNeg), .inr (5, [.int ((T 7) a2.toNatClampNeg), .int ((T 8) a2.toNatClampNeg), .int ((T 9) a2.toNatClampNeg), .int 1]))) Hz := hP
            have hD : va_D Aw (w.set kz3 (A (100 + a2.toNatClampNeg), .inr (5, [.int ((T 7) a2.toNatClampNeg), .int ((T 8) a2.toNatClampNeg), .int ((T 9) a2.toNatClampNeg), .int 1]))) := hD
            have hC : sCQ G d r A mc g N (va_up T 10 (upd (T 10) a2.toNatClampNeg 1)) (w.set kz3 (A (100 + a2.toNatClampNeg), .inr (5, [.int ((T 7) a2.toNatClampNeg), .int ((T 8) a2.toNatClampNeg), .int ((T 9) a2.toNatClampNeg), .int 1]))) := (sC_t10 hC hN hp2 zk3 hz3)
            generalize (w.set kz3 (A (100 + a2.toNatClampNeg), .inr (5, [.int ((T 7) a2.toNatClampNeg), .int ((T 8) a2.toNatClampNeg), .int ((T 9) a2.toNatClampNeg), .int 1]))) = zw_18 at hP hD hC
            refine lv_aload_n hx hb dX6_takeOff_94 rfl (lv_at hl 1 rfl) ?_
            have hh0 : zw_18[0]? = some (r 0, .inr (7, [.ref (r 1), .ref (r 2), .ref (r 3), .ref (r 4), .ref (r 5), .ref (r 6), .ref (r 7), .ref (r 8), .ref (r 9), .ref (r 10), .int (nI (N 0)), .int ((T 19) 0), .int ((T 19) 1), .int (nI (N 6))])) := hC.1.1 0 (by omega)
            refine va_get (D := G.1) (ci := 7) (v := .ref (r 9)) (C := RX6) (T := TX6) (N := 14) hx hb hts hi_X6 hown hK hP 0 hh0 rfl 8 (by decide) (hts (.fieldLink RX6 45 "BoilerLog" "log" "LBoilerLog$Log;") (List.mem_of_getElem? (i := 6) rfl)) (fun _ h9 => h9) rfl dX6_takeOff_95 ?_
            refine lv_aload_n hx hb dX6_takeOff_98 rfl (lv_at hl 1 rfl) ?_
            refine va_get (D := G.1) (ci := 7) (v := .int (nI (N 0))) (C := RX6) (T := TX6) (N := 14) hx hb hts hi_X6 hown hK hP 0 hh0 rfl 10 (by decide) (hts (.fieldLink RX6 56 "BoilerLog" "now" "I") (List.mem_of_getElem? (i := 7) rfl)) (fun _ h9 => h9) rfl dX6_takeOff_99 ?_
            refine lv_iconst (v := 2) hx hb dX6_takeOff_102 (by decide) ?_
            refine lv_iload_n hx hb dX6_takeOff_103 rfl (lv_at hl 2 rfl) ?_
            refine lv_iload_n hx hb dX6_takeOff_104 rfl (lv_at hl 3 rfl) ?_
            have hh9 : zw_18[9]? = some (r 9, .inr (3, [.ref (A 8), .int (nI (N 1))])) := hC.1.1 9 (by omega)
            refine z_cuv (va_runVN (As := [.int (nI (N 0)), .int 2, .int a1, .int a2]) (rest := []) ⟨hx, hb, hml, hown, hts⟩ (c_X2_note l G d r A mc g N (va_up T 10 (upd (T 10) a2.toNatClampNeg 1)) zw_18 2 a1 a2 Hz.size hC hN h1n) ⟨va_cnB 4 hts gX6_takeOff_X2_note_n154 rfl rfl rfl (hNs.1 _ (List.mem_append_left _ (List.mem_of_getElem? (i := 16) rfl))) (hts (.initialized RX2) (List.mem_of_getElem? (i := 55) rfl)) (by decide +kernel) ⟨Nat.le_of_ble_eq_true rfl, Nat.le_of_ble_eq_true rfl⟩, hts (.instanceMethod yX2_note) (List.mem_of_getElem? (i := 54) rfl), hts (.selects RX2 yX2_note yX2_note) (List.mem_of_getElem? (i := 56) rfl)⟩ (z_wv hK hP (ci := 3) (q0 := 9) rfl hh9 hP hD hZ hS hA) rfl rfl hl.1 rfl (lv_room (Nat.le_of_ble_eq_true rfl)) dX6_takeOff_105 ⟨(show 0 + 1 + 1 + (zpc (N 1 + 1) - zpc (N 1)) ≤ (8 + zmc (sK2 ((sIx a1 9) && (sIx a2 (N 2))) (((decide (T 10 a2.toNatClampNeg = 0)) && (sMay N T a1)) && (decide (a1 = T 7 a2.toNatClampNeg) || !decide (T 2 (T 7 a2.toNatClampNeg).toNatClampNeg = 0)))) (N 1) ((nTake N T a1 a2).1 1)) by first | omega | (rw [zmc_0 hk0, hn1q]; omega) | (rw [zms_0 hk0, hn1q]; omega)), (show 0 + 6 + 6 + (zps (N 1 + 1) - zps (N 1)) ≤ (200 + zms (sK2 ((sIx a1 9) && (sIx a2 (N 2))) (((decide (T 10 a2.toNatClampNeg = 0)) && (sMay N T a1)) && (decide (a1 = T 7 a2.toNatClampNeg) || !decide (T 2 (T 7 a2.toNatClampNeg).toNatClampNeg = 0)))) (N 1) ((nTake N T a1 a2).1 1)) by first | omega | (rw [zmc_0 hk0, hn1q]; omega) | (rw [zms_0 hk0, hn1q]; omega))⟩) hD hS hA (fun zw_19 Hz Lz hw hP hD hS => ?_)
            obtain ⟨zA_19, mc, g, hC, heA_19⟩ := hw
            refine lv_iconst (v := 1) hx hb dX6_takeOff_108 (by decide) ?_
            exact vx_ret (z_widen (k := (8 + zmc (sK2 ((sIx a1 9) && (sIx a2 (N 2))) (((decide (T 10 a2.toNatClampNeg = 0)) && (sMay N T a1)) && (decide (a1 = T 7 a2.toNatClampNeg) || !decide (T 2 (T 7 a2.toNatClampNeg).toNatClampNeg = 0)))) (N 1) ((nTake N T a1 a2).1 1))) (n := (200 + zms (sK2 ((sIx a1 9) && (sIx a2 (N 2))) (((decide (T 10 a2.toNatClampNeg = 0)) && (sMay N T a1)) && (decide (a1 = T 7 a2.toNatClampNeg) || !decide (T 2 (T 7 a2.toNatClampNeg).toNatClampNeg = 0)))) (N 1) ((nTake N T a1 a2).1 1))) (show 0 + 1 + 1 + (zpc (N 1 + 1) - zpc (N 1)) ≤ (8 + zmc (sK2 ((sIx a1 9) && (sIx a2 (N 2))) (((decide (T 10 a2.toNatClampNeg = 0)) && (sMay N T a1)) && (decide (a1 = T 7 a2.toNatClampNeg) || !decide (T 2 (T 7 a2.toNatClampNeg).toNatClampNeg = 0)))) (N 1) ((nTake N T a1 a2).1 1)) by first | omega | (rw [zmc_0 hk0, hn1q]; omega) | (rw [zms_0 hk0, hn1q]; omega)) (show 0 + 6 + 6 + (zps (N 1 + 1) - zps (N 1)) ≤ (200 + zms (sK2 ((sIx a1 9) && (sIx a2 (N 2))) (((decide (T 10 a2.toNatClampNeg = 0)) && (sMay N T a1)) && (decide (a1 = T 7 a2.toNatClampNeg) || !decide (T 2 (T 7 a2.toNatClampNeg).toNatClampNeg = 0)))) (N 1) ((nTake N T a1 a2).1 1)) by first | omega | (rw [zmc_0 hk0, hn1q]; omega) | (rw [zms_0 hk0, hn1q]; omega)) (W.zret (v := 1) hx hb hr rfl (fun t ht hW => ⟨⟨1, zw_19, rfl, ⟨hk0, by rw [hcm]; rfl, by rw [show nTake N T a1 a2 = sNote N (va_up T 10 (upd (T 10) a2.toNatClampNeg 1)) 2 a1 a2 from if_pos hcm]; exact ⟨_, _, _, hC⟩⟩, ⟨by rw [ht]; exact hP, hD⟩⟩, hS.F ht⟩) hS.2.2 dX6_takeOff_109 hlocks))
          · skip
            refine lv_aload_n hx hb dX6_takeOff_74 rfl (lv_at hl 0 rfl) ?_
            refine lv_iload_n hx hb dX6_takeOff_75 rfl (lv_at hl 2 rfl) ?_
            refine z_csi (va_Run.run (va_runS (As := [.ref (A (100 + a2.toNatClampNeg)), .int a1]) (rest := []) ⟨hx, hb, hml, hown, hts⟩ (c_X6_isFirstToAsk l G d r A mc g N T w a2.toNatClampNeg a1 hC hn2 hp2) (va_cwS 2 hts gX6_takeOff_X6_isFirstToAsk rfl rfl rfl (by decide +kernel) ⟨Nat.le_of_ble_eq_true rfl, Nat.le_of_ble_eq_true rfl⟩) (z_rs hK hP hZ.1 hS) rfl rfl hl.1 rfl (lv_room (Nat.le_of_ble_eq_true rfl)) dX6_takeOff_76 ⟨(show 0 + 1 + 1 + 0 ≤ (8 + zmc (sK2 ((sIx a1 9) && (sIx a2 (N 2))) (((decide (T 10 a2.toNatClampNeg = 0)) && (sMay N T a1)) && (decide (a1 = T 7 a2.toNatClampNeg) || !decide (T 2 (T 7 a2.toNatClampNeg).toNatClampNeg = 0)))) (N 1) ((nTake N T a1 a2).1 1)) by first | omega | (rw [zmc_0 hk0, hn1q]; omega) | (rw [zms_0 hk0, hn1q]; omega)), (show 0 + 6 + 6 + 0 ≤ (200 + zms (sK2 ((sIx a1 9) && (sIx a2 (N 2))) (((decide (T 10 a2.toNatClampNeg = 0)) && (sMay N T a1)) && (decide (a1 = T 7 a2.toNatClampNeg) || !decide (T 2 (T 7 a2.toNatClampNeg).toNatClampNeg = 0)))) (N 1) ((nTake N T a1 a2).1 1)) by first | omega | (rw [zmc_0 hk0, hn1q]; omega) | (rw [zms_0 hk0, hn1q]; omega))⟩)) (fun zr_20 hzr_20 => ?_)
            subst hzr_20
            refine lv_if_eq (tgt := 89) hx hb dX6_takeOff_79 (by decide) (fun zc_21 => ?_) (fun zc_21 => ?_)
            · skip
              have zc_21 := zb_0.mp zc_21
              have hcm : sComes T a1 a2.toNatClampNeg = true := by first | (rw [sComes_b (by assumption) zc_21]; rfl) | (rw [sComes, decide_eq_true zc_21]; rfl)
              have hn1q : (nTake N T a1 a2).1 1 = N 1 + 1 := by rw [nTake, if_pos hcm]; rfl
              have hzq1 := zpc_m (Nat.le_succ (N 1))
              have hzq2 := zps_m (Nat.le_succ (N 1))
              refine lv_aload_n hx hb dX6_takeOff_89 rfl (lv_at hl 0 rfl) ?_
              refine lv_iconst (v := 1) hx hb dX6_takeOff_90 (by decide) ?_
              refine va_putN (D := G.1) (ci := 5) (v := .int 1) (ty := .boolean) (C := RX4) (T := TX4) (N := 4) hx hb hts hi_X4 tyX4 tyX4_ok nmX4 hown hK hP hD hS kz3 hz3 rfl 3 (by decide) (va_Nw.use rfl (hNs.1 _ (List.mem_append_left _ (List.mem_of_getElem? (i := 2) rfl)))) (fun _ h9 => h9) rfl (by decide +kernel) rfl rfl (Nat.le_of_ble_eq_true rfl) dX6_takeOff_91 (fun Hz Lz hP hD hS => ?_)
              have hP : va_P G.1 vwCl (w.set kz3 (A (100 + a2.toNatClampNeg), .inr (5, [.int ((T 7) a2.toNatClampNeg), .int ((T 8) a2.toNatClampNeg), .int ((T 9) a2.toNatClampNeg), .int 1]))) Hz := hP
              have hD : va_D Aw (w.set kz3 (A (100 + a2.toNatClampNeg), .inr (5, [.int ((T 7) a2.toNatClampNeg), .int ((T 8) a2.toNatClampNeg), .int ((T 9) a2.toNatClampNeg), .int 1]))) := hD
              have hC : sCQ G d r A mc g N (va_up T 10 (upd (T 10) a2.toNatClampNeg 1)) (w.set kz3 (A (100 + a2.toNatClampNeg), .inr (5, [.int ((T 7) a2.toNatClampNeg), .int ((T 8) a2.toNatClampNeg), .int ((T 9) a2.toNatClampNeg), .int 1]))) := (sC_t10 hC hN hp2 zk3 hz3)
              generalize (w.set kz3 (A (100 + a2.toNatClampNeg), .inr (5, [.int ((T 7) a2.toNatClampNeg), .int ((T 8) a2.toNatClampNeg), .int ((T 9) a2.toNatClampNeg), .int 1]))) = zw_22 at hP hD hC
              refine lv_aload_n hx hb dX6_takeOff_94 rfl (lv_at hl 1 rfl) ?_
              have hh0 : zw_22[0]? = some (r 0, .inr (7, [.ref (r 1), .ref (r 2), .ref (r 3), .ref (r 4), .ref (r 5), .ref (r 6), .ref (r 7), .ref (r 8), .ref (r 9), .ref (r 10), .int (nI (N 0)), .int ((T 19) 0), .int ((T 19) 1), .int (nI (N 6))])) := hC.1.1 0 (by omega)
              refine va_get (D := G.1) (ci := 7) (v := .ref (r 9)) (C := RX6) (T := TX6) (N := 14) hx hb hts hi_X6 hown hK hP 0 hh0 rfl 8 (by decide) (hts (.fieldLink RX6 45 "BoilerLog" "log" "LBoilerLog$Log;") (List.mem_of_getElem? (i := 6) rfl)) (fun _ h9 => h9) rfl dX6_takeOff_95 ?_
              refine lv_aload_n hx hb dX6_takeOff_98 rfl (lv_at hl 1 rfl) ?_
              refine va_get (D := G.1) (ci := 7) (v := .int (nI (N 0))) (C := RX6) (T := TX6) (N := 14) hx hb hts hi_X6 hown hK hP 0 hh0 rfl 10 (by decide) (hts (.fieldLink RX6 56 "BoilerLog" "now" "I") (List.mem_of_getElem? (i := 7) rfl)) (fun _ h9 => h9) rfl dX6_takeOff_99 ?_
              refine lv_iconst (v := 2) hx hb dX6_takeOff_102 (by decide) ?_
              refine lv_iload_n hx hb dX6_takeOff_103 rfl (lv_at hl 2 rfl) ?_
              refine lv_iload_n hx hb dX6_takeOff_104 rfl (lv_at hl 3 rfl) ?_
              have hh9 : zw_22[9]? = some (r 9, .inr (3, [.ref (A 8), .int (nI (N 1))])) := hC.1.1 9 (by omega)
              refine z_cuv (va_runVN (As := [.int (nI (N 0)), .int 2, .int a1, .int a2]) (rest := []) ⟨hx, hb, hml, hown, hts⟩ (c_X2_note l G d r A mc g N (va_up T 10 (upd (T 10) a2.toNatClampNeg 1)) zw_22 2 a1 a2 Hz.size hC hN h1n) ⟨va_cnB 4 hts gX6_takeOff_X2_note_n154 rfl rfl rfl (hNs.1 _ (List.mem_append_left _ (List.mem_of_getElem? (i := 16) rfl))) (hts (.initialized RX2) (List.mem_of_getElem? (i := 55) rfl)) (by decide +kernel) ⟨Nat.le_of_ble_eq_true rfl, Nat.le_of_ble_eq_true rfl⟩, hts (.instanceMethod yX2_note) (List.mem_of_getElem? (i := 54) rfl), hts (.selects RX2 yX2_note yX2_note) (List.mem_of_getElem? (i := 56) rfl)⟩ (z_wv hK hP (ci := 3) (q0 := 9) rfl hh9 hP hD hZ hS hA) rfl rfl hl.1 rfl (lv_room (Nat.le_of_ble_eq_true rfl)) dX6_takeOff_105 ⟨(show 0 + 1 + 1 + (zpc (N 1 + 1) - zpc (N 1)) ≤ (8 + zmc (sK2 ((sIx a1 9) && (sIx a2 (N 2))) (((decide (T 10 a2.toNatClampNeg = 0)) && (sMay N T a1)) && (decide (a1 = T 7 a2.toNatClampNeg) || !decide (T 2 (T 7 a2.toNatClampNeg).toNatClampNeg = 0)))) (N 1) ((nTake N T a1 a2).1 1)) by first | omega | (rw [zmc_0 hk0, hn1q]; omega) | (rw [zms_0 hk0, hn1q]; omega)), (show 0 + 6 + 6 + (zps (N 1 + 1) - zps (N 1)) ≤ (200 + zms (sK2 ((sIx a1 9) && (sIx a2 (N 2))) (((decide (T 10 a2.toNatClampNeg = 0)) && (sMay N T a1)) && (decide (a1 = T 7 a2.toNatClampNeg) || !decide (T 2 (T 7 a2.toNatClampNeg).toNatClampNeg = 0)))) (N 1) ((nTake N T a1 a2).1 1)) by first | omega | (rw [zmc_0 hk0, hn1q]; omega) | (rw [zms_0 hk0, hn1q]; omega))⟩) hD hS hA (fun zw_23 Hz Lz hw hP hD hS => ?_)
              obtain ⟨zA_23, mc, g, hC, heA_23⟩ := hw
              refine lv_iconst (v := 1) hx hb dX6_takeOff_108 (by decide) ?_
              exact vx_ret (z_widen (k := (8 + zmc (sK2 ((sIx a1 9) && (sIx a2 (N 2))) (((decide (T 10 a2.toNatClampNeg = 0)) && (sMay N T a1)) && (decide (a1 = T 7 a2.toNatClampNeg) || !decide (T 2 (T 7 a2.toNatClampNeg).toNatClampNeg = 0)))) (N 1) ((nTake N T a1 a2).1 1))) (n := (200 + zms (sK2 ((sIx a1 9) && (sIx a2 (N 2))) (((decide (T 10 a2.toNatClampNeg = 0)) && (sMay N T a1)) && (decide (a1 = T 7 a2.toNatClampNeg) || !decide (T 2 (T 7 a2.toNatClampNeg).toNatClampNeg = 0)))) (N 1) ((nTake N T a1 a2).1 1))) (show 0 + 1 + 1 + (zpc (N 1 + 1) - zpc (N 1)) ≤ (8 + zmc (sK2 ((sIx a1 9) && (sIx a2 (N 2))) (((decide (T 10 a2.toNatClampNeg = 0)) && (sMay N T a1)) && (decide (a1 = T 7 a2.toNatClampNeg) || !decide (T 2 (T 7 a2.toNatClampNeg).toNatClampNeg = 0)))) (N 1) ((nTake N T a1 a2).1 1)) by first | omega | (rw [zmc_0 hk0, hn1q]; omega) | (rw [zms_0 hk0, hn1q]; omega)) (show 0 + 6 + 6 + (zps (N 1 + 1) - zps (N 1)) ≤ (200 + zms (sK2 ((sIx a1 9) && (sIx a2 (N 2))) (((decide (T 10 a2.toNatClampNeg = 0)) && (sMay N T a1)) && (decide (a1 = T 7 a2.toNatClampNeg) || !decide (T 2 (T 7 a2.toNatClampNeg).toNatClampNeg = 0)))) (N 1) ((nTake N T a1 a2).1 1)) by first | omega | (rw [zmc_0 hk0, hn1q]; omega) | (rw [zms_0 hk0, hn1q]; omega)) (W.zret (v := 1) hx hb hr rfl (fun t ht hW => ⟨⟨1, zw_23, rfl, ⟨hk0, by rw [hcm]; rfl, by rw [show nTake N T a1 a2 = sNote N (va_up T 10 (upd (T 10) a2.toNatClampNeg 1)) 2 a1 a2 from if_pos hcm]; exact ⟨_, _, _, hC⟩⟩, ⟨by rw [ht]; exact hP, hD⟩⟩, hS.F ht⟩) hS.2.2 dX6_takeOff_109 hlocks))
            · skip
              have zc_21 := zb_n0 zc_21
              have hcm : sComes T a1 a2.toNatClampNeg = false := by rw [sComes_b (by assumption) zc_21]; rfl
              refine lv_aload_n hx hb dX6_takeOff_82 rfl (lv_at hl 0 rfl) ?_
              refine lv_iload_n hx hb dX6_takeOff_83 rfl (lv_at hl 2 rfl) ?_
              refine va_putN (D := G.1) (ci := 5) (v := .int a1) (ty := .int) (C := RX4) (T := TX4) (N := 4) hx hb hts hi_X4 tyX4 tyX4_ok nmX4 hown hK hP hD hS kz3 hz3 rfl 2 (by decide) (va_Nw.use rfl (hNs.1 _ (List.mem_append_left _ (List.mem_of_getElem? (i := 4) rfl)))) (fun _ h9 => h9) rfl (by decide +kernel) rfl rfl (Nat.le_of_ble_eq_true rfl) dX6_takeOff_84 (fun Hz Lz hP hD hS => ?_)
              have hP : va_P G.1 vwCl (w.set kz3 (A (100 + a2.toNatClampNeg), .inr (5, [.int ((T 7) a2.toNatClampNeg), .int ((T 8) a2.toNatClampNeg), .int a1, .int ((T 10) a2.toNatClampNeg)]))) Hz := hP
              have hD : va_D Aw (w.set kz3 (A (100 + a2.toNatClampNeg), .inr (5, [.int ((T 7) a2.toNatClampNeg), .int ((T 8) a2.toNatClampNeg), .int a1, .int ((T 10) a2.toNatClampNeg)]))) := hD
              have hC : sCQ G d r A mc g N (va_up T 9 (upd (T 9) a2.toNatClampNeg a1)) (w.set kz3 (A (100 + a2.toNatClampNeg), .inr (5, [.int ((T 7) a2.toNatClampNeg), .int ((T 8) a2.toNatClampNeg), .int a1, .int ((T 10) a2.toNatClampNeg)]))) := (sC_t9 hC hN hp2 zk3 hz3)
              generalize (w.set kz3 (A (100 + a2.toNatClampNeg), .inr (5, [.int ((T 7) a2.toNatClampNeg), .int ((T 8) a2.toNatClampNeg), .int a1, .int ((T 10) a2.toNatClampNeg)]))) = zw_24 at hP hD hC
              refine lv_iconst (v := 0) hx hb dX6_takeOff_87 (by decide) ?_
              exact vx_ret (z_widen (k := (8 + zmc (sK2 ((sIx a1 9) && (sIx a2 (N 2))) (((decide (T 10 a2.toNatClampNeg = 0)) && (sMay N T a1)) && (decide (a1 = T 7 a2.toNatClampNeg) || !decide (T 2 (T 7 a2.toNatClampNeg).toNatClampNeg = 0)))) (N 1) ((nTake N T a1 a2).1 1))) (n := (200 + zms (sK2 ((sIx a1 9) && (sIx a2 (N 2))) (((decide (T 10 a2.toNatClampNeg = 0)) && (sMay N T a1)) && (decide (a1 = T 7 a2.toNatClampNeg) || !decide (T 2 (T 7 a2.toNatClampNeg).toNatClampNeg = 0)))) (N 1) ((nTake N T a1 a2).1 1))) (show 0 + 1 + 1 ≤ (8 + zmc (sK2 ((sIx a1 9) && (sIx a2 (N 2))) (((decide (T 10 a2.toNatClampNeg = 0)) && (sMay N T a1)) && (decide (a1 = T 7 a2.toNatClampNeg) || !decide (T 2 (T 7 a2.toNatClampNeg).toNatClampNeg = 0)))) (N 1) ((nTake N T a1 a2).1 1)) by first | omega | (rw [zmc_0 hk0, hn1q]; omega) | (rw [zms_0 hk0, hn1q]; omega)) (show 0 + 6 + 6 ≤ (200 + zms (sK2 ((sIx a1 9) && (sIx a2 (N 2))) (((decide (T 10 a2.toNatClampNeg = 0)) && (sMay N T a1)) && (decide (a1 = T 7 a2.toNatClampNeg) || !decide (T 2 (T 7 a2.toNatClampNeg).toNatClampNeg = 0)))) (N 1) ((nTake N T a1 a2).1 1)) by first | omega | (rw [zmc_0 hk0, hn1q]; omega) | (rw [zms_0 hk0, hn1q]; omega)) (W.zret (v := 0) hx hb hr rfl (fun t ht hW => ⟨⟨0, zw_24, rfl, ⟨hk0, by rw [hcm]; rfl, by rw [show nTake N T a1 a2 = (N, va_up T 9 (upd (T 9) a2.toNatClampNeg a1)) from if_neg (by rw [hcm]; decide)]; exact ⟨_, _, _, hC⟩⟩, ⟨by rw [ht]; exact hP, hD⟩⟩, hS.F ht⟩) hS.2.2 dX6_takeOff_88 hlocks))
        · skip
          obtain ⟨sa, hsa⟩ := zText hNs (i := 4) (q := ("BoilerLog", 171, "the person may not take the tag off")) rfl
          exact vx_throwS (own := RX6) (cls := "java/lang/IllegalStateException") (names := ["java/lang/RuntimeException", "java/lang/Exception"]) (A := fun _ => False) hx hb hst hown (by decide) (by decide) (hts _ (List.mem_of_getElem? (i := 1) rfl)) (hts _ (List.mem_of_getElem? (i := 2) rfl)) hsa (zThrow_all (fun w h => hts w (List.mem_cons_of_mem _ (List.mem_append_left _ (List.mem_append_right _ h)))) zBad_99 hNs) zGood_99 (hZ.1.1.narrow (fun _ h => h.elim)) (hZ.1.2.1.narrow (fun _ h => h.elim)) hS0 (by rw [hml]; exact hl.1) dX6_takeOff_56 dX6_takeOff_59 dX6_takeOff_60 dX6_takeOff_62 dX6_takeOff_65 (fun x h => (hxt x h).elim) (Nat.le_of_ble_eq_true rfl) (Nat.le_of_ble_eq_true rfl) (show 0 + 1 + 1 + 1 ≤ (8 + zmc (sK2 ((sIx a1 9) && (sIx a2 (N 2))) (((decide (T 10 a2.toNatClampNeg = 0)) && (sMay N T a1)) && (decide (a1 = T 7 a2.toNatClampNeg) || !decide (T 2 (T 7 a2.toNatClampNeg).toNatClampNeg = 0)))) (N 1) ((nTake N T a1 a2).1 1)) by omega) (show 0 + 6 + 6 + 6 ≤ (200 + zms (sK2 ((sIx a1 9) && (sIx a2 (N 2))) (((decide (T 10 a2.toNatClampNeg = 0)) && (sMay N T a1)) && (decide (a1 = T 7 a2.toNatClampNeg) || !decide (T 2 (T 7 a2.toNatClampNeg).toNatClampNeg = 0)))) (N 1) ((nTake N T a1 a2).1 1)) by omega) hlocks (fun t _ hz hq => ⟨1, (show sK2 ((sIx a1 9) && (sIx a2 (N 2))) (((decide (T 10 a2.toNatClampNeg = 0)) && (sMay N T a1)) && (decide (a1 = T 7 a2.toNatClampNeg) || !decide (T 2 (T 7 a2.toNatClampNeg).toNatClampNeg = 0))) = (2 : Int32) from by simp [sK1, sK2, sK3, zok_1, zok_6, zc_4, zc_6, zc_7, zc_16]), rfl, ⟨Nat.le_trans hS0.1 hz, fun q hq1 _ => (hq q (Nat.lt_of_lt_of_le hq1 hS0.1)).trans (hS0.2.1 q hq1 id)⟩⟩) (fun z hz => (hS0.2.2 z hz).elim) (show 0 + 1 + 1 + 1 ≤ (8 + zmc (sK2 ((sIx a1 9) && (sIx a2 (N 2))) (((decide (T 10 a2.toNatClampNeg = 0)) && (sMay N T a1)) && (decide (a1 = T 7 a2.toNatClampNeg) || !decide (T 2 (T 7 a2.toNatClampNeg).toNatClampNeg = 0)))) (N 1) ((nTake N T a1 a2).1 1)) by omega) (show 0 + 6 + 6 + 6 ≤ (200 + zms (sK2 ((sIx a1 9) && (sIx a2 (N 2))) (((decide (T 10 a2.toNatClampNeg = 0)) && (sMay N T a1)) && (decide (a1 = T 7 a2.toNatClampNeg) || !decide (T 2 (T 7 a2.toNatClampNeg).toNatClampNeg = 0)))) (N 1) ((nTake N T a1 a2).1 1)) by omega)

set_option maxHeartbeats 4000000 in
set_option maxRecDepth 100000 in
theorem c_X6_signs (l : Launch) (hst : l.stackTraces = false) (G : zG) (d : Nat) (r A : Nat → Nat) (mc : Nat → Int32) (g : Nat → Nat → Int32) (N : Nat → Nat) (T : Nat → Nat → Int32) (w : va_W) (K : Nat) (a1 : Int32) (sz : Nat) (hC : sCQ G d r A mc g N T w) (hI : sInv N T K 0) (hKk : K ≤ 511) : vx_Met l yX6_signs wsX6_signs ({ frames := 7, cells := 2, slots := 12, locals := 111 }) (va_Pc [.ref (r 0), .int a1] (zCu G d w sz)) (va_Qi (fun (r1 : Int32) (w1 : va_W) => sK1 (sIx a1 (N 5)) = 0 ∧ r1 = nI (rSigns N T a1.toNatClampNeg) ∧ sCO G d r N T w1) (zB G (va_A w sz)) (va_A w sz)) (zXk ["java/lang/IndexOutOfBoundsException"] (sK1 (sIx a1 (N 5)))) (2) (12) (va_A w sz) := by
  refine vx_ofW (cc := cX6_signs) (maxL := 2) (ret := (some .int)) (by decide) rfl ?_
  intro p e s m args below meth c s₁ B hml hxt hv
  obtain ⟨rfl, hsz, hP, hK, hD0, hZ⟩ := hv
  have hx := B.exec
  have hb := B.bytes
  have hr := B.returns
  have hts := atoms_spec (ws := wsX6_signs) B.pre
  have hown : s.vm.findClass RX6 = some m.cls := findClass_of_methodNamed B.named
  have hlocks := B.notSynchronized
  have hi_X6 : ∀ w ∈ u_ws RX6 TX6 14, w ∈ wsX6_signs := (fun _ h => List.mem_cons_of_mem _ (List.mem_append_left _ (List.mem_append_left _ (List.mem_append_left _ (List.mem_append_right _ h)))))
  have hNs := hZ.1.2.2
  have hS0 : va_S (fun _ => False) s.heap s.heap [] := va_S.rf
  subst hsz
  have hD := hD0.self (sz := s.heap.size)
  generalize hAe : va_A w s.heap.size = Aw at hD hZ ⊢
  have hA : ∀ q : Nat, s.heap.size ≤ q → Aw q := fun q h => by rw [← hAe]; exact Or.inr h
  have hS : va_S Aw s.heap s.heap [] := va_S.rf
  have hl := lv_entry ([.ref (r 0), .int a1]) (n := 2) (Nat.le_of_ble_eq_true rfl)
  rw [lg_entry_eq]
  generalize (lg_sl ([.ref (r 0), .int a1]) ++ List.replicate (2 - (lg_sl ([.ref (r 0), .int a1])).length) Slot.unset).toArray = ls at hl ⊢
  have hl : lv_has ls 2 [(0, .ref (r 0)), (1, .int a1)] := hl
  have hN := hI.sm
  obtain ⟨hn2, hn3, hn4, hn5, hn6, hn0⟩ := id hN
  have h1n := sN1_c hI hKk
  refine lv_aload_n hx hb dX6_signs_0 rfl (lv_at hl 0 rfl) ?_
  refine lv_iload_n hx hb dX6_signs_1 rfl (lv_at hl 1 rfl) ?_
  have hh0 : w[0]? = some (r 0, .inr (7, [.ref (r 1), .ref (r 2), .ref (r 3), .ref (r 4), .ref (r 5), .ref (r 6), .ref (r 7), .ref (r 8), .ref (r 9), .ref (r 10), .int (nI (N 0)), .int ((T 19) 0), .int ((T 19) 1), .int (nI (N 6))])) := hC.1.1 0 (by omega)
  have hh7 : w[7]? = some (r 7, .inr (0, [.int (mc 2), cDt d (N 5) (A 11), .int (nI (N 5))])) := hC.1.1 7 (by omega)
  refine z_chk (vx_runV (As := [.int a1]) (rest := []) ⟨hx, hb, hml, hown, hts⟩ (c_X6_checkMessage l hst G w 0 r (nI (N 0)) ((T 19) 0) ((T 19) 1) (nI (N 6)) 7 (mc 2) (cDt d (N 5) (A 11)) (N 5) a1 (by first | assumption | omega | exact sIx_in.mp (by assumption)) (by first | assumption | omega | exact sIx_in.mp (by assumption)) (by first | assumption | omega | exact sIx_in.mp (by assumption))) (cwV 1 hts gX6_signs_X6_checkMessage rfl rfl rfl (by decide +kernel) ⟨Nat.le_of_ble_eq_true rfl, Nat.le_of_ble_eq_true rfl⟩) (z_rv hK hP (ci := 7) (q0 := 0) rfl hh0 hP hZ.1 hS) rfl rfl hl.1 rfl (lv_room (Nat.le_of_ble_eq_true rfl)) dX6_signs_2 ⟨(show 0 + 1 ≤ 2 by omega), (show 0 + 6 ≤ 12 by omega)⟩) hP hS0 (fun zno => ⟨0, (show sK1 (sIx a1 (N 5)) = (1 : Int32) from by simp [sK1, sK2, sK3, zno]), rfl⟩) (fun x h => (hxt x h).elim) hlocks (show 0 + 1 ≤ 2 by omega) (show 0 + 6 ≤ 12 by omega) (fun zok_2 Hz Lz hP hS0 => ?_)
  have hS : va_S Aw s.heap Hz Lz := z_SF hS0
  have hk0 : sK1 (sIx a1 (N 5)) = 0 := by simp [sK1, sK2, sK3, zok_2]
  have hp2 : a1.toNatClampNeg < N 5 := (zCl (sIx_in.mp zok_2) (by omega)).1
  have hsl := Nat.le_trans (sLen_le (t := T (20 + a1.toNatClampNeg)) (k := N (20 + a1.toNatClampNeg))) (hI.2.2.2.2.2.2.1 _ hp2).1
  refine lv_aload_n hx hb dX6_signs_5 rfl (lv_at hl 0 rfl) ?_
  have hh0 : w[0]? = some (r 0, .inr (7, [.ref (r 1), .ref (r 2), .ref (r 3), .ref (r 4), .ref (r 5), .ref (r 6), .ref (r 7), .ref (r 8), .ref (r 9), .ref (r 10), .int (nI (N 0)), .int ((T 19) 0), .int ((T 19) 1), .int (nI (N 6))])) := hC.1.1 0 (by omega)
  refine va_get (D := G.1) (ci := 7) (v := .ref (r 7)) (C := RX6) (T := TX6) (N := 14) hx hb hts hi_X6 hown hK hP 0 hh0 rfl 6 (by decide) (hts (.fieldLink RX6 36 "BoilerLog" "posted" "Ljava/util/ArrayList;") (List.mem_of_getElem? (i := 1) rfl)) (fun _ h9 => h9) rfl dX6_signs_6 ?_
  refine lv_iload_n hx hb dX6_signs_9 rfl (lv_at hl 1 rfl) ?_
  have hh7 : w[7]? = some (r 7, .inr (0, [.int (mc 2), .ref (A 11), .int (nI (N 5))])) := by rw [← cDt_p (d := d) (a := A 11) (show 0 < N 5 by omega)]; exact hC.1.1 7 (by omega)
  obtain ⟨kz1, zk1, hz1⟩ := hC.1.2.1 11 (zL_l11 (show 0 < N 5 by omega))
  have hz1 : w[kz1]? = some (A 11, .inl (G.2 5, (lcap (N 5)), .inr (.inr (.inr (.inr (cGa A 300 (N 5))))))) := hz1
  refine z_csq (va_Run.run (va_runV (As := [.int a1]) (rest := []) ⟨hx, hb, hml, hown, hts⟩ (c_Jx4a65c_get_915e3 l G w 7 (r 7) (mc 2) (A 11) (nI (N 5)) kz1 (lcap (N 5)) (cGa A 300 (N 5)) a1 (by assumption) (by assumption) (zNn_in (sIx_in.mp zok_2)) (zLt_in (sIx_in.mp zok_2) (by omega)) (zlc (k := 60) (sIx_in.mp zok_2) (by omega) (by omega))) (cwV 1 hts gX6_signs_Jx4a65c_get_915e3 rfl rfl rfl (by decide +kernel) ⟨Nat.le_of_ble_eq_true rfl, Nat.le_of_ble_eq_true rfl⟩) (z_pv hK hP (ci := 0) (q0 := 7) rfl hh7 hP) rfl rfl hl.1 rfl (lv_room (Nat.le_of_ble_eq_true rfl)) dX6_signs_10 ⟨(show 0 + 1 + 0 ≤ 2 by omega), (show 0 + 6 + 0 ≤ 12 by omega)⟩)) (fun zr_2 hzr_2 => ?_)
  subst hzr_2
  refine W.eq (g2 := F0 m 13 ls [.ref (A (300 + a1.toNatClampNeg))]) (by first | (rw [cGa_p hp2]; done) | (rw [cGa_p hp2]; rfl)) ?_
  obtain ⟨kz3, zk3, hz3⟩ := hC.1.2.1 (300 + a1.toNatClampNeg) (zL_msg hp2)
  rw [cE_msg (show a1.toNatClampNeg < 100 by have := hp2; omega)] at hz3
  have hz3 : w[kz3]? = some (A (300 + a1.toNatClampNeg), .inr (4, [.ref (A (400 + a1.toNatClampNeg))])) := hz3
  refine va_castS (cC := G.1.1 4) hx hb hown (hts (.classLink RX6 245 "BoilerLog$Message") (List.mem_of_getElem? (i := 2) rfl)) (hK.1 4 _ rfl).2 (va_recv hK hP (ci := 4) (q0 := kz3) rfl hz3) dX6_signs_13 ?_
  obtain ⟨kz4, zk4, hz4⟩ := hC.1.2.1 (400 + a1.toNatClampNeg) (zL_say hp2)
  rw [cE_say] at hz4
  have hz4 : w[kz4]? = some (A (400 + a1.toNatClampNeg), .inl (G.2 0, (sLen (T (20 + a1.toNatClampNeg)) (N (20 + a1.toNatClampNeg))), .inl (sSgn (T (20 + a1.toNatClampNeg)) (N (20 + a1.toNatClampNeg))))) := hz4
  refine z_csi (va_Run.run (va_runVN (As := []) (rest := []) ⟨hx, hb, hml, hown, hts⟩ (c_X3_length l G w kz3 (A (300 + a1.toNatClampNeg)) (A (400 + a1.toNatClampNeg)) kz4 (sLen (T (20 + a1.toNatClampNeg)) (N (20 + a1.toNatClampNeg))) (sSgn (T (20 + a1.toNatClampNeg)) (N (20 + a1.toNatClampNeg))) (by first | assumption | omega | exact sIx_in.mp (by assumption)) (by first | assumption | omega | exact sIx_in.mp (by assumption))) ⟨va_cnB 0 hts gX6_signs_X3_length_n265 rfl rfl rfl (hNs.1 _ (List.mem_append_left _ (List.mem_of_getElem? (i := 27) rfl))) (hts (.initialized RX3) (List.mem_of_getElem? (i := 34) rfl)) (by decide +kernel) ⟨Nat.le_of_ble_eq_true rfl, Nat.le_of_ble_eq_true rfl⟩, hts (.instanceMethod yX3_length) (List.mem_of_getElem? (i := 33) rfl), hts (.selects RX3 yX3_length yX3_length) (List.mem_of_getElem? (i := 35) rfl)⟩ (z_pv hK hP (ci := 4) (q0 := kz3) rfl hz3 hP) rfl rfl hl.1 rfl (lv_room (Nat.le_of_ble_eq_true rfl)) dX6_signs_16 ⟨(show 0 + 1 + 0 ≤ 2 by omega), (show 0 + 6 + 0 ≤ 12 by omega)⟩)) (fun zr_5 hzr_5 => ?_)
  subst hzr_5
  exact vx_ret (z_widen (k := 2) (n := 12) (show 0 + 1 ≤ 2 by omega) (show 0 + 6 ≤ 12 by omega) (W.iret (v := nI (sLen (T (20 + a1.toNatClampNeg)) (N (20 + a1.toNatClampNeg)))) hx hb hr (fun t ht hW => ⟨⟨nI (sLen (T (20 + a1.toNatClampNeg)) (N (20 + a1.toNatClampNeg))), w, rfl, ⟨hk0, rfl, _, _, _, hC⟩, ⟨by rw [ht]; exact hP, hD⟩⟩, hS.F ht⟩) hS.2.2 dX6_signs_19 hlocks))

set_option maxHeartbeats 4000000 in
set_option maxRecDepth 100000 in
theorem c_X6_signAt (l : Launch) (hst : l.stackTraces = false) (G : zG) (d : Nat) (r A : Nat → Nat) (mc : Nat → Int32) (g : Nat → Nat → Int32) (N : Nat → Nat) (T : Nat → Nat → Int32) (w : va_W) (K : Nat) (a1 a2 : Int32) (sz : Nat) (hC : sCQ G d r A mc g N T w) (hI : sInv N T K 0) (hKk : K ≤ 511) : vx_Met l yX6_signAt wsX6_signAt ({ frames := 7, cells := 2, slots := 12, locals := 111 }) (va_Pc [.ref (r 0), .int a1, .int a2] (zCu G d w sz)) (va_Qi (fun (r1 : Int32) (w1 : va_W) => sK1 ((sIx a1 (N 5)) && (decide (0 ≤ a2))) = 0 ∧ r1 = rSignAt N T a1 a2 false ∧ sCO G d r N T w1) (zB G (va_A w sz)) (va_A w sz)) (zXk ["java/lang/IndexOutOfBoundsException"] (sK1 ((sIx a1 (N 5)) && (decide (0 ≤ a2))))) (2) (12) (va_A w sz) := by
  refine vx_ofW (cc := cX6_signAt) (maxL := 3) (ret := (some .int)) (by decide) rfl ?_
  intro p e s m args below meth c s₁ B hml hxt hv
  obtain ⟨rfl, hsz, hP, hK, hD0, hZ⟩ := hv
  have hx := B.exec
  have hb := B.bytes
  have hr := B.returns
  have hts := atoms_spec (ws := wsX6_signAt) B.pre
  have hown : s.vm.findClass RX6 = some m.cls := findClass_of_methodNamed B.named
  have hlocks := B.notSynchronized
  have hi_X6 : ∀ w ∈ u_ws RX6 TX6 14, w ∈ wsX6_signAt := (fun _ h => List.mem_cons_of_mem _ (List.mem_append_left _ (List.mem_append_left _ (List.mem_append_left _ (List.mem_append_right _ h)))))
  have hNs := hZ.1.2.2
  have hS0 : va_S (fun _ => False) s.heap s.heap [] := va_S.rf
  subst hsz
  have hD := hD0.self (sz := s.heap.size)
  generalize hAe : va_A w s.heap.size = Aw at hD hZ ⊢
  have hA : ∀ q : Nat, s.heap.size ≤ q → Aw q := fun q h => by rw [← hAe]; exact Or.inr h
  have hS : va_S Aw s.heap s.heap [] := va_S.rf
  have hl := lv_entry ([.ref (r 0), .int a1, .int a2]) (n := 3) (Nat.le_of_ble_eq_true rfl)
  rw [lg_entry_eq]
  generalize (lg_sl ([.ref (r 0), .int a1, .int a2]) ++ List.replicate (3 - (lg_sl ([.ref (r 0), .int a1, .int a2])).length) Slot.unset).toArray = ls at hl ⊢
  have hl : lv_has ls 3 [(0, .ref (r 0)), (1, .int a1), (2, .int a2)] := hl
  have hN := hI.sm
  obtain ⟨hn2, hn3, hn4, hn5, hn6, hn0⟩ := id hN
  have h1n := sN1_c hI hKk
  refine lv_aload_n hx hb dX6_signAt_0 rfl (lv_at hl 0 rfl) ?_
  refine lv_iload_n hx hb dX6_signAt_1 rfl (lv_at hl 1 rfl) ?_
  have hh0 : w[0]? = some (r 0, .inr (7, [.ref (r 1), .ref (r 2), .ref (r 3), .ref (r 4), .ref (r 5), .ref (r 6), .ref (r 7), .ref (r 8), .ref (r 9), .ref (r 10), .int (nI (N 0)), .int ((T 19) 0), .int ((T 19) 1), .int (nI (N 6))])) := hC.1.1 0 (by omega)
  have hh7 : w[7]? = some (r 7, .inr (0, [.int (mc 2), cDt d (N 5) (A 11), .int (nI (N 5))])) := hC.1.1 7 (by omega)
  refine z_chk (vx_runV (As := [.int a1]) (rest := []) ⟨hx, hb, hml, hown, hts⟩ (c_X6_checkMessage l hst G w 0 r (nI (N 0)) ((T 19) 0) ((T 19) 1) (nI (N 6)) 7 (mc 2) (cDt d (N 5) (A 11)) (N 5) a1 (by first | assumption | omega | exact sIx_in.mp (by assumption)) (by first | assumption | omega | exact sIx_in.mp (by assumption)) (by first | assumption | omega | exact sIx_in.mp (by assumption))) (cwV 1 hts gX6_signAt_X6_checkMessage rfl rfl rfl (by decide +kernel) ⟨Nat.le_of_ble_eq_true rfl, Nat.le_of_ble_eq_true rfl⟩) (z_rv hK hP (ci := 7) (q0 := 0) rfl hh0 hP hZ.1 hS) rfl rfl hl.1 rfl (lv_room (Nat.le_of_ble_eq_true rfl)) dX6_signAt_2 ⟨(show 0 + 1 ≤ 2 by omega), (show 0 + 6 ≤ 12 by omega)⟩) hP hS0 (fun zno => ⟨0, (show sK1 ((sIx a1 (N 5)) && (decide (0 ≤ a2))) = (1 : Int32) from by simp [sK1, sK2, sK3, zno]), rfl⟩) (fun x h => (hxt x h).elim) hlocks (show 0 + 1 ≤ 2 by omega) (show 0 + 6 ≤ 12 by omega) (fun zok_2 Hz Lz hP hS0 => ?_)
  have hS : va_S Aw s.heap Hz Lz := z_SF hS0
  refine lv_iload_n hx hb dX6_signAt_5 rfl (lv_at hl 2 rfl) ?_
  refine z_chk (vx_runS (As := [.int a2]) (rest := []) ⟨hx, hb, hml, hown, hts⟩ (c_X6_checkPlace l hst G w a2) (va_cwS 1 hts gX6_signAt_X6_checkPlace rfl rfl rfl (by decide +kernel) ⟨Nat.le_of_ble_eq_true rfl, Nat.le_of_ble_eq_true rfl⟩) (z_rs hK hP hZ.1 hS) rfl rfl hl.1 rfl (lv_room (Nat.le_of_ble_eq_true rfl)) dX6_signAt_6 ⟨(show 0 + 1 + 1 ≤ 2 by omega), (show 0 + 6 + 6 ≤ 12 by omega)⟩) hP hS0 (fun zno => ⟨0, (show sK1 ((sIx a1 (N 5)) && (decide (0 ≤ a2))) = (1 : Int32) from by simp [sK1, sK2, sK3, zok_2, zno]), rfl⟩) (fun x h => (hxt x h).elim) hlocks (show 0 + 1 + 1 ≤ 2 by omega) (show 0 + 6 + 6 ≤ 12 by omega) (fun zok_6 Hz Lz hP hS0 => ?_)
  have hS : va_S Aw s.heap Hz Lz := z_SF hS0
  have hk0 : sK1 ((sIx a1 (N 5)) && (decide (0 ≤ a2))) = 0 := by simp [sK1, sK2, sK3, zok_2, zok_6]
  have hp2 : a1.toNatClampNeg < N 5 := (zCl (sIx_in.mp zok_2) (by omega)).1
  have hsl := Nat.le_trans (sLen_le (t := T (20 + a1.toNatClampNeg)) (k := N (20 + a1.toNatClampNeg))) (hI.2.2.2.2.2.2.1 _ hp2).1
  refine lv_aload_n hx hb dX6_signAt_9 rfl (lv_at hl 0 rfl) ?_
  have hh0 : w[0]? = some (r 0, .inr (7, [.ref (r 1), .ref (r 2), .ref (r 3), .ref (r 4), .ref (r 5), .ref (r 6), .ref (r 7), .ref (r 8), .ref (r 9), .ref (r 10), .int (nI (N 0)), .int ((T 19) 0), .int ((T 19) 1), .int (nI (N 6))])) := hC.1.1 0 (by omega)
  refine va_get (D := G.1) (ci := 7) (v := .ref (r 7)) (C := RX6) (T := TX6) (N := 14) hx hb hts hi_X6 hown hK hP 0 hh0 rfl 6 (by decide) (hts (.fieldLink RX6 36 "BoilerLog" "posted" "Ljava/util/ArrayList;") (List.mem_of_getElem? (i := 1) rfl)) (fun _ h9 => h9) rfl dX6_signAt_10 ?_
  refine lv_iload_n hx hb dX6_signAt_13 rfl (lv_at hl 1 rfl) ?_
  have hh7 : w[7]? = some (r 7, .inr (0, [.int (mc 2), .ref (A 11), .int (nI (N 5))])) := by rw [← cDt_p (d := d) (a := A 11) (show 0 < N 5 by omega)]; exact hC.1.1 7 (by omega)
  obtain ⟨kz1, zk1, hz1⟩ := hC.1.2.1 11 (zL_l11 (show 0 < N 5 by omega))
  have hz1 : w[kz1]? = some (A 11, .inl (G.2 5, (lcap (N 5)), .inr (.inr (.inr (.inr (cGa A 300 (N 5))))))) := hz1
  refine z_csq (va_Run.run (va_runV (As := [.int a1]) (rest := []) ⟨hx, hb, hml, hown, hts⟩ (c_Jx4a65c_get_915e3 l G w 7 (r 7) (mc 2) (A 11) (nI (N 5)) kz1 (lcap (N 5)) (cGa A 300 (N 5)) a1 (by assumption) (by assumption) (zNn_in (sIx_in.mp zok_2)) (zLt_in (sIx_in.mp zok_2) (by omega)) (zlc (k := 60) (sIx_in.mp zok_2) (by omega) (by omega))) (cwV 1 hts gX6_signAt_Jx4a65c_get_915e3 rfl rfl rfl (by decide +kernel) ⟨Nat.le_of_ble_eq_true rfl, Nat.le_of_ble_eq_true rfl⟩) (z_pv hK hP (ci := 0) (q0 := 7) rfl hh7 hP) rfl rfl hl.1 rfl (lv_room (Nat.le_of_ble_eq_true rfl)) dX6_signAt_14 ⟨(show 0 + 1 + 1 + 0 ≤ 2 by omega), (show 0 + 6 + 6 + 0 ≤ 12 by omega)⟩)) (fun zr_2 hzr_2 => ?_)
  subst hzr_2
  refine W.eq (g2 := F0 m 17 ls [.ref (A (300 + a1.toNatClampNeg))]) (by first | (rw [cGa_p hp2]; done) | (rw [cGa_p hp2]; rfl)) ?_
  obtain ⟨kz3, zk3, hz3⟩ := hC.1.2.1 (300 + a1.toNatClampNeg) (zL_msg hp2)
  rw [cE_msg (show a1.toNatClampNeg < 100 by have := hp2; omega)] at hz3
  have hz3 : w[kz3]? = some (A (300 + a1.toNatClampNeg), .inr (4, [.ref (A (400 + a1.toNatClampNeg))])) := hz3
  refine va_castS (cC := G.1.1 4) hx hb hown (hts (.classLink RX6 245 "BoilerLog$Message") (List.mem_of_getElem? (i := 2) rfl)) (hK.1 4 _ rfl).2 (va_recv hK hP (ci := 4) (q0 := kz3) rfl hz3) dX6_signAt_17 ?_
  refine lv_iload_n hx hb dX6_signAt_20 rfl (lv_at hl 2 rfl) ?_
  obtain ⟨kz4, zk4, hz4⟩ := hC.1.2.1 (400 + a1.toNatClampNeg) (zL_say hp2)
  rw [cE_say] at hz4
  have hz4 : w[kz4]? = some (A (400 + a1.toNatClampNeg), .inl (G.2 0, (sLen (T (20 + a1.toNatClampNeg)) (N (20 + a1.toNatClampNeg))), .inl (sSgn (T (20 + a1.toNatClampNeg)) (N (20 + a1.toNatClampNeg))))) := hz4
  refine z_csi (va_Run.run (va_runVN (As := [.int a2]) (rest := []) ⟨hx, hb, hml, hown, hts⟩ (c_X3_get l G w kz3 (A (300 + a1.toNatClampNeg)) (A (400 + a1.toNatClampNeg)) kz4 (sLen (T (20 + a1.toNatClampNeg)) (N (20 + a1.toNatClampNeg))) (sSgn (T (20 + a1.toNatClampNeg)) (N (20 + a1.toNatClampNeg))) a2 (by assumption) (by assumption) (by omega)) ⟨va_cnB 1 hts gX6_signAt_X3_get_n269 rfl rfl rfl (hNs.1 _ (List.mem_append_left _ (List.mem_of_getElem? (i := 28) rfl))) (hts (.initialized RX3) (List.mem_of_getElem? (i := 37) rfl)) (by decide +kernel) ⟨Nat.le_of_ble_eq_true rfl, Nat.le_of_ble_eq_true rfl⟩, hts (.instanceMethod yX3_get) (List.mem_of_getElem? (i := 36) rfl), hts (.selects RX3 yX3_get yX3_get) (List.mem_of_getElem? (i := 38) rfl)⟩ (z_pv hK hP (ci := 4) (q0 := kz3) rfl hz3 hP) rfl rfl hl.1 rfl (lv_room (Nat.le_of_ble_eq_true rfl)) dX6_signAt_21 ⟨(show 0 + 1 + 1 + 0 ≤ 2 by omega), (show 0 + 6 + 6 + 0 ≤ 12 by omega)⟩)) (fun zr_5 hzr_5 => ?_)
  subst hzr_5
  exact vx_ret (z_widen (k := 2) (n := 12) (show 0 + 1 + 1 ≤ 2 by omega) (show 0 + 6 + 6 ≤ 12 by omega) (W.iret (v := (if 0 ≤ a2 ∧ a2 < nI (sLen (T (20 + a1.toNatClampNeg)) (N (20 + a1.toNatClampNeg))) then (sSgn (T (20 + a1.toNatClampNeg)) (N (20 + a1.toNatClampNeg))) a2.toNatClampNeg else -1)) hx hb hr (fun t ht hW => ⟨⟨(if 0 ≤ a2 ∧ a2 < nI (sLen (T (20 + a1.toNatClampNeg)) (N (20 + a1.toNatClampNeg))) then (sSgn (T (20 + a1.toNatClampNeg)) (N (20 + a1.toNatClampNeg))) a2.toNatClampNeg else -1), w, rfl, ⟨hk0, zSga zok_6 hsl, _, _, _, hC⟩, ⟨by rw [ht]; exact hP, hD⟩⟩, hS.F ht⟩) hS.2.2 dX6_signAt_24 hlocks))

set_option maxHeartbeats 4000000 in
set_option maxRecDepth 100000 in
theorem c_X6_signBack (l : Launch) (hst : l.stackTraces = false) (G : zG) (d : Nat) (r A : Nat → Nat) (mc : Nat → Int32) (g : Nat → Nat → Int32) (N : Nat → Nat) (T : Nat → Nat → Int32) (w : va_W) (K : Nat) (a1 a2 : Int32) (sz : Nat) (hC : sCQ G d r A mc g N T w) (hI : sInv N T K 0) (hKk : K ≤ 511) : vx_Met l yX6_signBack wsX6_signBack ({ frames := 7, cells := 2, slots := 12, locals := 111 }) (va_Pc [.ref (r 0), .int a1, .int a2] (zCu G d w sz)) (va_Qi (fun (r1 : Int32) (w1 : va_W) => sK1 ((sIx a1 (N 5)) && (decide (0 ≤ a2))) = 0 ∧ r1 = rSignAt N T a1 a2 true ∧ sCO G d r N T w1) (zB G (va_A w sz)) (va_A w sz)) (zXk ["java/lang/IndexOutOfBoundsException"] (sK1 ((sIx a1 (N 5)) && (decide (0 ≤ a2))))) (2) (12) (va_A w sz) := by
  refine vx_ofW (cc := cX6_signBack) (maxL := 4) (ret := (some .int)) (by decide) rfl ?_
  intro p e s m args below meth c s₁ B hml hxt hv
  obtain ⟨rfl, hsz, hP, hK, hD0, hZ⟩ := hv
  have hx := B.exec
  have hb := B.bytes
  have hr := B.returns
  have hts := atoms_spec (ws := wsX6_signBack) B.pre
  have hown : s.vm.findClass RX6 = some m.cls := findClass_of_methodNamed B.named
  have hlocks := B.notSynchronized
  have hi_X6 : ∀ w ∈ u_ws RX6 TX6 14, w ∈ wsX6_signBack := (fun _ h => List.mem_cons_of_mem _ (List.mem_append_left _ (List.mem_append_left _ (List.mem_append_left _ (List.mem_append_right _ h)))))
  have hNs := hZ.1.2.2
  have hS0 : va_S (fun _ => False) s.heap s.heap [] := va_S.rf
  subst hsz
  have hD := hD0.self (sz := s.heap.size)
  generalize hAe : va_A w s.heap.size = Aw at hD hZ ⊢
  have hA : ∀ q : Nat, s.heap.size ≤ q → Aw q := fun q h => by rw [← hAe]; exact Or.inr h
  have hS : va_S Aw s.heap s.heap [] := va_S.rf
  have hl := lv_entry ([.ref (r 0), .int a1, .int a2]) (n := 4) (Nat.le_of_ble_eq_true rfl)
  rw [lg_entry_eq]
  generalize (lg_sl ([.ref (r 0), .int a1, .int a2]) ++ List.replicate (4 - (lg_sl ([.ref (r 0), .int a1, .int a2])).length) Slot.unset).toArray = ls at hl ⊢
  have hl : lv_has ls 4 [(0, .ref (r 0)), (1, .int a1), (2, .int a2)] := hl
  have hN := hI.sm
  obtain ⟨hn2, hn3, hn4, hn5, hn6, hn0⟩ := id hN
  have h1n := sN1_c hI hKk
  refine lv_aload_n hx hb dX6_signBack_0 rfl (lv_at hl 0 rfl) ?_
  refine lv_iload_n hx hb dX6_signBack_1 rfl (lv_at hl 1 rfl) ?_
  have hh0 : w[0]? = some (r 0, .inr (7, [.ref (r 1), .ref (r 2), .ref (r 3), .ref (r 4), .ref (r 5), .ref (r 6), .ref (r 7), .ref (r 8), .ref (r 9), .ref (r 10), .int (nI (N 0)), .int ((T 19) 0), .int ((T 19) 1), .int (nI (N 6))])) := hC.1.1 0 (by omega)
  have hh7 : w[7]? = some (r 7, .inr (0, [.int (mc 2), cDt d (N 5) (A 11), .int (nI (N 5))])) := hC.1.1 7 (by omega)
  refine z_chk (vx_runV (As := [.int a1]) (rest := []) ⟨hx, hb, hml, hown, hts⟩ (c_X6_checkMessage l hst G w 0 r (nI (N 0)) ((T 19) 0) ((T 19) 1) (nI (N 6)) 7 (mc 2) (cDt d (N 5) (A 11)) (N 5) a1 (by first | assumption | omega | exact sIx_in.mp (by assumption)) (by first | assumption | omega | exact sIx_in.mp (by assumption)) (by first | assumption | omega | exact sIx_in.mp (by assumption))) (cwV 1 hts gX6_signBack_X6_checkMessage rfl rfl rfl (by decide +kernel) ⟨Nat.le_of_ble_eq_true rfl, Nat.le_of_ble_eq_true rfl⟩) (z_rv hK hP (ci := 7) (q0 := 0) rfl hh0 hP hZ.1 hS) rfl rfl hl.1 rfl (lv_room (Nat.le_of_ble_eq_true rfl)) dX6_signBack_2 ⟨(show 0 + 1 ≤ 2 by omega), (show 0 + 6 ≤ 12 by omega)⟩) hP hS0 (fun zno => ⟨0, (show sK1 ((sIx a1 (N 5)) && (decide (0 ≤ a2))) = (1 : Int32) from by simp [sK1, sK2, sK3, zno]), rfl⟩) (fun x h => (hxt x h).elim) hlocks (show 0 + 1 ≤ 2 by omega) (show 0 + 6 ≤ 12 by omega) (fun zok_2 Hz Lz hP hS0 => ?_)
  have hS : va_S Aw s.heap Hz Lz := z_SF hS0
  refine lv_iload_n hx hb dX6_signBack_5 rfl (lv_at hl 2 rfl) ?_
  refine z_chk (vx_runS (As := [.int a2]) (rest := []) ⟨hx, hb, hml, hown, hts⟩ (c_X6_checkPlace l hst G w a2) (va_cwS 1 hts gX6_signBack_X6_checkPlace rfl rfl rfl (by decide +kernel) ⟨Nat.le_of_ble_eq_true rfl, Nat.le_of_ble_eq_true rfl⟩) (z_rs hK hP hZ.1 hS) rfl rfl hl.1 rfl (lv_room (Nat.le_of_ble_eq_true rfl)) dX6_signBack_6 ⟨(show 0 + 1 + 1 ≤ 2 by omega), (show 0 + 6 + 6 ≤ 12 by omega)⟩) hP hS0 (fun zno => ⟨0, (show sK1 ((sIx a1 (N 5)) && (decide (0 ≤ a2))) = (1 : Int32) from by simp [sK1, sK2, sK3, zok_2, zno]), rfl⟩) (fun x h => (hxt x h).elim) hlocks (show 0 + 1 + 1 ≤ 2 by omega) (show 0 + 6 + 6 ≤ 12 by omega) (fun zok_6 Hz Lz hP hS0 => ?_)
  have hS : va_S Aw s.heap Hz Lz := z_SF hS0
  have hk0 : sK1 ((sIx a1 (N 5)) && (decide (0 ≤ a2))) = 0 := by simp [sK1, sK2, sK3, zok_2, zok_6]
  have hp2 : a1.toNatClampNeg < N 5 := (zCl (sIx_in.mp zok_2) (by omega)).1
  have hsl := Nat.le_trans (sLen_le (t := T (20 + a1.toNatClampNeg)) (k := N (20 + a1.toNatClampNeg))) (hI.2.2.2.2.2.2.1 _ hp2).1
  refine lv_aload_n hx hb dX6_signBack_9 rfl (lv_at hl 0 rfl) ?_
  have hh0 : w[0]? = some (r 0, .inr (7, [.ref (r 1), .ref (r 2), .ref (r 3), .ref (r 4), .ref (r 5), .ref (r 6), .ref (r 7), .ref (r 8), .ref (r 9), .ref (r 10), .int (nI (N 0)), .int ((T 19) 0), .int ((T 19) 1), .int (nI (N 6))])) := hC.1.1 0 (by omega)
  refine va_get (D := G.1) (ci := 7) (v := .ref (r 7)) (C := RX6) (T := TX6) (N := 14) hx hb hts hi_X6 hown hK hP 0 hh0 rfl 6 (by decide) (hts (.fieldLink RX6 36 "BoilerLog" "posted" "Ljava/util/ArrayList;") (List.mem_of_getElem? (i := 1) rfl)) (fun _ h9 => h9) rfl dX6_signBack_10 ?_
  refine lv_iload_n hx hb dX6_signBack_13 rfl (lv_at hl 1 rfl) ?_
  have hh7 : w[7]? = some (r 7, .inr (0, [.int (mc 2), .ref (A 11), .int (nI (N 5))])) := by rw [← cDt_p (d := d) (a := A 11) (show 0 < N 5 by omega)]; exact hC.1.1 7 (by omega)
  obtain ⟨kz1, zk1, hz1⟩ := hC.1.2.1 11 (zL_l11 (show 0 < N 5 by omega))
  have hz1 : w[kz1]? = some (A 11, .inl (G.2 5, (lcap (N 5)), .inr (.inr (.inr (.inr (cGa A 300 (N 5))))))) := hz1
  refine z_csq (va_Run.run (va_runV (As := [.int a1]) (rest := []) ⟨hx, hb, hml, hown, hts⟩ (c_Jx4a65c_get_915e3 l G w 7 (r 7) (mc 2) (A 11) (nI (N 5)) kz1 (lcap (N 5)) (cGa A 300 (N 5)) a1 (by assumption) (by assumption) (zNn_in (sIx_in.mp zok_2)) (zLt_in (sIx_in.mp zok_2) (by omega)) (zlc (k := 60) (sIx_in.mp zok_2) (by omega) (by omega))) (cwV 1 hts gX6_signBack_Jx4a65c_get_915e3 rfl rfl rfl (by decide +kernel) ⟨Nat.le_of_ble_eq_true rfl, Nat.le_of_ble_eq_true rfl⟩) (z_pv hK hP (ci := 0) (q0 := 7) rfl hh7 hP) rfl rfl hl.1 rfl (lv_room (Nat.le_of_ble_eq_true rfl)) dX6_signBack_14 ⟨(show 0 + 1 + 1 + 0 ≤ 2 by omega), (show 0 + 6 + 6 + 0 ≤ 12 by omega)⟩)) (fun zr_2 hzr_2 => ?_)
  subst hzr_2
  refine W.eq (g2 := F0 m 17 ls [.ref (A (300 + a1.toNatClampNeg))]) (by first | (rw [cGa_p hp2]; done) | (rw [cGa_p hp2]; rfl)) ?_
  obtain ⟨kz3, zk3, hz3⟩ := hC.1.2.1 (300 + a1.toNatClampNeg) (zL_msg hp2)
  rw [cE_msg (show a1.toNatClampNeg < 100 by have := hp2; omega)] at hz3
  have hz3 : w[kz3]? = some (A (300 + a1.toNatClampNeg), .inr (4, [.ref (A (400 + a1.toNatClampNeg))])) := hz3
  refine va_castS (cC := G.1.1 4) hx hb hown (hts (.classLink RX6 245 "BoilerLog$Message") (List.mem_of_getElem? (i := 2) rfl)) (hK.1 4 _ rfl).2 (va_recv hK hP (ci := 4) (q0 := kz3) rfl hz3) dX6_signBack_17 ?_
  refine lv_astore_n (lv' := [(3, .ref (A (300 + a1.toNatClampNeg))), (0, .ref (r 0)), (1, .int a1), (2, .int a2)]) hx hb dX6_signBack_20 rfl hl (by decide) rfl (fun ls hl => ?_)
  refine lv_aload_n hx hb dX6_signBack_21 rfl (lv_at hl 0 rfl) ?_
  refine lv_aload_n hx hb dX6_signBack_22 rfl (lv_at hl 0 rfl) ?_
  obtain ⟨kz4, zk4, hz4⟩ := hC.1.2.1 (400 + a1.toNatClampNeg) (zL_say hp2)
  rw [cE_say] at hz4
  have hz4 : w[kz4]? = some (A (400 + a1.toNatClampNeg), .inl (G.2 0, (sLen (T (20 + a1.toNatClampNeg)) (N (20 + a1.toNatClampNeg))), .inl (sSgn (T (20 + a1.toNatClampNeg)) (N (20 + a1.toNatClampNeg))))) := hz4
  refine z_csi (va_Run.run (va_runVN (As := []) (rest := [.ref (A (300 + a1.toNatClampNeg))]) ⟨hx, hb, hml, hown, hts⟩ (c_X3_length l G w kz3 (A (300 + a1.toNatClampNeg)) (A (400 + a1.toNatClampNeg)) kz4 (sLen (T (20 + a1.toNatClampNeg)) (N (20 + a1.toNatClampNeg))) (sSgn (T (20 + a1.toNatClampNeg)) (N (20 + a1.toNatClampNeg))) (by first | assumption | omega | exact sIx_in.mp (by assumption)) (by first | assumption | omega | exact sIx_in.mp (by assumption))) ⟨va_cnB 0 hts gX6_signBack_X3_length_n265 rfl rfl rfl (hNs.1 _ (List.mem_append_left _ (List.mem_of_getElem? (i := 27) rfl))) (hts (.initialized RX3) (List.mem_of_getElem? (i := 37) rfl)) (by decide +kernel) ⟨Nat.le_of_ble_eq_true rfl, Nat.le_of_ble_eq_true rfl⟩, hts (.instanceMethod yX3_length) (List.mem_of_getElem? (i := 36) rfl), hts (.selects RX3 yX3_length yX3_length) (List.mem_of_getElem? (i := 38) rfl)⟩ (z_pv hK hP (ci := 4) (q0 := kz3) rfl hz3 hP) rfl rfl hl.1 rfl (lv_room (Nat.le_of_ble_eq_true rfl)) dX6_signBack_23 ⟨(show 0 + 1 + 1 + 0 ≤ 2 by omega), (show 0 + 6 + 6 + 0 ≤ 12 by omega)⟩)) (fun zr_5 hzr_5 => ?_)
  subst hzr_5
  refine lv_iconst (v := 1) hx hb dX6_signBack_26 (by decide) ?_
  refine lv_isub hx hb dX6_signBack_27 ?_
  refine lv_iload_n hx hb dX6_signBack_28 rfl (lv_at hl 3 rfl) ?_
  refine lv_isub hx hb dX6_signBack_29 ?_
  refine z_csi (va_Run.run (va_runVN (As := [.int (((nI (sLen (T (20 + a1.toNatClampNeg)) (N (20 + a1.toNatClampNeg)))) - 1) - a2)]) (rest := []) ⟨hx, hb, hml, hown, hts⟩ (c_X3_get l G w kz3 (A (300 + a1.toNatClampNeg)) (A (400 + a1.toNatClampNeg)) kz4 (sLen (T (20 + a1.toNatClampNeg)) (N (20 + a1.toNatClampNeg))) (sSgn (T (20 + a1.toNatClampNeg)) (N (20 + a1.toNatClampNeg))) (((nI (sLen (T (20 + a1.toNatClampNeg)) (N (20 + a1.toNatClampNeg)))) - 1) - a2) (by assumption) (by assumption) (by omega)) ⟨va_cnB 1 hts gX6_signBack_X3_get_n269 rfl rfl rfl (hNs.1 _ (List.mem_append_left _ (List.mem_of_getElem? (i := 28) rfl))) (hts (.initialized RX3) (List.mem_of_getElem? (i := 37) rfl)) (by decide +kernel) ⟨Nat.le_of_ble_eq_true rfl, Nat.le_of_ble_eq_true rfl⟩, hts (.instanceMethod yX3_get) (List.mem_of_getElem? (i := 41) rfl), hts (.selects RX3 yX3_get yX3_get) (List.mem_of_getElem? (i := 42) rfl)⟩ (z_pv hK hP (ci := 4) (q0 := kz3) rfl hz3 hP) rfl rfl hl.1 rfl (lv_room (Nat.le_of_ble_eq_true rfl)) dX6_signBack_30 ⟨(show 0 + 1 + 1 + 0 ≤ 2 by omega), (show 0 + 6 + 6 + 0 ≤ 12 by omega)⟩)) (fun zr_6 hzr_6 => ?_)
  subst hzr_6
  exact vx_ret (z_widen (k := 2) (n := 12) (show 0 + 1 + 1 ≤ 2 by omega) (show 0 + 6 + 6 ≤ 12 by omega) (W.iret (v := (if 0 ≤ (((nI (sLen (T (20 + a1.toNatClampNeg)) (N (20 + a1.toNatClampNeg)))) - 1) - a2) ∧ (((nI (sLen (T (20 + a1.toNatClampNeg)) (N (20 + a1.toNatClampNeg)))) - 1) - a2) < nI (sLen (T (20 + a1.toNatClampNeg)) (N (20 + a1.toNatClampNeg))) then (sSgn (T (20 + a1.toNatClampNeg)) (N (20 + a1.toNatClampNeg))) (((nI (sLen (T (20 + a1.toNatClampNeg)) (N (20 + a1.toNatClampNeg)))) - 1) - a2).toNatClampNeg else -1)) hx hb hr (fun t ht hW => ⟨⟨(if 0 ≤ (((nI (sLen (T (20 + a1.toNatClampNeg)) (N (20 + a1.toNatClampNeg)))) - 1) - a2) ∧ (((nI (sLen (T (20 + a1.toNatClampNeg)) (N (20 + a1.toNatClampNeg)))) - 1) - a2) < nI (sLen (T (20 + a1.toNatClampNeg)) (N (20 + a1.toNatClampNeg))) then (sSgn (T (20 + a1.toNatClampNeg)) (N (20 + a1.toNatClampNeg))) (((nI (sLen (T (20 + a1.toNatClampNeg)) (N (20 + a1.toNatClampNeg)))) - 1) - a2).toNatClampNeg else -1), w, rfl, ⟨hk0, zSgb zok_6 hsl, _, _, _, hC⟩, ⟨by rw [ht]; exact hP, hD⟩⟩, hS.F ht⟩) hS.2.2 dX6_signBack_33 hlocks))
