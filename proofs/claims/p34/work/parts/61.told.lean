set_option maxHeartbeats 4000000 in
set_option maxRecDepth 100000 in
theorem visTold_533 {p : Program} {l : Launch} {e : Env} {s : State} {m : MethodId} {below : List Frame} {meth : Method} {c : Code} {G : zG} {d : Nat} {r u : Nat → Nat} {x : Int32} {Aw : Nat → Prop} (hst : l.stackTraces = false) (hx : p.tables.exec = Jvm.exec) (hb : c.code = cL_isTold) (hr : meth.sig.returnType = some .boolean) (hml : c.maxLocals = 14) (hown : s.vm.findClass RL = some m.cls) (hts : ∀ w ∈ wsL_isTold, w.before ([.ref (r 0), .int x, .ref (u 0), .ref (u 2), .ref (u 3), .ref (u 4), .ref (u 6), .ref (u 7), .ref (u 9)] : List Value).toArray s = true) (hlocks : meth.locks = false) (hK : va_K G.1 vwCl (zT G.2) s) (hZ : zCe Aw d s s.heap) (hLx : zLx s) (hA : ∀ q : Nat, s.heap.size ≤ q → Aw q) {A : Nat → Nat} {mc : Nat → Int32} {g : Nat → Nat → Int32} {N : Nat → Nat} {T : Nat → Nat → Int32} {w : va_W} {E : Nat → Int64} {F : Nat → Nat → Int32} {K : Nat} (hC : sCQ G d r A mc g N T w) (hR : sLR N T E F) (hJ : sLJ N T K) (hK5 : K ≤ 400)    {H : Heap} {locs : List Loc} (hP : va_P G.1 vwCl (([(u 0, .inl (G.2 1, 64, .inr (.inl E))), (u 1, .inl (G.2 0, 8, .inl (F 1))), (u 2, .inl (G.2 0, 3, .inl (F 2))), (u 3, .inl (G.2 0, 3, .inl (F 3))), (u 4, .inl (G.2 0, 40, .inl (F 4))), (u 5, .inl (G.2 0, 40, .inl (F 5))), (u 6, .inl (G.2 0, 9, .inl (F 6))), (u 7, .inl (G.2 0, 12, .inl (F 7))), (u 8, .inl (G.2 0, 12, .inl (F 8))), (u 9, .inl (G.2 0, 10, .inl (F 9)))] : va_W) ++ w) H) (hD : va_D Aw (([(u 0, .inl (G.2 1, 64, .inr (.inl E))), (u 1, .inl (G.2 0, 8, .inl (F 1))), (u 2, .inl (G.2 0, 3, .inl (F 2))), (u 3, .inl (G.2 0, 3, .inl (F 3))), (u 4, .inl (G.2 0, 40, .inl (F 4))), (u 5, .inl (G.2 0, 40, .inl (F 5))), (u 6, .inl (G.2 0, 9, .inl (F 6))), (u 7, .inl (G.2 0, 12, .inl (F 7))), (u 8, .inl (G.2 0, 12, .inl (F 8))), (u 9, .inl (G.2 0, 10, .inl (F 9)))] : va_W) ++ w)) (hS : va_S Aw s.heap H locs) {ls : Array Slot} (hl : lv_has ls 14 [(0, .ref (r 0)), (1, .int x), (2, .ref (u 0)), (3, .ref (u 2)), (4, .ref (u 3)), (5, .ref (u 4)), (6, .ref (u 6)), (7, .ref (u 7)), (8, .ref (u 9))]) : W p l e (headSpec wsL_isTold ({ frames := 9, cells := 700, slots := 4200, locals := 158 })).room s m ([.ref (r 0), .int x, .ref (u 0), .ref (u 2), .ref (u 3), .ref (u 4), .ref (u 6), .ref (u 7), .ref (u 9)] : List Value).toArray below meth c H locs 590 3540 (MQ below (va_Qi (fun (r1 : Int32) (wz : va_W) => r1 = 1 ∧ ∃ w2 : va_W, wz = LW G u E F ++ w2 ∧ sCO G d r N T w2) (zB G Aw) Aw) ([.ref (r 0), .int x, .ref (u 0), .ref (u 2), .ref (u 3), .ref (u 4), .ref (u 6), .ref (u 7), .ref (u 9)] : List Value).toArray s 700 4200 Aw) (F0 m 533 ls []) := by
  have hQ := hR.q hJ
  obtain ⟨hg0, hg1, hg2, hg3, hg4, hg5, hg6, hg7, hg8⟩ := hR.2.2.2.2.2.2.2.2.2
  obtain ⟨⟨hb1, hb0, hb3, hb4, hb5⟩, hlv, hlm, hLH⟩ := id hJ.2
  obtain ⟨⟨hi0, hi2, hi3, hi4, hi5, hi6, hi1⟩, hiB, hiE, hiT, hiA, hiA0, hiM, hiK, hiK0, hiX⟩ := id hJ.1.1
  have hLG := hJ.1.2
  have hS0z : va_S Aw s.heap s.heap [] := va_S.rf
  refine lv_aload_n hx hb dL_isTold_533 rfl (lv_at hl 0 rfl) ?_
  refine z_wR (G := G) (w := w) (c2 := 590) (s2 := 3540) (va_runV (As := []) (rest := []) ⟨hx, hb, hml, hown, hts⟩ (c_X6_hour l G d r A mc g N T w H.size hC (sSm.of hJ.1.1)) (cwV 0 hts gL_isTold_X6_hour rfl rfl rfl (by decide +kernel) ⟨Nat.le_of_ble_eq_true rfl, Nat.le_of_ble_eq_true rfl⟩) (z_wv hK (z_apR hP) (ci := 7) (q0 := 0) rfl (hC.1.1 0 (by omega)) (z_apR hP) (z_dR hD) hZ hS hA) rfl rfl hl.1 rfl (lv_room (Nat.le_of_ble_eq_true rfl)) dL_isTold_534 ⟨(show 590 + 0 ≤ 700 by omega), (show 3540 + 0 ≤ 4200 by omega)⟩) hP hD hS hA (Nat.le_refl _) (Nat.le_refl _) (fun rz_1 zw_1 Hz Lz hq hP hD hS => ?_)
  obtain ⟨hr9, A, mc, g, hC⟩ := hq
  rw [hr9]
  refine lv_aload hx hb dL_isTold_537 (lv_at hl 8 rfl) ?_
  refine lv_iconst (v := 0) hx hb dL_isTold_539 (by decide) ?_
  refine va_iald hx hb hK (z_apL hP) 9 0 rfl rfl (vp_in_nI (n := 0) (by decide) (by decide)) dL_isTold_540 ?_
  refine W.eq (g2 := F0 m 541 ls [.int (nI (N 0)), .int (nI (N 0))]) (by rw [show (F 9) (0 : Int32).toNatClampNeg = nI (N 0) from hg0]) ?_
  refine lv_icmp_ne (tgt := 758) hx hb dL_isTold_541 (by decide) (fun zc_2 => absurd rfl zc_2) (fun _ => ?_)
  refine lv_aload_n hx hb dL_isTold_544 rfl (lv_at hl 0 rfl) ?_
  refine z_wR (G := G) (w := zw_1) (c2 := 590) (s2 := 3540) (va_runV (As := []) (rest := []) ⟨hx, hb, hml, hown, hts⟩ (c_X6_entries l G d r A mc g N T zw_1 Hz.size hC (sSm.of hJ.1.1)) (cwV 0 hts gL_isTold_X6_entries rfl rfl rfl (by decide +kernel) ⟨Nat.le_of_ble_eq_true rfl, Nat.le_of_ble_eq_true rfl⟩) (z_wv hK (z_apR hP) (ci := 7) (q0 := 0) rfl (hC.1.1 0 (by omega)) (z_apR hP) (z_dR hD) hZ hS hA) rfl rfl hl.1 rfl (lv_room (Nat.le_of_ble_eq_true rfl)) dL_isTold_545 ⟨(show 590 + 0 ≤ 700 by omega), (show 3540 + 0 ≤ 4200 by omega)⟩) hP hD hS hA (Nat.le_refl _) (Nat.le_refl _) (fun rz_3 zw_3 Hz Lz hq hP hD hS => ?_)
  obtain ⟨hr9, A, mc, g, hC⟩ := hq
  rw [hr9]
  refine lv_aload hx hb dL_isTold_548 (lv_at hl 8 rfl) ?_
  refine lv_iconst (v := 1) hx hb dL_isTold_550 (by decide) ?_
  refine va_iald hx hb hK (z_apL hP) 9 0 rfl rfl (vp_in_nI (n := 1) (by decide) (by decide)) dL_isTold_551 ?_
  refine W.eq (g2 := F0 m 552 ls [.int (nI (N 1)), .int (nI (N 1))]) (by rw [show (F 9) (1 : Int32).toNatClampNeg = nI (N 1) from hg1]) ?_
  refine lv_icmp_ne (tgt := 758) hx hb dL_isTold_552 (by decide) (fun zc_4 => absurd rfl zc_4) (fun _ => ?_)
  refine lv_aload_n hx hb dL_isTold_555 rfl (lv_at hl 0 rfl) ?_
  refine z_wR (G := G) (w := zw_3) (c2 := 590) (s2 := 3540) (va_runV (As := []) (rest := []) ⟨hx, hb, hml, hown, hts⟩ (c_X6_spilled l G d r A mc g N T zw_3 Hz.size hC (sSm.of hJ.1.1)) (cwV 0 hts gL_isTold_X6_spilled rfl rfl rfl (by decide +kernel) ⟨Nat.le_of_ble_eq_true rfl, Nat.le_of_ble_eq_true rfl⟩) (z_wv hK (z_apR hP) (ci := 7) (q0 := 0) rfl (hC.1.1 0 (by omega)) (z_apR hP) (z_dR hD) hZ hS hA) rfl rfl hl.1 rfl (lv_room (Nat.le_of_ble_eq_true rfl)) dL_isTold_556 ⟨(show 590 + 0 ≤ 700 by omega), (show 3540 + 0 ≤ 4200 by omega)⟩) hP hD hS hA (Nat.le_refl _) (Nat.le_refl _) (fun rz_5 zw_5 Hz Lz hq hP hD hS => ?_)
  obtain ⟨hr9, A, mc, g, hC⟩ := hq
  rw [hr9]
  refine lv_aload hx hb dL_isTold_559 (lv_at hl 8 rfl) ?_
  refine lv_iconst (v := 3) hx hb dL_isTold_561 (by decide) ?_
  refine va_iald hx hb hK (z_apL hP) 9 0 rfl rfl (vp_in_nI (n := 3) (by decide) (by decide)) dL_isTold_562 ?_
  refine W.eq (g2 := F0 m 563 ls [.int (T 19 1), .int (T 19 1)]) (by rw [show (F 9) (3 : Int32).toNatClampNeg = T 19 1 from hg3]) ?_
  refine lv_icmp_ne (tgt := 758) hx hb dL_isTold_563 (by decide) (fun zc_6 => absurd rfl zc_6) (fun _ => ?_)
  refine lv_aload_n hx hb dL_isTold_566 rfl (lv_at hl 0 rfl) ?_
  refine z_wR (G := G) (w := zw_5) (c2 := 590) (s2 := 3540) (va_runV (As := []) (rest := []) ⟨hx, hb, hml, hown, hts⟩ (c_X6_messages l G d r A mc g N T zw_5 Hz.size hC (sSm.of hJ.1.1)) (cwV 0 hts gL_isTold_X6_messages rfl rfl rfl (by decide +kernel) ⟨Nat.le_of_ble_eq_true rfl, Nat.le_of_ble_eq_true rfl⟩) (z_wv hK (z_apR hP) (ci := 7) (q0 := 0) rfl (hC.1.1 0 (by omega)) (z_apR hP) (z_dR hD) hZ hS hA) rfl rfl hl.1 rfl (lv_room (Nat.le_of_ble_eq_true rfl)) dL_isTold_567 ⟨(show 590 + 0 ≤ 700 by omega), (show 3540 + 0 ≤ 4200 by omega)⟩) hP hD hS hA (Nat.le_refl _) (Nat.le_refl _) (fun rz_7 zw_7 Hz Lz hq hP hD hS => ?_)
  obtain ⟨hr9, A, mc, g, hC⟩ := hq
  rw [hr9]
  refine lv_aload hx hb dL_isTold_570 (lv_at hl 8 rfl) ?_
  refine lv_bipush (v := 6) hx hb dL_isTold_572 (by decide) ?_
  refine va_iald hx hb hK (z_apL hP) 9 0 rfl rfl (vp_in_nI (n := 6) (by decide) (by decide)) dL_isTold_574 ?_
  refine W.eq (g2 := F0 m 575 ls [.int (nI (N 5)), .int (nI (N 5))]) (by rw [show (F 9) (6 : Int32).toNatClampNeg = nI (N 5) from hg6]) ?_
  refine lv_icmp_ne (tgt := 758) hx hb dL_isTold_575 (by decide) (fun zc_8 => absurd rfl zc_8) (fun _ => ?_)
  refine lv_aload_n hx hb dL_isTold_578 rfl (lv_at hl 0 rfl) ?_
  refine z_wR (G := G) (w := zw_7) (c2 := 590) (s2 := 3540) (va_runV (As := []) (rest := []) ⟨hx, hb, hml, hown, hts⟩ (c_X6_isWhole l G d r A mc g N T zw_7 Hz.size hC (sSm.of hJ.1.1)) (cwV 0 hts gL_isTold_X6_isWhole rfl rfl rfl (by decide +kernel) ⟨Nat.le_of_ble_eq_true rfl, Nat.le_of_ble_eq_true rfl⟩) (z_wv hK (z_apR hP) (ci := 7) (q0 := 0) rfl (hC.1.1 0 (by omega)) (z_apR hP) (z_dR hD) hZ hS hA) rfl rfl hl.1 rfl (lv_room (Nat.le_of_ble_eq_true rfl)) dL_isTold_579 ⟨(show 590 + 0 ≤ 700 by omega), (show 3540 + 0 ≤ 4200 by omega)⟩) hP hD hS hA (Nat.le_refl _) (Nat.le_refl _) (fun rz_9 zw_9 Hz Lz hq hP hD hS => ?_)
  obtain ⟨hr9, A, mc, g, hC⟩ := hq
  rw [hr9]
  refine lv_aload hx hb dL_isTold_582 (lv_at hl 8 rfl) ?_
  refine z_csi (va_Run.run (va_runS (As := [.ref (u 9)]) (rest := [.int (zb (sGood (T 17) (N 4)))]) ⟨hx, hb, hml, hown, hts⟩ (c_L_isWhole l G u E F N T hR.2.2.2.2.2.2.2.2.1 hg8 hb4) (va_cwS 1 hts gL_isTold_L_isWhole rfl rfl rfl (by decide +kernel) ⟨Nat.le_of_ble_eq_true rfl, Nat.le_of_ble_eq_true rfl⟩) (z_ps hK (z_apL hP)) rfl rfl hl.1 rfl (lv_room (Nat.le_of_ble_eq_true rfl)) dL_isTold_584 ⟨(show 590 + 0 ≤ 700 by omega), (show 3540 + 0 ≤ 4200 by omega)⟩)) (fun zr_10 hzr_10 => ?_)
  subst hzr_10
  refine lv_icmp_ne (tgt := 758) hx hb dL_isTold_587 (by decide) (fun zc_11 => absurd rfl zc_11) (fun _ => ?_)
  refine lv_aload_n hx hb dL_isTold_590 rfl (lv_at hl 0 rfl) ?_
  refine lv_aload hx hb dL_isTold_591 (lv_at hl 8 rfl) ?_
  refine lv_iconst (v := 1) hx hb dL_isTold_593 (by decide) ?_
  refine va_iald hx hb hK (z_apL hP) 9 0 rfl rfl (vp_in_nI (n := 1) (by decide) (by decide)) dL_isTold_594 ?_
  refine W.eq (g2 := F0 m 595 ls [.int (nI (N 1)), .ref (r 0)]) (by rw [show (F 9) (1 : Int32).toNatClampNeg = nI (N 1) from hg1]) ?_
  have hkz_595 : sK1 (sIx (nI (N 1)) (N 1)) = 1 := (sK1_1' (sIx_e (by omega)))
  refine z_xR (G := G) (w := zw_9) (c2 := 592) (s2 := 3552) (vx_runSX (hh := [(0, 6, 9, 14)]) (As := [.ref (r 0), .int (nI (N 1))]) (rest := []) ⟨hx, hb, hml, hown, hts⟩ (h_entryAt l hst G d r A mc g N T zw_9 K (nI (N 1)) Hz.size hC hJ.1.1 (by omega) ) (vx_cwSW 2 hts gL_isTold_L_entryAt rfl rfl rfl (by decide +kernel) ⟨Nat.le_of_ble_eq_true rfl, Nat.le_of_ble_eq_true rfl⟩) (z_hs hK (z_apR hP) (z_dR hD) hZ hLx hS hA) rfl rfl hl.1 rfl (lv_room (Nat.le_of_ble_eq_true rfl)) dL_isTold_595 ⟨(show 590 + 2 ≤ 700 by omega), (show 3540 + 12 ≤ 4200 by omega)⟩) hP hD hS hA (show 590 + 2 ≤ 592 by omega) (show 3540 + 12 ≤ 3552 by omega) (fun rz_12 zw_12 Hz Lz hq hP hD hS => ?_)
  obtain ⟨hr9, hw9⟩ := hq.2 (by rw [hkz_595]; decide)
  rw [hw9] at hP hD
  rw [hr9, show zCx [-7100] (sK1 (sIx (nI (N 1)) (N 1))) = (-7100) from by rw [hkz_595]; rfl]
  refine lv_sipush (v := (-7100)) hx hb dL_isTold_598 (by decide) ?_
  refine lv_icmp_ne (tgt := 758) hx hb dL_isTold_601 (by decide) (fun zc_13 => absurd zc_13 (by decide)) (fun _ => ?_)
  refine lv_aload_n hx hb dL_isTold_604 rfl (lv_at hl 0 rfl) ?_
  refine lv_iconst (v := (-1)) hx hb dL_isTold_605 (by decide) ?_
  have hkz_606 : sK1 (sIx (-1 : Int32) (N 1)) = 1 := (sK1_1' (show sIx (-1 : Int32) (N 1) = false from zIx_neg (by decide)))
  refine z_xR (G := G) (w := zw_9) (c2 := 594) (s2 := 3564) (vx_runSX (hh := [(0, 6, 9, 14)]) (As := [.ref (r 0), .int (-1)]) (rest := []) ⟨hx, hb, hml, hown, hts⟩ (h_entryAt l hst G d r A mc g N T zw_9 K (-1 : Int32) Hz.size hC hJ.1.1 (by omega) ) (vx_cwSW 2 hts gL_isTold_L_entryAt rfl rfl rfl (by decide +kernel) ⟨Nat.le_of_ble_eq_true rfl, Nat.le_of_ble_eq_true rfl⟩) (z_hs hK (z_apR hP) (z_dR hD) hZ hLx hS hA) rfl rfl hl.1 rfl (lv_room (Nat.le_of_ble_eq_true rfl)) dL_isTold_606 ⟨(show 592 + 2 ≤ 700 by omega), (show 3552 + 12 ≤ 4200 by omega)⟩) hP hD hS hA (show 592 + 2 ≤ 594 by omega) (show 3552 + 12 ≤ 3564 by omega) (fun rz_14 zw_14 Hz Lz hq hP hD hS => ?_)
  obtain ⟨hr9, hw9⟩ := hq.2 (by rw [hkz_606]; decide)
  rw [hw9] at hP hD
  rw [hr9, show zCx [-7100] (sK1 (sIx (-1 : Int32) (N 1))) = (-7100) from by rw [hkz_606]; rfl]
  refine lv_sipush (v := (-7100)) hx hb dL_isTold_609 (by decide) ?_
  refine lv_icmp_ne (tgt := 758) hx hb dL_isTold_612 (by decide) (fun zc_15 => absurd zc_15 (by decide)) (fun _ => ?_)
  refine lv_aload_n hx hb dL_isTold_615 rfl (lv_at hl 0 rfl) ?_
  refine lv_bipush (v := 9) hx hb dL_isTold_616 (by decide) ?_
  refine lv_iconst (v := 0) hx hb dL_isTold_618 (by decide) ?_
  have hkz_619 : sK1 ((sIx (9 : Int32) 9) && (sIx (0 : Int32) 8)) = 1 := (sK1_1' (sAnd_l (show sIx (9 : Int32) 9 = false from by decide)))
  refine z_xR (G := G) (w := zw_9) (c2 := 596) (s2 := 3576) (vx_runSX (hh := [(0, 7, 10, 14)]) (As := [.ref (r 0), .int 9, .int 0]) (rest := []) ⟨hx, hb, hml, hown, hts⟩ (h_obstacle l hst G d r A mc g N T zw_9 K (9 : Int32) (0 : Int32) Hz.size hC hJ.1.1 (by omega) ) (vx_cwSW 3 hts gL_isTold_L_obstacle rfl rfl rfl (by decide +kernel) ⟨Nat.le_of_ble_eq_true rfl, Nat.le_of_ble_eq_true rfl⟩) (z_hs hK (z_apR hP) (z_dR hD) hZ hLx hS hA) rfl rfl hl.1 rfl (lv_room (Nat.le_of_ble_eq_true rfl)) dL_isTold_619 ⟨(show 594 + 2 ≤ 700 by omega), (show 3564 + 12 ≤ 4200 by omega)⟩) hP hD hS hA (show 594 + 2 ≤ 596 by omega) (show 3564 + 12 ≤ 3576 by omega) (fun rz_16 zw_16 Hz Lz hq hP hD hS => ?_)
  obtain ⟨hr9, hw9⟩ := hq.2 (by rw [hkz_619]; decide)
  rw [hw9] at hP hD
  rw [hr9, show zCx [-7100] (sK1 ((sIx (9 : Int32) 9) && (sIx (0 : Int32) 8))) = (-7100) from by rw [hkz_619]; rfl]
  refine lv_sipush (v := (-7100)) hx hb dL_isTold_622 (by decide) ?_
  refine lv_icmp_ne (tgt := 758) hx hb dL_isTold_625 (by decide) (fun zc_17 => absurd zc_17 (by decide)) (fun _ => ?_)
  refine lv_aload_n hx hb dL_isTold_628 rfl (lv_at hl 0 rfl) ?_
  refine lv_iconst (v := 0) hx hb dL_isTold_629 (by decide) ?_
  refine lv_bipush (v := 8) hx hb dL_isTold_630 (by decide) ?_
  have hkz_632 : sK1 ((sIx (0 : Int32) 9) && (sIx (8 : Int32) 8)) = 1 := (sK1_1' (sAnd_r (show sIx (8 : Int32) 8 = false from by decide)))
  refine z_xR (G := G) (w := zw_9) (c2 := 598) (s2 := 3588) (vx_runSX (hh := [(0, 7, 10, 14)]) (As := [.ref (r 0), .int 0, .int 8]) (rest := []) ⟨hx, hb, hml, hown, hts⟩ (h_obstacle l hst G d r A mc g N T zw_9 K (0 : Int32) (8 : Int32) Hz.size hC hJ.1.1 (by omega) ) (vx_cwSW 3 hts gL_isTold_L_obstacle rfl rfl rfl (by decide +kernel) ⟨Nat.le_of_ble_eq_true rfl, Nat.le_of_ble_eq_true rfl⟩) (z_hs hK (z_apR hP) (z_dR hD) hZ hLx hS hA) rfl rfl hl.1 rfl (lv_room (Nat.le_of_ble_eq_true rfl)) dL_isTold_632 ⟨(show 596 + 2 ≤ 700 by omega), (show 3576 + 12 ≤ 4200 by omega)⟩) hP hD hS hA (show 596 + 2 ≤ 598 by omega) (show 3576 + 12 ≤ 3588 by omega) (fun rz_18 zw_18 Hz Lz hq hP hD hS => ?_)
  obtain ⟨hr9, hw9⟩ := hq.2 (by rw [hkz_632]; decide)
  rw [hw9] at hP hD
  rw [hr9, show zCx [-7100] (sK1 ((sIx (0 : Int32) 9) && (sIx (8 : Int32) 8))) = (-7100) from by rw [hkz_632]; rfl]
  refine lv_sipush (v := (-7100)) hx hb dL_isTold_635 (by decide) ?_
  refine lv_icmp_ne (tgt := 758) hx hb dL_isTold_638 (by decide) (fun zc_19 => absurd zc_19 (by decide)) (fun _ => ?_)
  refine lv_aload_n hx hb dL_isTold_641 rfl (lv_at hl 0 rfl) ?_
  refine lv_iconst (v := (-1)) hx hb dL_isTold_642 (by decide) ?_
  have hkz_643 : sK1 (sIx (-1 : Int32) 9) = 1 := (sK1_1' (show sIx (-1 : Int32) 9 = false from by decide))
  refine z_xR (G := G) (w := zw_9) (c2 := 600) (s2 := 3600) (vx_runSX (hh := [(0, 6, 9, 14)]) (As := [.ref (r 0), .int (-1)]) (rest := []) ⟨hx, hb, hml, hown, hts⟩ (h_canAct l hst G d r A mc g N T zw_9 K (-1 : Int32) Hz.size hC hJ.1.1 (by omega) ) (vx_cwSW 2 hts gL_isTold_L_canAct rfl rfl rfl (by decide +kernel) ⟨Nat.le_of_ble_eq_true rfl, Nat.le_of_ble_eq_true rfl⟩) (z_hs hK (z_apR hP) (z_dR hD) hZ hLx hS hA) rfl rfl hl.1 rfl (lv_room (Nat.le_of_ble_eq_true rfl)) dL_isTold_643 ⟨(show 598 + 2 ≤ 700 by omega), (show 3588 + 12 ≤ 4200 by omega)⟩) hP hD hS hA (show 598 + 2 ≤ 600 by omega) (show 3588 + 12 ≤ 3600 by omega) (fun rz_20 zw_20 Hz Lz hq hP hD hS => ?_)
  obtain ⟨hr9, hw9⟩ := hq.2 (by rw [hkz_643]; decide)
  rw [hw9] at hP hD
  rw [hr9, show zCx [-7100] (sK1 (sIx (-1 : Int32) 9)) = (-7100) from by rw [hkz_643]; rfl]
  refine lv_sipush (v := (-7100)) hx hb dL_isTold_646 (by decide) ?_
  refine lv_icmp_ne (tgt := 758) hx hb dL_isTold_649 (by decide) (fun zc_21 => absurd zc_21 (by decide)) (fun _ => ?_)
  refine lv_aload_n hx hb dL_isTold_652 rfl (lv_at hl 0 rfl) ?_
  refine lv_bipush (v := 8) hx hb dL_isTold_653 (by decide) ?_
  have hkz_655 : sK1 (sIx (8 : Int32) 8) = 1 := (sK1_1' (show sIx (8 : Int32) 8 = false from by decide))
  refine z_xR (G := G) (w := zw_9) (c2 := 602) (s2 := 3612) (vx_runSX (hh := [(0, 6, 9, 14)]) (As := [.ref (r 0), .int 8]) (rest := []) ⟨hx, hb, hml, hown, hts⟩ (h_isOpen l hst G d r A mc g N T zw_9 K (8 : Int32) Hz.size hC hJ.1.1 (by omega) ) (vx_cwSW 2 hts gL_isTold_L_isOpen rfl rfl rfl (by decide +kernel) ⟨Nat.le_of_ble_eq_true rfl, Nat.le_of_ble_eq_true rfl⟩) (z_hs hK (z_apR hP) (z_dR hD) hZ hLx hS hA) rfl rfl hl.1 rfl (lv_room (Nat.le_of_ble_eq_true rfl)) dL_isTold_655 ⟨(show 600 + 2 ≤ 700 by omega), (show 3600 + 12 ≤ 4200 by omega)⟩) hP hD hS hA (show 600 + 2 ≤ 602 by omega) (show 3600 + 12 ≤ 3612 by omega) (fun rz_22 zw_22 Hz Lz hq hP hD hS => ?_)
  obtain ⟨hr9, hw9⟩ := hq.2 (by rw [hkz_655]; decide)
  rw [hw9] at hP hD
  rw [hr9, show zCx [-7100] (sK1 (sIx (8 : Int32) 8)) = (-7100) from by rw [hkz_655]; rfl]
  refine lv_sipush (v := (-7100)) hx hb dL_isTold_658 (by decide) ?_
  refine lv_icmp_ne (tgt := 758) hx hb dL_isTold_661 (by decide) (fun zc_23 => absurd zc_23 (by decide)) (fun _ => ?_)
  refine lv_aload_n hx hb dL_isTold_664 rfl (lv_at hl 0 rfl) ?_
  refine lv_iconst (v := (-1)) hx hb dL_isTold_665 (by decide) ?_
  have hkz_666 : sK1 (sIx (-1 : Int32) 8) = 1 := (sK1_1' (show sIx (-1 : Int32) 8 = false from by decide))
  refine z_xR (G := G) (w := zw_9) (c2 := 604) (s2 := 3624) (vx_runSX (hh := [(0, 6, 9, 14)]) (As := [.ref (r 0), .int (-1)]) (rest := []) ⟨hx, hb, hml, hown, hts⟩ (h_isOpenByLog l hst G d r A mc g N T zw_9 K (-1 : Int32) Hz.size hC hJ.1.1 (by omega) hLG) (vx_cwSW 2 hts gL_isTold_L_isOpenByLog rfl rfl rfl (by decide +kernel) ⟨Nat.le_of_ble_eq_true rfl, Nat.le_of_ble_eq_true rfl⟩) (z_hs hK (z_apR hP) (z_dR hD) hZ hLx hS hA) rfl rfl hl.1 rfl (lv_room (Nat.le_of_ble_eq_true rfl)) dL_isTold_666 ⟨(show 602 + 2 ≤ 700 by omega), (show 3612 + 12 ≤ 4200 by omega)⟩) hP hD hS hA (show 602 + 2 ≤ 604 by omega) (show 3612 + 12 ≤ 3624 by omega) (fun rz_24 zw_24 Hz Lz hq hP hD hS => ?_)
  obtain ⟨hr9, hw9⟩ := hq.2 (by rw [hkz_666]; decide)
  rw [hw9] at hP hD
  rw [hr9, show zCx [-7100] (sK1 (sIx (-1 : Int32) 8)) = (-7100) from by rw [hkz_666]; rfl]
  refine lv_sipush (v := (-7100)) hx hb dL_isTold_669 (by decide) ?_
  refine lv_icmp_ne (tgt := 758) hx hb dL_isTold_672 (by decide) (fun zc_25 => absurd zc_25 (by decide)) (fun _ => ?_)
  refine lv_aload_n hx hb dL_isTold_675 rfl (lv_at hl 0 rfl) ?_
  refine lv_iconst (v := 3) hx hb dL_isTold_676 (by decide) ?_
  have hkz_677 : sK1 (sIx (3 : Int32) 3) = 1 := (sK1_1' (show sIx (3 : Int32) 3 = false from by decide))
  refine z_xR (G := G) (w := zw_9) (c2 := 606) (s2 := 3636) (vx_runSX (hh := [(0, 6, 9, 14)]) (As := [.ref (r 0), .int 3]) (rest := []) ⟨hx, hb, hml, hown, hts⟩ (h_level l hst G d r A mc g N T zw_9 K (3 : Int32) Hz.size hC hJ.1.1 (by omega) ) (vx_cwSW 2 hts gL_isTold_L_level rfl rfl rfl (by decide +kernel) ⟨Nat.le_of_ble_eq_true rfl, Nat.le_of_ble_eq_true rfl⟩) (z_hs hK (z_apR hP) (z_dR hD) hZ hLx hS hA) rfl rfl hl.1 rfl (lv_room (Nat.le_of_ble_eq_true rfl)) dL_isTold_677 ⟨(show 604 + 2 ≤ 700 by omega), (show 3624 + 12 ≤ 4200 by omega)⟩) hP hD hS hA (show 604 + 2 ≤ 606 by omega) (show 3624 + 12 ≤ 3636 by omega) (fun rz_26 zw_26 Hz Lz hq hP hD hS => ?_)
  obtain ⟨hr9, hw9⟩ := hq.2 (by rw [hkz_677]; decide)
  rw [hw9] at hP hD
  rw [hr9, show zCx [-7100] (sK1 (sIx (3 : Int32) 3)) = (-7100) from by rw [hkz_677]; rfl]
  refine lv_sipush (v := (-7100)) hx hb dL_isTold_680 (by decide) ?_
  refine lv_icmp_ne (tgt := 758) hx hb dL_isTold_683 (by decide) (fun zc_27 => absurd zc_27 (by decide)) (fun _ => ?_)
  refine lv_aload_n hx hb dL_isTold_686 rfl (lv_at hl 0 rfl) ?_
  refine lv_bipush (v := 8) hx hb dL_isTold_687 (by decide) ?_
  have hkz_689 : sK1 (sIx (8 : Int32) 8) = 1 := (sK1_1' (show sIx (8 : Int32) 8 = false from by decide))
  refine z_xR (G := G) (w := zw_9) (c2 := 608) (s2 := 3648) (vx_runSX (hh := [(0, 6, 9, 14)]) (As := [.ref (r 0), .int 8]) (rest := []) ⟨hx, hb, hml, hown, hts⟩ (h_tagsByLog l hst G d r A mc g N T zw_9 K (8 : Int32) Hz.size hC hJ.1.1 (by omega) hLG) (vx_cwSW 2 hts gL_isTold_L_tagsByLog rfl rfl rfl (by decide +kernel) ⟨Nat.le_of_ble_eq_true rfl, Nat.le_of_ble_eq_true rfl⟩) (z_hs hK (z_apR hP) (z_dR hD) hZ hLx hS hA) rfl rfl hl.1 rfl (lv_room (Nat.le_of_ble_eq_true rfl)) dL_isTold_689 ⟨(show 606 + 2 ≤ 700 by omega), (show 3636 + 12 ≤ 4200 by omega)⟩) hP hD hS hA (show 606 + 2 ≤ 608 by omega) (show 3636 + 12 ≤ 3648 by omega) (fun rz_28 zw_28 Hz Lz hq hP hD hS => ?_)
  obtain ⟨hr9, hw9⟩ := hq.2 (by rw [hkz_689]; decide)
  rw [hw9] at hP hD
  rw [hr9, show zCx [-7100] (sK1 (sIx (8 : Int32) 8)) = (-7100) from by rw [hkz_689]; rfl]
  refine lv_sipush (v := (-7100)) hx hb dL_isTold_692 (by decide) ?_
  refine lv_icmp_ne (tgt := 758) hx hb dL_isTold_695 (by decide) (fun zc_29 => absurd zc_29 (by decide)) (fun _ => ?_)
  refine lv_aload_n hx hb dL_isTold_698 rfl (lv_at hl 0 rfl) ?_
  refine lv_aload hx hb dL_isTold_699 (lv_at hl 8 rfl) ?_
  refine lv_iconst (v := 5) hx hb dL_isTold_701 (by decide) ?_
  refine va_iald hx hb hK (z_apL hP) 9 0 rfl rfl (vp_in_nI (n := 5) (by decide) (by decide)) dL_isTold_702 ?_
  refine W.eq (g2 := F0 m 703 ls [.int (nI (N 2)), .ref (r 0)]) (by rw [show (F 9) (5 : Int32).toNatClampNeg = nI (N 2) from hg5]) ?_
  have hkz_703 : sK1 (sIx (nI (N 2)) (N 2)) = 1 := (sK1_1' (sIx_e (by omega)))
  refine z_xR (G := G) (w := zw_9) (c2 := 610) (s2 := 3660) (vx_runSX (hh := [(0, 6, 9, 14)]) (As := [.ref (r 0), .int (nI (N 2))]) (rest := []) ⟨hx, hb, hml, hown, hts⟩ (h_ownerOf l hst G d r A mc g N T zw_9 K (nI (N 2)) Hz.size hC hJ.1.1 (by omega) ) (vx_cwSW 2 hts gL_isTold_L_ownerOf rfl rfl rfl (by decide +kernel) ⟨Nat.le_of_ble_eq_true rfl, Nat.le_of_ble_eq_true rfl⟩) (z_hs hK (z_apR hP) (z_dR hD) hZ hLx hS hA) rfl rfl hl.1 rfl (lv_room (Nat.le_of_ble_eq_true rfl)) dL_isTold_703 ⟨(show 608 + 2 ≤ 700 by omega), (show 3648 + 12 ≤ 4200 by omega)⟩) hP hD hS hA (show 608 + 2 ≤ 610 by omega) (show 3648 + 12 ≤ 3660 by omega) (fun rz_30 zw_30 Hz Lz hq hP hD hS => ?_)
  obtain ⟨hr9, hw9⟩ := hq.2 (by rw [hkz_703]; decide)
  rw [hw9] at hP hD
  rw [hr9, show zCx [-7100] (sK1 (sIx (nI (N 2)) (N 2))) = (-7100) from by rw [hkz_703]; rfl]
  refine lv_sipush (v := (-7100)) hx hb dL_isTold_706 (by decide) ?_
  refine lv_icmp_ne (tgt := 758) hx hb dL_isTold_709 (by decide) (fun zc_31 => absurd zc_31 (by decide)) (fun _ => ?_)
  refine lv_aload_n hx hb dL_isTold_712 rfl (lv_at hl 0 rfl) ?_
  refine lv_iconst (v := (-1)) hx hb dL_isTold_713 (by decide) ?_
  have hkz_714 : sK1 (sIx (-1 : Int32) (N 3)) = 1 := (sK1_1' (show sIx (-1 : Int32) (N 3) = false from zIx_neg (by decide)))
  refine z_xR (G := G) (w := zw_9) (c2 := 612) (s2 := 3672) (vx_runSX (hh := [(0, 6, 9, 14)]) (As := [.ref (r 0), .int (-1)]) (rest := []) ⟨hx, hb, hml, hown, hts⟩ (h_stateOf l hst G d r A mc g N T zw_9 K (-1 : Int32) Hz.size hC hJ.1.1 (by omega) ) (vx_cwSW 2 hts gL_isTold_L_stateOf rfl rfl rfl (by decide +kernel) ⟨Nat.le_of_ble_eq_true rfl, Nat.le_of_ble_eq_true rfl⟩) (z_hs hK (z_apR hP) (z_dR hD) hZ hLx hS hA) rfl rfl hl.1 rfl (lv_room (Nat.le_of_ble_eq_true rfl)) dL_isTold_714 ⟨(show 610 + 2 ≤ 700 by omega), (show 3660 + 12 ≤ 4200 by omega)⟩) hP hD hS hA (show 610 + 2 ≤ 612 by omega) (show 3660 + 12 ≤ 3672 by omega) (fun rz_32 zw_32 Hz Lz hq hP hD hS => ?_)
  obtain ⟨hr9, hw9⟩ := hq.2 (by rw [hkz_714]; decide)
  rw [hw9] at hP hD
  rw [hr9, show zCx [-7100] (sK1 (sIx (-1 : Int32) (N 3))) = (-7100) from by rw [hkz_714]; rfl]
  refine lv_sipush (v := (-7100)) hx hb dL_isTold_717 (by decide) ?_
  refine lv_icmp_ne (tgt := 758) hx hb dL_isTold_720 (by decide) (fun zc_33 => absurd zc_33 (by decide)) (fun _ => ?_)
  refine lv_aload_n hx hb dL_isTold_723 rfl (lv_at hl 0 rfl) ?_
  refine lv_aload hx hb dL_isTold_724 (lv_at hl 8 rfl) ?_
  refine lv_bipush (v := 7) hx hb dL_isTold_726 (by decide) ?_
  refine va_iald hx hb hK (z_apL hP) 9 0 rfl rfl (vp_in_nI (n := 7) (by decide) (by decide)) dL_isTold_728 ?_
  refine W.eq (g2 := F0 m 729 ls [.int (nI (N 6)), .ref (r 0)]) (by rw [show (F 9) (7 : Int32).toNatClampNeg = nI (N 6) from hg7]) ?_
  have hkz_729 : sK1 (sIx (nI (N 6)) (N 6)) = 1 := (sK1_1' (sIx_e (by omega)))
  refine z_xR (G := G) (w := zw_9) (c2 := 614) (s2 := 3684) (vx_runSX (hh := [(0, 6, 9, 14)]) (As := [.ref (r 0), .int (nI (N 6))]) (rest := []) ⟨hx, hb, hml, hown, hts⟩ (h_taskOf l hst G d r A mc g N T zw_9 K (nI (N 6)) Hz.size hC hJ.1.1 (by omega) ) (vx_cwSW 2 hts gL_isTold_L_taskOf rfl rfl rfl (by decide +kernel) ⟨Nat.le_of_ble_eq_true rfl, Nat.le_of_ble_eq_true rfl⟩) (z_hs hK (z_apR hP) (z_dR hD) hZ hLx hS hA) rfl rfl hl.1 rfl (lv_room (Nat.le_of_ble_eq_true rfl)) dL_isTold_729 ⟨(show 612 + 2 ≤ 700 by omega), (show 3672 + 12 ≤ 4200 by omega)⟩) hP hD hS hA (show 612 + 2 ≤ 614 by omega) (show 3672 + 12 ≤ 3684 by omega) (fun rz_34 zw_34 Hz Lz hq hP hD hS => ?_)
  obtain ⟨hr9, hw9⟩ := hq.2 (by rw [hkz_729]; decide)
  rw [hw9] at hP hD
  rw [hr9, show zCx [-7100] (sK1 (sIx (nI (N 6)) (N 6))) = (-7100) from by rw [hkz_729]; rfl]
  refine lv_sipush (v := (-7100)) hx hb dL_isTold_732 (by decide) ?_
  refine lv_icmp_ne (tgt := 758) hx hb dL_isTold_735 (by decide) (fun zc_35 => absurd zc_35 (by decide)) (fun _ => ?_)
  refine lv_aload_n hx hb dL_isTold_738 rfl (lv_at hl 0 rfl) ?_
  refine lv_aload hx hb dL_isTold_739 (lv_at hl 8 rfl) ?_
  refine lv_bipush (v := 6) hx hb dL_isTold_741 (by decide) ?_
  refine va_iald hx hb hK (z_apL hP) 9 0 rfl rfl (vp_in_nI (n := 6) (by decide) (by decide)) dL_isTold_743 ?_
  refine W.eq (g2 := F0 m 744 ls [.int (nI (N 5)), .ref (r 0)]) (by rw [show (F 9) (6 : Int32).toNatClampNeg = nI (N 5) from hg6]) ?_
  refine lv_iconst (v := 0) hx hb dL_isTold_744 (by decide) ?_
  have hkz_745 : sK1 ((sIx (nI (N 5)) (N 5)) && (decide (0 ≤ (0 : Int32)))) = 1 := (sK1_1' (sAnd_l (sIx_e (by omega))))
  refine z_xR (G := G) (w := zw_9) (c2 := 616) (s2 := 3696) (vx_runSX (hh := [(0, 7, 10, 14)]) (As := [.ref (r 0), .int (nI (N 5)), .int 0]) (rest := []) ⟨hx, hb, hml, hown, hts⟩ (h_signAt l hst G d r A mc g N T zw_9 K (nI (N 5)) (0 : Int32) Hz.size hC hJ.1.1 (by omega) ) (vx_cwSW 3 hts gL_isTold_L_signAt rfl rfl rfl (by decide +kernel) ⟨Nat.le_of_ble_eq_true rfl, Nat.le_of_ble_eq_true rfl⟩) (z_hs hK (z_apR hP) (z_dR hD) hZ hLx hS hA) rfl rfl hl.1 rfl (lv_room (Nat.le_of_ble_eq_true rfl)) dL_isTold_745 ⟨(show 614 + 2 ≤ 700 by omega), (show 3684 + 12 ≤ 4200 by omega)⟩) hP hD hS hA (show 614 + 2 ≤ 616 by omega) (show 3684 + 12 ≤ 3696 by omega) (fun rz_36 zw_36 Hz Lz hq hP hD hS => ?_)
  obtain ⟨hr9, hw9⟩ := hq.2 (by rw [hkz_745]; decide)
  rw [hw9] at hP hD
  rw [hr9, show zCx [-7100] (sK1 ((sIx (nI (N 5)) (N 5)) && (decide (0 ≤ (0 : Int32))))) = (-7100) from by rw [hkz_745]; rfl]
  refine lv_sipush (v := (-7100)) hx hb dL_isTold_748 (by decide) ?_
  refine lv_icmp_ne (tgt := 758) hx hb dL_isTold_751 (by decide) (fun zc_37 => absurd zc_37 (by decide)) (fun _ => ?_)
  refine lv_iconst (v := 1) hx hb dL_isTold_754 (by decide) ?_
  refine lv_goto (tgt := 759) hx hb dL_isTold_755 (by decide) ?_
  exact z_widen (k := 700) (n := 4200) (show 616 ≤ 700 by omega) (show 3696 ≤ 4200 by omega) (W.zret (v := 1) hx hb hr rfl (fun t ht hW => ⟨⟨1, (([(u 0, .inl (G.2 1, 64, .inr (.inl E))), (u 1, .inl (G.2 0, 8, .inl (F 1))), (u 2, .inl (G.2 0, 3, .inl (F 2))), (u 3, .inl (G.2 0, 3, .inl (F 3))), (u 4, .inl (G.2 0, 40, .inl (F 4))), (u 5, .inl (G.2 0, 40, .inl (F 5))), (u 6, .inl (G.2 0, 9, .inl (F 6))), (u 7, .inl (G.2 0, 12, .inl (F 7))), (u 8, .inl (G.2 0, 12, .inl (F 8))), (u 9, .inl (G.2 0, 10, .inl (F 9)))] : va_W) ++ zw_9), rfl, ⟨rfl, zw_9, rfl, A, mc, g, hC⟩, ⟨by rw [ht]; exact hP, hD⟩⟩, hS.F ht⟩) hS.2.2 dL_isTold_759 hlocks)

set_option maxHeartbeats 4000000 in
set_option maxRecDepth 100000 in
theorem visTold_377 {p : Program} {l : Launch} {e : Env} {s : State} {m : MethodId} {below : List Frame} {meth : Method} {c : Code} {G : zG} {d : Nat} {r u : Nat → Nat} {x : Int32} {Aw : Nat → Prop} (hst : l.stackTraces = false) (hx : p.tables.exec = Jvm.exec) (hb : c.code = cL_isTold) (hr : meth.sig.returnType = some .boolean) (hml : c.maxLocals = 14) (hown : s.vm.findClass RL = some m.cls) (hts : ∀ w ∈ wsL_isTold, w.before ([.ref (r 0), .int x, .ref (u 0), .ref (u 2), .ref (u 3), .ref (u 4), .ref (u 6), .ref (u 7), .ref (u 9)] : List Value).toArray s = true) (hlocks : meth.locks = false) (hK : va_K G.1 vwCl (zT G.2) s) (hZ : zCe Aw d s s.heap) (hLx : zLx s) (hA : ∀ q : Nat, s.heap.size ≤ q → Aw q) {A : Nat → Nat} {mc : Nat → Int32} {g : Nat → Nat → Int32} {N : Nat → Nat} {T : Nat → Nat → Int32} {w : va_W} {E : Nat → Int64} {F : Nat → Nat → Int32} {K : Nat} (hC : sCQ G d r A mc g N T w) (hR : sLR N T E F) (hJ : sLJ N T K) (hK5 : K ≤ 400)    {H : Heap} {locs : List Loc} (hP : va_P G.1 vwCl (([(u 0, .inl (G.2 1, 64, .inr (.inl E))), (u 1, .inl (G.2 0, 8, .inl (F 1))), (u 2, .inl (G.2 0, 3, .inl (F 2))), (u 3, .inl (G.2 0, 3, .inl (F 3))), (u 4, .inl (G.2 0, 40, .inl (F 4))), (u 5, .inl (G.2 0, 40, .inl (F 5))), (u 6, .inl (G.2 0, 9, .inl (F 6))), (u 7, .inl (G.2 0, 12, .inl (F 7))), (u 8, .inl (G.2 0, 12, .inl (F 8))), (u 9, .inl (G.2 0, 10, .inl (F 9)))] : va_W) ++ w) H) (hD : va_D Aw (([(u 0, .inl (G.2 1, 64, .inr (.inl E))), (u 1, .inl (G.2 0, 8, .inl (F 1))), (u 2, .inl (G.2 0, 3, .inl (F 2))), (u 3, .inl (G.2 0, 3, .inl (F 3))), (u 4, .inl (G.2 0, 40, .inl (F 4))), (u 5, .inl (G.2 0, 40, .inl (F 5))), (u 6, .inl (G.2 0, 9, .inl (F 6))), (u 7, .inl (G.2 0, 12, .inl (F 7))), (u 8, .inl (G.2 0, 12, .inl (F 8))), (u 9, .inl (G.2 0, 10, .inl (F 9)))] : va_W) ++ w)) (hS : va_S Aw s.heap H locs) {ls : Array Slot} (hl : lv_has ls 14 [(0, .ref (r 0)), (1, .int x), (2, .ref (u 0)), (3, .ref (u 2)), (4, .ref (u 3)), (5, .ref (u 4)), (6, .ref (u 6)), (7, .ref (u 7)), (8, .ref (u 9))]) : W p l e (headSpec wsL_isTold ({ frames := 9, cells := 700, slots := 4200, locals := 158 })).room s m ([.ref (r 0), .int x, .ref (u 0), .ref (u 2), .ref (u 3), .ref (u 4), .ref (u 6), .ref (u 7), .ref (u 9)] : List Value).toArray below meth c H locs 530 3180 (MQ below (va_Qi (fun (r1 : Int32) (wz : va_W) => r1 = 1 ∧ ∃ w2 : va_W, wz = LW G u E F ++ w2 ∧ sCO G d r N T w2) (zB G Aw) Aw) ([.ref (r 0), .int x, .ref (u 0), .ref (u 2), .ref (u 3), .ref (u 4), .ref (u 6), .ref (u 7), .ref (u 9)] : List Value).toArray s 700 4200 Aw) (F0 m 377 ls []) := by
  have hQ := hR.q hJ
  obtain ⟨hg0, hg1, hg2, hg3, hg4, hg5, hg6, hg7, hg8⟩ := hR.2.2.2.2.2.2.2.2.2
  obtain ⟨⟨hb1, hb0, hb3, hb4, hb5⟩, hlv, hlm, hLH⟩ := id hJ.2
  obtain ⟨⟨hi0, hi2, hi3, hi4, hi5, hi6, hi1⟩, hiB, hiE, hiT, hiA, hiA0, hiM, hiK, hiK0, hiX⟩ := id hJ.1.1
  have hLG := hJ.1.2
  have hS0z : va_S Aw s.heap s.heap [] := va_S.rf
  refine lv_aload hx hb dL_isTold_377 (lv_at hl 8 rfl) ?_
  refine lv_bipush (v := 6) hx hb dL_isTold_379 (by decide) ?_
  refine va_iald hx hb hK (z_apL hP) 9 0 rfl rfl (vp_in_nI (n := 6) (by decide) (by decide)) dL_isTold_381 ?_
  refine W.eq (g2 := F0 m 382 ls [.int (nI (N 5))]) (by rw [show (F 9) (6 : Int32).toNatClampNeg = nI (N 5) from hg6]) ?_
  refine lv_if_le (tgt := 533) hx hb dL_isTold_382 (by decide) (fun zc_1 => ?_) (fun zc_1 => ?_)
  · skip
    have zd_1 := Int32.not_lt.mpr zc_1
    exact z_widen (show 530 ≤ 590 by omega) (show 3180 ≤ 3540 by omega) (visTold_533 hst hx hb hr hml hown hts hlocks hK hZ hLx hA hC hR hJ hK5  hP hD hS (lv_sub hl [0, 1, 2, 3, 4, 5, 6, 7, 8] rfl))
  · skip
    have zd_1 := Int32.not_le.mp zc_1
    have hp5 : 0 < N 5 := sLe0n (by omega) zc_1
    refine lv_iload_n hx hb dL_isTold_385 rfl (lv_at hl 1 rfl) ?_
    refine lv_aload hx hb dL_isTold_386 (lv_at hl 8 rfl) ?_
    refine lv_bipush (v := 6) hx hb dL_isTold_388 (by decide) ?_
    refine va_iald hx hb hK (z_apL hP) 9 0 rfl rfl (vp_in_nI (n := 6) (by decide) (by decide)) dL_isTold_390 ?_
    refine W.eq (g2 := F0 m 391 ls [.int (nI (N 5)), .int x]) (by rw [show (F 9) (6 : Int32).toNatClampNeg = nI (N 5) from hg6]) ?_
    refine z_csi (va_Run.run (va_runS (As := [.int x, .int (nI (N 5))]) (rest := []) ⟨hx, hb, hml, hown, hts⟩ (c_L_low l G x (N 5) hp5 (by omega)) (va_cwS 2 hts gL_isTold_L_low rfl rfl rfl (by decide +kernel) ⟨Nat.le_of_ble_eq_true rfl, Nat.le_of_ble_eq_true rfl⟩) (z_ps hK z_none) rfl rfl hl.1 rfl (lv_room (Nat.le_of_ble_eq_true rfl)) dL_isTold_391 ⟨(show 530 + 0 ≤ 700 by omega), (show 3180 + 0 ≤ 4200 by omega)⟩)) (fun zr_2 hzr_2 => ?_)
    obtain ⟨jm, hjm, rfl⟩ := hzr_2
    refine lv_istore (lv' := [(11, .int (nI jm)), (0, .ref (r 0)), (1, .int x), (2, .ref (u 0)), (3, .ref (u 2)), (4, .ref (u 3)), (5, .ref (u 4)), (6, .ref (u 6)), (7, .ref (u 7)), (8, .ref (u 9))]) hx hb dL_isTold_394 hl (by decide) rfl (fun ls hl => ?_)
    obtain ⟨Dm, hXm, hn9m, hF7m⟩ := hR.2.2.2.2.2.2.2.1 jm hjm
    have hGm := (hiM jm hjm).2
    have hrs : rSigns N T jm ≤ 9 := Nat.le_trans sLen_le hn9m
    refine lv_iconst (v := 0) hx hb dL_isTold_396 (by decide) ?_
    refine lv_istore (lv' := [(12, .int 0), (11, .int (nI jm)), (0, .ref (r 0)), (1, .int x), (2, .ref (u 0)), (3, .ref (u 2)), (4, .ref (u 3)), (5, .ref (u 4)), (6, .ref (u 6)), (7, .ref (u 7)), (8, .ref (u 9))]) hx hb dL_isTold_397 hl (by decide) rfl (fun ls hl => ?_)
    have key_399 : ∀ (n i : Nat), i ≤ rSigns N T jm → rSigns N T jm < i + n → ∀ (Hz : Heap) (Lz : List Loc), va_P G.1 vwCl (([(u 0, .inl (G.2 1, 64, .inr (.inl E))), (u 1, .inl (G.2 0, 8, .inl (F 1))), (u 2, .inl (G.2 0, 3, .inl (F 2))), (u 3, .inl (G.2 0, 3, .inl (F 3))), (u 4, .inl (G.2 0, 40, .inl (F 4))), (u 5, .inl (G.2 0, 40, .inl (F 5))), (u 6, .inl (G.2 0, 9, .inl (F 6))), (u 7, .inl (G.2 0, 12, .inl (F 7))), (u 8, .inl (G.2 0, 12, .inl (F 8))), (u 9, .inl (G.2 0, 10, .inl (F 9)))] : va_W) ++ w) Hz → va_D Aw (([(u 0, .inl (G.2 1, 64, .inr (.inl E))), (u 1, .inl (G.2 0, 8, .inl (F 1))), (u 2, .inl (G.2 0, 3, .inl (F 2))), (u 3, .inl (G.2 0, 3, .inl (F 3))), (u 4, .inl (G.2 0, 40, .inl (F 4))), (u 5, .inl (G.2 0, 40, .inl (F 5))), (u 6, .inl (G.2 0, 9, .inl (F 6))), (u 7, .inl (G.2 0, 12, .inl (F 7))), (u 8, .inl (G.2 0, 12, .inl (F 8))), (u 9, .inl (G.2 0, 10, .inl (F 9)))] : va_W) ++ w) → va_S Aw s.heap Hz Lz → ∀ ls : Array Slot, lv_has ls 14 [(0, .ref (r 0)), (1, .int x), (2, .ref (u 0)), (3, .ref (u 2)), (4, .ref (u 3)), (5, .ref (u 4)), (6, .ref (u 6)), (7, .ref (u 7)), (8, .ref (u 9)), (11, .int (nI jm)), (12, .int (nI i))] → W p l e (headSpec wsL_isTold ({ frames := 9, cells := 700, slots := 4200, locals := 158 })).room s m ([.ref (r 0), .int x, .ref (u 0), .ref (u 2), .ref (u 3), .ref (u 4), .ref (u 6), .ref (u 7), .ref (u 9)] : List Value).toArray below meth c Hz Lz (530) (3180) (MQ below (va_Qi (fun (r1 : Int32) (wz : va_W) => r1 = 1 ∧ ∃ w2 : va_W, wz = LW G u E F ++ w2 ∧ sCO G d r N T w2) (zB G Aw) Aw) ([.ref (r 0), .int x, .ref (u 0), .ref (u 2), .ref (u 3), .ref (u 4), .ref (u 6), .ref (u 7), .ref (u 9)] : List Value).toArray s 700 4200 Aw) (F0 m 399 ls []) := by
      intro n
      induction n with
      | zero => intro i hi_a hi_b; exact absurd hi_b (by omega)
      | succ n ih =>
        intro i hil hin    Hz Lz hP hD hS ls hl
        refine lv_aload hx hb dL_isTold_399 (lv_at hl 7 rfl) ?_
        refine lv_iload hx hb dL_isTold_401 (lv_at hl 9 rfl) ?_
        refine va_iald hx hb hK (z_apL hP) 7 0 rfl rfl (by first | assumption | exact vp_in_nI (by omega) (by omega)) dL_isTold_403 ?_
        refine W.eq (g2 := F0 m 404 ls [.int (F 7 jm)]) (by first | (rw [nI_clamp (by omega)]; done) | (rw [nI_clamp (by omega)]; rfl)) ?_
        refine lv_iload hx hb dL_isTold_404 (lv_at hl 10 rfl) ?_
        refine z_csi (va_Run.run (va_runS (As := [.int (F 7 jm), .int (nI i)]) (rest := []) ⟨hx, hb, hml, hown, hts⟩ (c_L_sign l G (F 7 jm) i Dm (T (20 + jm)) (N (20 + jm)) hF7m hXm hn9m hGm (by omega)) (va_cwS 2 hts gL_isTold_L_sign rfl rfl rfl (by decide +kernel) ⟨Nat.le_of_ble_eq_true rfl, Nat.le_of_ble_eq_true rfl⟩) (z_ps hK z_none) rfl rfl hl.1 rfl (lv_room (Nat.le_of_ble_eq_true rfl)) dL_isTold_406 ⟨(show 530 + 0 ≤ 700 by omega), (show 3180 + 0 ≤ 4200 by omega)⟩)) (fun zr_3 hzr_3 => ?_)
        subst hzr_3
        refine lv_if_lt (tgt := 418) hx hb dL_isTold_409 (by decide) (fun zc_4 => ?_) (fun zc_4 => ?_)
        · skip
          have zd_4 := Int32.not_le.mpr zc_4
          have zhc : ¬ i < rSigns N T jm := (sSx_lt hXm hGm).mp zc_4
          have zie : i = rSigns N T jm := by omega
          subst zie
          refine lv_aload_n hx hb dL_isTold_418 rfl (lv_at hl 0 rfl) ?_
          refine lv_iload hx hb dL_isTold_419 (lv_at hl 9 rfl) ?_
          have hkz_421 : sK1 (sIx (nI jm) (N 5)) = 0 := (sK1_ok (sIx_y hjm (by omega)))
          refine z_xR (G := G) (w := w) (c2 := 532) (s2 := 3192) (vx_runSX (hh := [(0, 6, 9, 14)]) (As := [.ref (r 0), .int (nI jm)]) (rest := []) ⟨hx, hb, hml, hown, hts⟩ (h_signs l hst G d r A mc g N T w K (nI jm) Hz.size hC hJ.1.1 (by omega) ) (vx_cwSW 2 hts gL_isTold_L_signs rfl rfl rfl (by decide +kernel) ⟨Nat.le_of_ble_eq_true rfl, Nat.le_of_ble_eq_true rfl⟩) (z_hs hK (z_apR hP) (z_dR hD) hZ hLx hS hA) rfl rfl hl.1 rfl (lv_room (Nat.le_of_ble_eq_true rfl)) dL_isTold_421 ⟨(show 530 + 2 ≤ 700 by omega), (show 3180 + 12 ≤ 4200 by omega)⟩) hP hD hS hA (show 530 + 2 ≤ 532 by omega) (show 3180 + 12 ≤ 3192 by omega) (fun rz_5 zw_5 Hz Lz hq hP hD hS => ?_)
          obtain ⟨hr9, A, mc, g, hC⟩ := hq.1 hkz_421
          rw [hr9]
          refine W.eq (g2 := F0 m 424 ls [.int (nI (rSigns N T jm))]) (by first | (rw [nI_clamp (by omega)]; done) | (rw [nI_clamp (by omega)]; rfl)) ?_
          refine lv_iload hx hb dL_isTold_424 (lv_at hl 10 rfl) ?_
          refine lv_icmp_ne (tgt := 466) hx hb dL_isTold_426 (by decide) (fun zc_6 => absurd rfl zc_6) (fun _ => ?_)
          refine lv_aload_n hx hb dL_isTold_429 rfl (lv_at hl 0 rfl) ?_
          refine lv_iload hx hb dL_isTold_430 (lv_at hl 9 rfl) ?_
          refine lv_iload hx hb dL_isTold_432 (lv_at hl 10 rfl) ?_
          have hkz_434 : sK1 ((sIx (nI jm) (N 5)) && (decide (0 ≤ (nI (rSigns N T jm))))) = 0 := (sK1_ok (sAnd_y (sIx_y hjm (by omega)) (decide_eq_true (nI_pos' (by omega)))))
          refine z_xR (G := G) (w := zw_5) (c2 := 534) (s2 := 3204) (vx_runSX (hh := [(0, 7, 10, 14)]) (As := [.ref (r 0), .int (nI jm), .int (nI (rSigns N T jm))]) (rest := []) ⟨hx, hb, hml, hown, hts⟩ (h_signAt l hst G d r A mc g N T zw_5 K (nI jm) (nI (rSigns N T jm)) Hz.size hC hJ.1.1 (by omega) ) (vx_cwSW 3 hts gL_isTold_L_signAt rfl rfl rfl (by decide +kernel) ⟨Nat.le_of_ble_eq_true rfl, Nat.le_of_ble_eq_true rfl⟩) (z_hs hK (z_apR hP) (z_dR hD) hZ hLx hS hA) rfl rfl hl.1 rfl (lv_room (Nat.le_of_ble_eq_true rfl)) dL_isTold_434 ⟨(show 532 + 2 ≤ 700 by omega), (show 3192 + 12 ≤ 4200 by omega)⟩) hP hD hS hA (show 532 + 2 ≤ 534 by omega) (show 3192 + 12 ≤ 3204 by omega) (fun rz_7 zw_7 Hz Lz hq hP hD hS => ?_)
          obtain ⟨hr9, A, mc, g, hC⟩ := hq.1 hkz_434
          rw [hr9]
          refine W.eq (g2 := F0 m 437 ls [.int (-1)]) (by first | (rw [rSignAt_o (by omega) (Nat.le_refl _) (by omega)]; done) | (rw [rSignAt_o (by omega) (Nat.le_refl _) (by omega)]; rfl)) ?_
          refine lv_iconst (v := (-1)) hx hb dL_isTold_437 (by decide) ?_
          refine lv_icmp_ne (tgt := 466) hx hb dL_isTold_438 (by decide) (fun zc_8 => absurd zc_8 (by decide)) (fun _ => ?_)
          refine lv_aload_n hx hb dL_isTold_441 rfl (lv_at hl 0 rfl) ?_
          refine lv_iload hx hb dL_isTold_442 (lv_at hl 9 rfl) ?_
          refine lv_iload hx hb dL_isTold_444 (lv_at hl 10 rfl) ?_
          have hkz_446 : sK1 ((sIx (nI jm) (N 5)) && (decide (0 ≤ (nI (rSigns N T jm))))) = 0 := (sK1_ok (sAnd_y (sIx_y hjm (by omega)) (decide_eq_true (nI_pos' (by omega)))))
          refine z_xR (G := G) (w := zw_7) (c2 := 536) (s2 := 3216) (vx_runSX (hh := [(0, 7, 10, 14)]) (As := [.ref (r 0), .int (nI jm), .int (nI (rSigns N T jm))]) (rest := []) ⟨hx, hb, hml, hown, hts⟩ (h_signBack l hst G d r A mc g N T zw_7 K (nI jm) (nI (rSigns N T jm)) Hz.size hC hJ.1.1 (by omega) ) (vx_cwSW 3 hts gL_isTold_L_signBack rfl rfl rfl (by decide +kernel) ⟨Nat.le_of_ble_eq_true rfl, Nat.le_of_ble_eq_true rfl⟩) (z_hs hK (z_apR hP) (z_dR hD) hZ hLx hS hA) rfl rfl hl.1 rfl (lv_room (Nat.le_of_ble_eq_true rfl)) dL_isTold_446 ⟨(show 534 + 2 ≤ 700 by omega), (show 3204 + 12 ≤ 4200 by omega)⟩) hP hD hS hA (show 534 + 2 ≤ 536 by omega) (show 3204 + 12 ≤ 3216 by omega) (fun rz_9 zw_9 Hz Lz hq hP hD hS => ?_)
          obtain ⟨hr9, A, mc, g, hC⟩ := hq.1 hkz_446
          rw [hr9]
          refine W.eq (g2 := F0 m 449 ls [.int (-1)]) (by first | (rw [rSignAt_o (by omega) (Nat.le_refl _) (by omega)]; done) | (rw [rSignAt_o (by omega) (Nat.le_refl _) (by omega)]; rfl)) ?_
          refine lv_iconst (v := (-1)) hx hb dL_isTold_449 (by decide) ?_
          refine lv_icmp_ne (tgt := 466) hx hb dL_isTold_450 (by decide) (fun zc_10 => absurd zc_10 (by decide)) (fun _ => ?_)
          refine lv_aload_n hx hb dL_isTold_453 rfl (lv_at hl 0 rfl) ?_
          refine lv_iload hx hb dL_isTold_454 (lv_at hl 9 rfl) ?_
          refine lv_iconst (v := (-1)) hx hb dL_isTold_456 (by decide) ?_
          have hkz_457 : sK1 ((sIx (nI jm) (N 5)) && (decide (0 ≤ (-1 : Int32)))) = 1 := (sK1_1' (sAnd_r (decide_eq_false (by decide))))
          refine z_xR (G := G) (w := zw_9) (c2 := 538) (s2 := 3228) (vx_runSX (hh := [(0, 7, 10, 14)]) (As := [.ref (r 0), .int (nI jm), .int (-1)]) (rest := []) ⟨hx, hb, hml, hown, hts⟩ (h_signBack l hst G d r A mc g N T zw_9 K (nI jm) (-1 : Int32) Hz.size hC hJ.1.1 (by omega) ) (vx_cwSW 3 hts gL_isTold_L_signBack rfl rfl rfl (by decide +kernel) ⟨Nat.le_of_ble_eq_true rfl, Nat.le_of_ble_eq_true rfl⟩) (z_hs hK (z_apR hP) (z_dR hD) hZ hLx hS hA) rfl rfl hl.1 rfl (lv_room (Nat.le_of_ble_eq_true rfl)) dL_isTold_457 ⟨(show 536 + 2 ≤ 700 by omega), (show 3216 + 12 ≤ 4200 by omega)⟩) hP hD hS hA (show 536 + 2 ≤ 538 by omega) (show 3216 + 12 ≤ 3228 by omega) (fun rz_11 zw_11 Hz Lz hq hP hD hS => ?_)
          obtain ⟨hr9, hw9⟩ := hq.2 (by rw [hkz_457]; decide)
          rw [hw9] at hP hD
          rw [hr9, show zCx [-7100] (sK1 ((sIx (nI jm) (N 5)) && (decide (0 ≤ (-1 : Int32))))) = (-7100) from by rw [hkz_457]; rfl]
          refine lv_sipush (v := (-7100)) hx hb dL_isTold_460 (by decide) ?_
          refine lv_icmp_eq (tgt := 468) hx hb dL_isTold_463 (by decide) (fun _ => ?_) (fun zc_12 => absurd zc_12 (by decide))
          refine lv_iconst (v := 0) hx hb dL_isTold_468 (by decide) ?_
          refine lv_istore (lv' := [(13, .int 0), (0, .ref (r 0)), (1, .int x), (2, .ref (u 0)), (3, .ref (u 2)), (4, .ref (u 3)), (5, .ref (u 4)), (6, .ref (u 6)), (7, .ref (u 7)), (8, .ref (u 9)), (11, .int (nI jm)), (12, .int (nI (rSigns N T jm)))]) hx hb dL_isTold_469 hl (by decide) rfl (fun ls hl => ?_)
          have key_471 : ∀ (n i : Nat), i ≤ rSigns N T jm → rSigns N T jm < i + n → ∀ (A : Nat → Nat) (mc : Nat → Int32) (g : Nat → Nat → Int32) (w : va_W), sCQ G d r A mc g N T w → ∀ (Hz : Heap) (Lz : List Loc), va_P G.1 vwCl (([(u 0, .inl (G.2 1, 64, .inr (.inl E))), (u 1, .inl (G.2 0, 8, .inl (F 1))), (u 2, .inl (G.2 0, 3, .inl (F 2))), (u 3, .inl (G.2 0, 3, .inl (F 3))), (u 4, .inl (G.2 0, 40, .inl (F 4))), (u 5, .inl (G.2 0, 40, .inl (F 5))), (u 6, .inl (G.2 0, 9, .inl (F 6))), (u 7, .inl (G.2 0, 12, .inl (F 7))), (u 8, .inl (G.2 0, 12, .inl (F 8))), (u 9, .inl (G.2 0, 10, .inl (F 9)))] : va_W) ++ w) Hz → va_D Aw (([(u 0, .inl (G.2 1, 64, .inr (.inl E))), (u 1, .inl (G.2 0, 8, .inl (F 1))), (u 2, .inl (G.2 0, 3, .inl (F 2))), (u 3, .inl (G.2 0, 3, .inl (F 3))), (u 4, .inl (G.2 0, 40, .inl (F 4))), (u 5, .inl (G.2 0, 40, .inl (F 5))), (u 6, .inl (G.2 0, 9, .inl (F 6))), (u 7, .inl (G.2 0, 12, .inl (F 7))), (u 8, .inl (G.2 0, 12, .inl (F 8))), (u 9, .inl (G.2 0, 10, .inl (F 9)))] : va_W) ++ w) → va_S Aw s.heap Hz Lz → ∀ ls : Array Slot, lv_has ls 14 [(0, .ref (r 0)), (1, .int x), (2, .ref (u 0)), (3, .ref (u 2)), (4, .ref (u 3)), (5, .ref (u 4)), (6, .ref (u 6)), (7, .ref (u 7)), (8, .ref (u 9)), (11, .int (nI jm)), (12, .int (nI (rSigns N T jm))), (13, .int (nI i))] → W p l e (headSpec wsL_isTold ({ frames := 9, cells := 700, slots := 4200, locals := 158 })).room s m ([.ref (r 0), .int x, .ref (u 0), .ref (u 2), .ref (u 3), .ref (u 4), .ref (u 6), .ref (u 7), .ref (u 9)] : List Value).toArray below meth c Hz Lz (538 + 4 * i) (3228 + 24 * i) (MQ below (va_Qi (fun (r1 : Int32) (wz : va_W) => r1 = 1 ∧ ∃ w2 : va_W, wz = LW G u E F ++ w2 ∧ sCO G d r N T w2) (zB G Aw) Aw) ([.ref (r 0), .int x, .ref (u 0), .ref (u 2), .ref (u 3), .ref (u 4), .ref (u 6), .ref (u 7), .ref (u 9)] : List Value).toArray s 700 4200 Aw) (F0 m 471 ls []) := by
            intro n
            induction n with
            | zero => intro i hi_a hi_b; exact absurd hi_b (by omega)
            | succ n ih =>
              intro i hil hin   A mc g w hC Hz Lz hP hD hS ls hl
              refine lv_iload hx hb dL_isTold_471 (lv_at hl 11 rfl) ?_
              refine lv_iload hx hb dL_isTold_473 (lv_at hl 10 rfl) ?_
              refine lv_icmp_ge (tgt := 533) hx hb dL_isTold_475 (by decide) (fun zc_13 => ?_) (fun zc_13 => ?_)
              · skip
                have zd_13 := Int32.not_lt.mpr zc_13
                have zhc := (nI_leI (by omega) (by omega)).mp zc_13
                have zie := Nat.le_antisymm hil zhc
                subst zie
                exact z_widen (show 538 + 4 * (rSigns N T jm) ≤ 590 by omega) (show 3228 + 24 * (rSigns N T jm) ≤ 3540 by omega) (visTold_533 hst hx hb hr hml hown hts hlocks hK hZ hLx hA hC hR hJ hK5  hP hD hS (lv_sub hl [0, 1, 2, 3, 4, 5, 6, 7, 8] rfl))
              · skip
                have zd_13 := Int32.not_le.mp zc_13
                have zhc := Nat.lt_of_not_le (fun z => zc_13 ((nI_leI (by omega) (by omega)).mpr z))
                have hlt : i < rSigns N T jm := zhc
                refine lv_aload_n hx hb dL_isTold_478 rfl (lv_at hl 0 rfl) ?_
                refine lv_iload hx hb dL_isTold_479 (lv_at hl 9 rfl) ?_
                refine lv_iload hx hb dL_isTold_481 (lv_at hl 11 rfl) ?_
                have hkz_483 : sK1 ((sIx (nI jm) (N 5)) && (decide (0 ≤ (nI i)))) = 0 := (sK1_ok (sAnd_y (sIx_y hjm (by omega)) (decide_eq_true (nI_pos' (by omega)))))
                refine z_xR (G := G) (w := w) (c2 := 540 + 4 * i) (s2 := 3240 + 24 * i) (vx_runSX (hh := [(0, 7, 10, 14)]) (As := [.ref (r 0), .int (nI jm), .int (nI i)]) (rest := []) ⟨hx, hb, hml, hown, hts⟩ (h_signAt l hst G d r A mc g N T w K (nI jm) (nI i) Hz.size hC hJ.1.1 (by omega) ) (vx_cwSW 3 hts gL_isTold_L_signAt rfl rfl rfl (by decide +kernel) ⟨Nat.le_of_ble_eq_true rfl, Nat.le_of_ble_eq_true rfl⟩) (z_hs hK (z_apR hP) (z_dR hD) hZ hLx hS hA) rfl rfl hl.1 rfl (lv_room (Nat.le_of_ble_eq_true rfl)) dL_isTold_483 ⟨(show 538 + 4 * i + 2 ≤ 700 by omega), (show 3228 + 24 * i + 12 ≤ 4200 by omega)⟩) hP hD hS hA (show 538 + 4 * i + 2 ≤ 540 + 4 * i by omega) (show 3228 + 24 * i + 12 ≤ 3240 + 24 * i by omega) (fun rz_14 zw_14 Hz Lz hq hP hD hS => ?_)
                obtain ⟨hr9, A, mc, g, hC⟩ := hq.1 hkz_483
                rw [hr9]
                refine W.eq (g2 := F0 m 486 ls [.int (sSx (T (20 + jm)) (N (20 + jm)) i)]) (by first | (rw [rSignAt_i (by omega) hlt (by omega)]; done) | (rw [rSignAt_i (by omega) hlt (by omega)]; rfl)) ?_
                refine lv_aload hx hb dL_isTold_486 (lv_at hl 7 rfl) ?_
                refine lv_iload hx hb dL_isTold_488 (lv_at hl 9 rfl) ?_
                refine va_iald hx hb hK (z_apL hP) 7 0 rfl rfl (by first | assumption | exact vp_in_nI (by omega) (by omega)) dL_isTold_490 ?_
                refine W.eq (g2 := F0 m 491 ls [.int (F 7 jm), .int (sSx (T (20 + jm)) (N (20 + jm)) i)]) (by first | (rw [nI_clamp (by omega)]; done) | (rw [nI_clamp (by omega)]; rfl)) ?_
                refine lv_iload hx hb dL_isTold_491 (lv_at hl 11 rfl) ?_
                refine z_csi (va_Run.run (va_runS (As := [.int (F 7 jm), .int (nI i)]) (rest := [.int (sSx (T (20 + jm)) (N (20 + jm)) i)]) ⟨hx, hb, hml, hown, hts⟩ (c_L_sign l G (F 7 jm) i Dm (T (20 + jm)) (N (20 + jm)) hF7m hXm hn9m hGm (by omega)) (va_cwS 2 hts gL_isTold_L_sign rfl rfl rfl (by decide +kernel) ⟨Nat.le_of_ble_eq_true rfl, Nat.le_of_ble_eq_true rfl⟩) (z_ps hK z_none) rfl rfl hl.1 rfl (lv_room (Nat.le_of_ble_eq_true rfl)) dL_isTold_493 ⟨(show 540 + 4 * i + 0 ≤ 700 by omega), (show 3240 + 24 * i + 0 ≤ 4200 by omega)⟩)) (fun zr_15 hzr_15 => ?_)
                subst hzr_15
                refine lv_icmp_ne (tgt := 525) hx hb dL_isTold_496 (by decide) (fun zc_16 => absurd rfl zc_16) (fun _ => ?_)
                refine lv_aload_n hx hb dL_isTold_499 rfl (lv_at hl 0 rfl) ?_
                refine lv_iload hx hb dL_isTold_500 (lv_at hl 9 rfl) ?_
                refine lv_iload hx hb dL_isTold_502 (lv_at hl 10 rfl) ?_
                refine lv_iconst (v := 1) hx hb dL_isTold_504 (by decide) ?_
                refine lv_isub hx hb dL_isTold_505 ?_
                refine lv_iload hx hb dL_isTold_506 (lv_at hl 11 rfl) ?_
                refine lv_isub hx hb dL_isTold_508 ?_
                refine W.eq (g2 := F0 m 509 ls [.int (nI (rSigns N T jm - 1 - i)), .int (nI jm), .ref (r 0)]) (by first | (rw [sBackI hlt]; done) | (rw [sBackI hlt]; rfl)) ?_
                have hkz_509 : sK1 ((sIx (nI jm) (N 5)) && (decide (0 ≤ (nI (rSigns N T jm - 1 - i))))) = 0 := (sK1_ok (sAnd_y (sIx_y hjm (by omega)) (decide_eq_true (nI_pos' (by omega)))))
                refine z_xR (G := G) (w := zw_14) (c2 := 542 + 4 * i) (s2 := 3252 + 24 * i) (vx_runSX (hh := [(0, 7, 10, 14)]) (As := [.ref (r 0), .int (nI jm), .int (nI (rSigns N T jm - 1 - i))]) (rest := []) ⟨hx, hb, hml, hown, hts⟩ (h_signBack l hst G d r A mc g N T zw_14 K (nI jm) (nI (rSigns N T jm - 1 - i)) Hz.size hC hJ.1.1 (by omega) ) (vx_cwSW 3 hts gL_isTold_L_signBack rfl rfl rfl (by decide +kernel) ⟨Nat.le_of_ble_eq_true rfl, Nat.le_of_ble_eq_true rfl⟩) (z_hs hK (z_apR hP) (z_dR hD) hZ hLx hS hA) rfl rfl hl.1 rfl (lv_room (Nat.le_of_ble_eq_true rfl)) dL_isTold_509 ⟨(show 540 + 4 * i + 2 ≤ 700 by omega), (show 3240 + 24 * i + 12 ≤ 4200 by omega)⟩) hP hD hS hA (show 540 + 4 * i + 2 ≤ 542 + 4 * i by omega) (show 3240 + 24 * i + 12 ≤ 3252 + 24 * i by omega) (fun rz_17 zw_17 Hz Lz hq hP hD hS => ?_)
                obtain ⟨hr9, A, mc, g, hC⟩ := hq.1 hkz_509
                rw [hr9]
                refine W.eq (g2 := F0 m 512 ls [.int (sSx (T (20 + jm)) (N (20 + jm)) i)]) (by first | (rw [rSignAt_b (by omega) hlt (by omega)]; done) | (rw [rSignAt_b (by omega) hlt (by omega)]; rfl)) ?_
                refine lv_aload hx hb dL_isTold_512 (lv_at hl 7 rfl) ?_
                refine lv_iload hx hb dL_isTold_514 (lv_at hl 9 rfl) ?_
                refine va_iald hx hb hK (z_apL hP) 7 0 rfl rfl (by first | assumption | exact vp_in_nI (by omega) (by omega)) dL_isTold_516 ?_
                refine W.eq (g2 := F0 m 517 ls [.int (F 7 jm), .int (sSx (T (20 + jm)) (N (20 + jm)) i)]) (by first | (rw [nI_clamp (by omega)]; done) | (rw [nI_clamp (by omega)]; rfl)) ?_
                refine lv_iload hx hb dL_isTold_517 (lv_at hl 11 rfl) ?_
                refine z_csi (va_Run.run (va_runS (As := [.int (F 7 jm), .int (nI i)]) (rest := [.int (sSx (T (20 + jm)) (N (20 + jm)) i)]) ⟨hx, hb, hml, hown, hts⟩ (c_L_sign l G (F 7 jm) i Dm (T (20 + jm)) (N (20 + jm)) hF7m hXm hn9m hGm (by omega)) (va_cwS 2 hts gL_isTold_L_sign rfl rfl rfl (by decide +kernel) ⟨Nat.le_of_ble_eq_true rfl, Nat.le_of_ble_eq_true rfl⟩) (z_ps hK z_none) rfl rfl hl.1 rfl (lv_room (Nat.le_of_ble_eq_true rfl)) dL_isTold_519 ⟨(show 542 + 4 * i + 0 ≤ 700 by omega), (show 3252 + 24 * i + 0 ≤ 4200 by omega)⟩)) (fun zr_18 hzr_18 => ?_)
                subst hzr_18
                refine lv_icmp_eq (tgt := 527) hx hb dL_isTold_522 (by decide) (fun _ => ?_) (fun zc_19 => absurd rfl zc_19)
                refine lv_iinc (v := (nI (i + 1))) (lv' := [(13, .int (nI (i + 1))), (0, .ref (r 0)), (1, .int x), (2, .ref (u 0)), (3, .ref (u 2)), (4, .ref (u 3)), (5, .ref (u 4)), (6, .ref (u 6)), (7, .ref (u 7)), (8, .ref (u 9)), (11, .int (nI jm)), (12, .int (nI (rSigns N T jm)))]) hx hb dL_isTold_527 hl (k := 11) rfl (by first | exact nI_1 _ | rfl) (by decide) rfl (fun ls hl => ?_)
                refine lv_goto (tgt := 471) hx hb dL_isTold_530 (by decide) ?_
                have hl2 := lv_sub (l' := [(0, .ref (r 0)), (1, .int x), (2, .ref (u 0)), (3, .ref (u 2)), (4, .ref (u 3)), (5, .ref (u 4)), (6, .ref (u 6)), (7, .ref (u 7)), (8, .ref (u 9)), (11, .int (nI jm)), (12, .int (nI (rSigns N T jm))), (13, .int (nI (i + 1)))]) hl [1, 2, 3, 4, 5, 6, 7, 8, 9, 10, 11, 0] rfl
                exact z_widen (show 542 + 4 * i ≤ 538 + 4 * (i + 1) by omega) (show 3252 + 24 * i ≤ 3228 + 24 * (i + 1) by omega) (ih (i + 1) (by omega) (by omega)  A mc g _ hC _ _ hP hD hS ls hl2)
          exact z_widen (show 538 ≤ 538 + 4 * 0 by omega) (show 3228 ≤ 3228 + 24 * 0 by omega) (key_471 (rSigns N T jm + 1) 0 (Nat.zero_le _) (by omega)  A mc g _ hC _ _ hP hD hS ls (lv_sub hl [1, 2, 3, 4, 5, 6, 7, 8, 9, 10, 11, 0] rfl))
        · skip
          have zd_4 := Int32.not_lt.mp zc_4
          have hlt : i < rSigns N T jm := Decidable.byContradiction (fun z => zc_4 ((sSx_lt hXm hGm).mpr z))
          refine lv_iinc (v := (nI (i + 1))) (lv' := [(12, .int (nI (i + 1))), (0, .ref (r 0)), (1, .int x), (2, .ref (u 0)), (3, .ref (u 2)), (4, .ref (u 3)), (5, .ref (u 4)), (6, .ref (u 6)), (7, .ref (u 7)), (8, .ref (u 9)), (11, .int (nI jm))]) hx hb dL_isTold_412 hl (k := 10) rfl (by first | exact nI_1 _ | rfl) (by decide) rfl (fun ls hl => ?_)
          refine lv_goto (tgt := 399) hx hb dL_isTold_415 (by decide) ?_
          have hl2 := lv_sub (l' := [(0, .ref (r 0)), (1, .int x), (2, .ref (u 0)), (3, .ref (u 2)), (4, .ref (u 3)), (5, .ref (u 4)), (6, .ref (u 6)), (7, .ref (u 7)), (8, .ref (u 9)), (11, .int (nI jm)), (12, .int (nI (i + 1)))]) hl [1, 2, 3, 4, 5, 6, 7, 8, 9, 10, 0] rfl
          exact z_widen (show 530 ≤ 530 by omega) (show 3180 ≤ 3180 by omega) (ih (i + 1) (by omega) (by omega)   _ _ hP hD hS ls hl2)
    exact z_widen (show 530 ≤ 530 by omega) (show 3180 ≤ 3180 by omega) (key_399 (rSigns N T jm + 1) 0 (Nat.zero_le _) (by omega)   _ _ hP hD hS ls (lv_sub hl [2, 3, 4, 5, 6, 7, 8, 9, 10, 1, 0] rfl))

set_option maxHeartbeats 4000000 in
set_option maxRecDepth 100000 in
theorem visTold_339 {p : Program} {l : Launch} {e : Env} {s : State} {m : MethodId} {below : List Frame} {meth : Method} {c : Code} {G : zG} {d : Nat} {r u : Nat → Nat} {x : Int32} {Aw : Nat → Prop} (hst : l.stackTraces = false) (hx : p.tables.exec = Jvm.exec) (hb : c.code = cL_isTold) (hr : meth.sig.returnType = some .boolean) (hml : c.maxLocals = 14) (hown : s.vm.findClass RL = some m.cls) (hts : ∀ w ∈ wsL_isTold, w.before ([.ref (r 0), .int x, .ref (u 0), .ref (u 2), .ref (u 3), .ref (u 4), .ref (u 6), .ref (u 7), .ref (u 9)] : List Value).toArray s = true) (hlocks : meth.locks = false) (hK : va_K G.1 vwCl (zT G.2) s) (hZ : zCe Aw d s s.heap) (hLx : zLx s) (hA : ∀ q : Nat, s.heap.size ≤ q → Aw q) {A : Nat → Nat} {mc : Nat → Int32} {g : Nat → Nat → Int32} {N : Nat → Nat} {T : Nat → Nat → Int32} {w : va_W} {E : Nat → Int64} {F : Nat → Nat → Int32} {K : Nat} (hC : sCQ G d r A mc g N T w) (hR : sLR N T E F) (hJ : sLJ N T K) (hK5 : K ≤ 400)    {H : Heap} {locs : List Loc} (hP : va_P G.1 vwCl (([(u 0, .inl (G.2 1, 64, .inr (.inl E))), (u 1, .inl (G.2 0, 8, .inl (F 1))), (u 2, .inl (G.2 0, 3, .inl (F 2))), (u 3, .inl (G.2 0, 3, .inl (F 3))), (u 4, .inl (G.2 0, 40, .inl (F 4))), (u 5, .inl (G.2 0, 40, .inl (F 5))), (u 6, .inl (G.2 0, 9, .inl (F 6))), (u 7, .inl (G.2 0, 12, .inl (F 7))), (u 8, .inl (G.2 0, 12, .inl (F 8))), (u 9, .inl (G.2 0, 10, .inl (F 9)))] : va_W) ++ w) H) (hD : va_D Aw (([(u 0, .inl (G.2 1, 64, .inr (.inl E))), (u 1, .inl (G.2 0, 8, .inl (F 1))), (u 2, .inl (G.2 0, 3, .inl (F 2))), (u 3, .inl (G.2 0, 3, .inl (F 3))), (u 4, .inl (G.2 0, 40, .inl (F 4))), (u 5, .inl (G.2 0, 40, .inl (F 5))), (u 6, .inl (G.2 0, 9, .inl (F 6))), (u 7, .inl (G.2 0, 12, .inl (F 7))), (u 8, .inl (G.2 0, 12, .inl (F 8))), (u 9, .inl (G.2 0, 10, .inl (F 9)))] : va_W) ++ w)) (hS : va_S Aw s.heap H locs) {ls : Array Slot} (hl : lv_has ls 14 [(0, .ref (r 0)), (1, .int x), (2, .ref (u 0)), (3, .ref (u 2)), (4, .ref (u 3)), (5, .ref (u 4)), (6, .ref (u 6)), (7, .ref (u 7)), (8, .ref (u 9))]) : W p l e (headSpec wsL_isTold ({ frames := 9, cells := 700, slots := 4200, locals := 158 })).room s m ([.ref (r 0), .int x, .ref (u 0), .ref (u 2), .ref (u 3), .ref (u 4), .ref (u 6), .ref (u 7), .ref (u 9)] : List Value).toArray below meth c H locs 500 3000 (MQ below (va_Qi (fun (r1 : Int32) (wz : va_W) => r1 = 1 ∧ ∃ w2 : va_W, wz = LW G u E F ++ w2 ∧ sCO G d r N T w2) (zB G Aw) Aw) ([.ref (r 0), .int x, .ref (u 0), .ref (u 2), .ref (u 3), .ref (u 4), .ref (u 6), .ref (u 7), .ref (u 9)] : List Value).toArray s 700 4200 Aw) (F0 m 339 ls []) := by
  have hQ := hR.q hJ
  obtain ⟨hg0, hg1, hg2, hg3, hg4, hg5, hg6, hg7, hg8⟩ := hR.2.2.2.2.2.2.2.2.2
  obtain ⟨⟨hb1, hb0, hb3, hb4, hb5⟩, hlv, hlm, hLH⟩ := id hJ.2
  obtain ⟨⟨hi0, hi2, hi3, hi4, hi5, hi6, hi1⟩, hiB, hiE, hiT, hiA, hiA0, hiM, hiK, hiK0, hiX⟩ := id hJ.1.1
  have hLG := hJ.1.2
  have hS0z : va_S Aw s.heap s.heap [] := va_S.rf
  refine lv_iconst (v := 0) hx hb dL_isTold_339 (by decide) ?_
  refine lv_istore (lv' := [(11, .int 0), (0, .ref (r 0)), (1, .int x), (2, .ref (u 0)), (3, .ref (u 2)), (4, .ref (u 3)), (5, .ref (u 4)), (6, .ref (u 6)), (7, .ref (u 7)), (8, .ref (u 9))]) hx hb dL_isTold_340 hl (by decide) rfl (fun ls hl => ?_)
  have key_342 : ∀ (n i : Nat), i ≤ N 6 → N 6 < i + n → ∀ (A : Nat → Nat) (mc : Nat → Int32) (g : Nat → Nat → Int32) (w : va_W), sCQ G d r A mc g N T w → ∀ (Hz : Heap) (Lz : List Loc), va_P G.1 vwCl (([(u 0, .inl (G.2 1, 64, .inr (.inl E))), (u 1, .inl (G.2 0, 8, .inl (F 1))), (u 2, .inl (G.2 0, 3, .inl (F 2))), (u 3, .inl (G.2 0, 3, .inl (F 3))), (u 4, .inl (G.2 0, 40, .inl (F 4))), (u 5, .inl (G.2 0, 40, .inl (F 5))), (u 6, .inl (G.2 0, 9, .inl (F 6))), (u 7, .inl (G.2 0, 12, .inl (F 7))), (u 8, .inl (G.2 0, 12, .inl (F 8))), (u 9, .inl (G.2 0, 10, .inl (F 9)))] : va_W) ++ w) Hz → va_D Aw (([(u 0, .inl (G.2 1, 64, .inr (.inl E))), (u 1, .inl (G.2 0, 8, .inl (F 1))), (u 2, .inl (G.2 0, 3, .inl (F 2))), (u 3, .inl (G.2 0, 3, .inl (F 3))), (u 4, .inl (G.2 0, 40, .inl (F 4))), (u 5, .inl (G.2 0, 40, .inl (F 5))), (u 6, .inl (G.2 0, 9, .inl (F 6))), (u 7, .inl (G.2 0, 12, .inl (F 7))), (u 8, .inl (G.2 0, 12, .inl (F 8))), (u 9, .inl (G.2 0, 10, .inl (F 9)))] : va_W) ++ w) → va_S Aw s.heap Hz Lz → ∀ ls : Array Slot, lv_has ls 14 [(0, .ref (r 0)), (1, .int x), (2, .ref (u 0)), (3, .ref (u 2)), (4, .ref (u 3)), (5, .ref (u 4)), (6, .ref (u 6)), (7, .ref (u 7)), (8, .ref (u 9)), (11, .int (nI i))] → W p l e (headSpec wsL_isTold ({ frames := 9, cells := 700, slots := 4200, locals := 158 })).room s m ([.ref (r 0), .int x, .ref (u 0), .ref (u 2), .ref (u 3), .ref (u 4), .ref (u 6), .ref (u 7), .ref (u 9)] : List Value).toArray below meth c Hz Lz (500 + 2 * i) (3000 + 12 * i) (MQ below (va_Qi (fun (r1 : Int32) (wz : va_W) => r1 = 1 ∧ ∃ w2 : va_W, wz = LW G u E F ++ w2 ∧ sCO G d r N T w2) (zB G Aw) Aw) ([.ref (r 0), .int x, .ref (u 0), .ref (u 2), .ref (u 3), .ref (u 4), .ref (u 6), .ref (u 7), .ref (u 9)] : List Value).toArray s 700 4200 Aw) (F0 m 342 ls []) := by
    intro n
    induction n with
    | zero => intro i hi_a hi_b; exact absurd hi_b (by omega)
    | succ n ih =>
      intro i hil hin   A mc g w hC Hz Lz hP hD hS ls hl
      refine lv_iload hx hb dL_isTold_342 (lv_at hl 9 rfl) ?_
      refine lv_aload hx hb dL_isTold_344 (lv_at hl 8 rfl) ?_
      refine lv_bipush (v := 7) hx hb dL_isTold_346 (by decide) ?_
      refine va_iald hx hb hK (z_apL hP) 9 0 rfl rfl (vp_in_nI (n := 7) (by decide) (by decide)) dL_isTold_348 ?_
      refine W.eq (g2 := F0 m 349 ls [.int (nI (N 6)), .int (nI i)]) (by rw [show (F 9) (7 : Int32).toNatClampNeg = nI (N 6) from hg7]) ?_
      refine lv_icmp_ge (tgt := 377) hx hb dL_isTold_349 (by decide) (fun zc_1 => ?_) (fun zc_1 => ?_)
      · skip
        have zd_1 := Int32.not_lt.mpr zc_1
        have zhc := (nI_leI (by omega) (by omega)).mp zc_1
        have zie := Nat.le_antisymm hil zhc
        subst zie
        exact z_widen (show 500 + 2 * (N 6) ≤ 530 by omega) (show 3000 + 12 * (N 6) ≤ 3180 by omega) (visTold_377 hst hx hb hr hml hown hts hlocks hK hZ hLx hA hC hR hJ hK5  hP hD hS (lv_sub hl [0, 1, 2, 3, 4, 5, 6, 7, 8] rfl))
      · skip
        have zd_1 := Int32.not_le.mp zc_1
        have zhc := Nat.lt_of_not_le (fun z => zc_1 ((nI_leI (by omega) (by omega)).mpr z))
        have hlt : i < N 6 := zhc
        refine lv_aload_n hx hb dL_isTold_352 rfl (lv_at hl 0 rfl) ?_
        refine lv_iload hx hb dL_isTold_353 (lv_at hl 9 rfl) ?_
        have hkz_355 : sK1 (sIx (nI i) (N 6)) = 0 := (sK1_ok (sIx_y (by omega) (by omega)))
        refine z_xR (G := G) (w := w) (c2 := 502 + 2 * i) (s2 := 3012 + 12 * i) (vx_runSX (hh := [(0, 6, 9, 14)]) (As := [.ref (r 0), .int (nI i)]) (rest := []) ⟨hx, hb, hml, hown, hts⟩ (h_taskOf l hst G d r A mc g N T w K (nI i) Hz.size hC hJ.1.1 (by omega) ) (vx_cwSW 2 hts gL_isTold_L_taskOf rfl rfl rfl (by decide +kernel) ⟨Nat.le_of_ble_eq_true rfl, Nat.le_of_ble_eq_true rfl⟩) (z_hs hK (z_apR hP) (z_dR hD) hZ hLx hS hA) rfl rfl hl.1 rfl (lv_room (Nat.le_of_ble_eq_true rfl)) dL_isTold_355 ⟨(show 500 + 2 * i + 2 ≤ 700 by omega), (show 3000 + 12 * i + 12 ≤ 4200 by omega)⟩) hP hD hS hA (show 500 + 2 * i + 2 ≤ 502 + 2 * i by omega) (show 3000 + 12 * i + 12 ≤ 3012 + 12 * i by omega) (fun rz_2 zw_2 Hz Lz hq hP hD hS => ?_)
        obtain ⟨hr9, A, mc, g, hC⟩ := hq.1 hkz_355
        rw [hr9]
        refine lv_aload_n hx hb dL_isTold_358 rfl (lv_at hl 2 rfl) ?_
        refine lv_aload hx hb dL_isTold_359 (lv_at hl 8 rfl) ?_
        refine lv_iload hx hb dL_isTold_361 (lv_at hl 9 rfl) ?_
        refine z_csi (va_Run.run (va_runS (As := [.ref (u 0), .ref (u 9), .int (nI i)]) (rest := [.int (T 18 (nI i).toNatClampNeg)]) ⟨hx, hb, hml, hown, hts⟩ (c_L_task l G u E F N T (nI i) hQ (vp_in_nI (by omega) (by omega))) (va_cwS 3 hts gL_isTold_L_task rfl rfl rfl (by decide +kernel) ⟨Nat.le_of_ble_eq_true rfl, Nat.le_of_ble_eq_true rfl⟩) (z_ps hK (z_apL hP)) rfl rfl hl.1 rfl (lv_room (Nat.le_of_ble_eq_true rfl)) dL_isTold_363 ⟨(show 502 + 2 * i + 0 ≤ 700 by omega), (show 3012 + 12 * i + 0 ≤ 4200 by omega)⟩)) (fun zr_3 hzr_3 => ?_)
        subst hzr_3
        refine lv_icmp_eq (tgt := 371) hx hb dL_isTold_366 (by decide) (fun _ => ?_) (fun zc_4 => absurd rfl zc_4)
        refine lv_iinc (v := (nI (i + 1))) (lv' := [(11, .int (nI (i + 1))), (0, .ref (r 0)), (1, .int x), (2, .ref (u 0)), (3, .ref (u 2)), (4, .ref (u 3)), (5, .ref (u 4)), (6, .ref (u 6)), (7, .ref (u 7)), (8, .ref (u 9))]) hx hb dL_isTold_371 hl (k := 9) rfl (by first | exact nI_1 _ | rfl) (by decide) rfl (fun ls hl => ?_)
        refine lv_goto (tgt := 342) hx hb dL_isTold_374 (by decide) ?_
        have hl2 := lv_sub (l' := [(0, .ref (r 0)), (1, .int x), (2, .ref (u 0)), (3, .ref (u 2)), (4, .ref (u 3)), (5, .ref (u 4)), (6, .ref (u 6)), (7, .ref (u 7)), (8, .ref (u 9)), (11, .int (nI (i + 1)))]) hl [1, 2, 3, 4, 5, 6, 7, 8, 9, 0] rfl
        exact z_widen (show 502 + 2 * i ≤ 500 + 2 * (i + 1) by omega) (show 3012 + 12 * i ≤ 3000 + 12 * (i + 1) by omega) (ih (i + 1) (by omega) (by omega)  A mc g _ hC _ _ hP hD hS ls hl2)
  exact z_widen (show 500 ≤ 500 + 2 * 0 by omega) (show 3000 ≤ 3000 + 12 * 0 by omega) (key_342 (N 6 + 1) 0 (Nat.zero_le _) (by omega)  A mc g _ hC _ _ hP hD hS ls (lv_sub hl [1, 2, 3, 4, 5, 6, 7, 8, 9, 0] rfl))

set_option maxHeartbeats 4000000 in
set_option maxRecDepth 100000 in
theorem visTold_252 {p : Program} {l : Launch} {e : Env} {s : State} {m : MethodId} {below : List Frame} {meth : Method} {c : Code} {G : zG} {d : Nat} {r u : Nat → Nat} {x : Int32} {Aw : Nat → Prop} (hst : l.stackTraces = false) (hx : p.tables.exec = Jvm.exec) (hb : c.code = cL_isTold) (hr : meth.sig.returnType = some .boolean) (hml : c.maxLocals = 14) (hown : s.vm.findClass RL = some m.cls) (hts : ∀ w ∈ wsL_isTold, w.before ([.ref (r 0), .int x, .ref (u 0), .ref (u 2), .ref (u 3), .ref (u 4), .ref (u 6), .ref (u 7), .ref (u 9)] : List Value).toArray s = true) (hlocks : meth.locks = false) (hK : va_K G.1 vwCl (zT G.2) s) (hZ : zCe Aw d s s.heap) (hLx : zLx s) (hA : ∀ q : Nat, s.heap.size ≤ q → Aw q) {A : Nat → Nat} {mc : Nat → Int32} {g : Nat → Nat → Int32} {N : Nat → Nat} {T : Nat → Nat → Int32} {w : va_W} {E : Nat → Int64} {F : Nat → Nat → Int32} {K : Nat} (hC : sCQ G d r A mc g N T w) (hR : sLR N T E F) (hJ : sLJ N T K) (hK5 : K ≤ 400)    {H : Heap} {locs : List Loc} (hP : va_P G.1 vwCl (([(u 0, .inl (G.2 1, 64, .inr (.inl E))), (u 1, .inl (G.2 0, 8, .inl (F 1))), (u 2, .inl (G.2 0, 3, .inl (F 2))), (u 3, .inl (G.2 0, 3, .inl (F 3))), (u 4, .inl (G.2 0, 40, .inl (F 4))), (u 5, .inl (G.2 0, 40, .inl (F 5))), (u 6, .inl (G.2 0, 9, .inl (F 6))), (u 7, .inl (G.2 0, 12, .inl (F 7))), (u 8, .inl (G.2 0, 12, .inl (F 8))), (u 9, .inl (G.2 0, 10, .inl (F 9)))] : va_W) ++ w) H) (hD : va_D Aw (([(u 0, .inl (G.2 1, 64, .inr (.inl E))), (u 1, .inl (G.2 0, 8, .inl (F 1))), (u 2, .inl (G.2 0, 3, .inl (F 2))), (u 3, .inl (G.2 0, 3, .inl (F 3))), (u 4, .inl (G.2 0, 40, .inl (F 4))), (u 5, .inl (G.2 0, 40, .inl (F 5))), (u 6, .inl (G.2 0, 9, .inl (F 6))), (u 7, .inl (G.2 0, 12, .inl (F 7))), (u 8, .inl (G.2 0, 12, .inl (F 8))), (u 9, .inl (G.2 0, 10, .inl (F 9)))] : va_W) ++ w)) (hS : va_S Aw s.heap H locs) {ls : Array Slot} (hl : lv_has ls 14 [(0, .ref (r 0)), (1, .int x), (2, .ref (u 0)), (3, .ref (u 2)), (4, .ref (u 3)), (5, .ref (u 4)), (6, .ref (u 6)), (7, .ref (u 7)), (8, .ref (u 9))]) : W p l e (headSpec wsL_isTold ({ frames := 9, cells := 700, slots := 4200, locals := 158 })).room s m ([.ref (r 0), .int x, .ref (u 0), .ref (u 2), .ref (u 3), .ref (u 4), .ref (u 6), .ref (u 7), .ref (u 9)] : List Value).toArray below meth c H locs 330 1980 (MQ below (va_Qi (fun (r1 : Int32) (wz : va_W) => r1 = 1 ∧ ∃ w2 : va_W, wz = LW G u E F ++ w2 ∧ sCO G d r N T w2) (zB G Aw) Aw) ([.ref (r 0), .int x, .ref (u 0), .ref (u 2), .ref (u 3), .ref (u 4), .ref (u 6), .ref (u 7), .ref (u 9)] : List Value).toArray s 700 4200 Aw) (F0 m 252 ls []) := by
  have hQ := hR.q hJ
  obtain ⟨hg0, hg1, hg2, hg3, hg4, hg5, hg6, hg7, hg8⟩ := hR.2.2.2.2.2.2.2.2.2
  obtain ⟨⟨hb1, hb0, hb3, hb4, hb5⟩, hlv, hlm, hLH⟩ := id hJ.2
  obtain ⟨⟨hi0, hi2, hi3, hi4, hi5, hi6, hi1⟩, hiB, hiE, hiT, hiA, hiA0, hiM, hiK, hiK0, hiX⟩ := id hJ.1.1
  have hLG := hJ.1.2
  have hS0z : va_S Aw s.heap s.heap [] := va_S.rf
  refine lv_iconst (v := 0) hx hb dL_isTold_252 (by decide) ?_
  refine lv_istore (lv' := [(11, .int 0), (0, .ref (r 0)), (1, .int x), (2, .ref (u 0)), (3, .ref (u 2)), (4, .ref (u 3)), (5, .ref (u 4)), (6, .ref (u 6)), (7, .ref (u 7)), (8, .ref (u 9))]) hx hb dL_isTold_253 hl (by decide) rfl (fun ls hl => ?_)
  have key_255 : ∀ (n i : Nat), i ≤ N 2 → N 2 < i + n → ∀ (A : Nat → Nat) (mc : Nat → Int32) (g : Nat → Nat → Int32) (w : va_W), sCQ G d r A mc g N T w → ∀ (Hz : Heap) (Lz : List Loc), va_P G.1 vwCl (([(u 0, .inl (G.2 1, 64, .inr (.inl E))), (u 1, .inl (G.2 0, 8, .inl (F 1))), (u 2, .inl (G.2 0, 3, .inl (F 2))), (u 3, .inl (G.2 0, 3, .inl (F 3))), (u 4, .inl (G.2 0, 40, .inl (F 4))), (u 5, .inl (G.2 0, 40, .inl (F 5))), (u 6, .inl (G.2 0, 9, .inl (F 6))), (u 7, .inl (G.2 0, 12, .inl (F 7))), (u 8, .inl (G.2 0, 12, .inl (F 8))), (u 9, .inl (G.2 0, 10, .inl (F 9)))] : va_W) ++ w) Hz → va_D Aw (([(u 0, .inl (G.2 1, 64, .inr (.inl E))), (u 1, .inl (G.2 0, 8, .inl (F 1))), (u 2, .inl (G.2 0, 3, .inl (F 2))), (u 3, .inl (G.2 0, 3, .inl (F 3))), (u 4, .inl (G.2 0, 40, .inl (F 4))), (u 5, .inl (G.2 0, 40, .inl (F 5))), (u 6, .inl (G.2 0, 9, .inl (F 6))), (u 7, .inl (G.2 0, 12, .inl (F 7))), (u 8, .inl (G.2 0, 12, .inl (F 8))), (u 9, .inl (G.2 0, 10, .inl (F 9)))] : va_W) ++ w) → va_S Aw s.heap Hz Lz → ∀ ls : Array Slot, lv_has ls 14 [(0, .ref (r 0)), (1, .int x), (2, .ref (u 0)), (3, .ref (u 2)), (4, .ref (u 3)), (5, .ref (u 4)), (6, .ref (u 6)), (7, .ref (u 7)), (8, .ref (u 9)), (11, .int (nI i))] → W p l e (headSpec wsL_isTold ({ frames := 9, cells := 700, slots := 4200, locals := 158 })).room s m ([.ref (r 0), .int x, .ref (u 0), .ref (u 2), .ref (u 3), .ref (u 4), .ref (u 6), .ref (u 7), .ref (u 9)] : List Value).toArray below meth c Hz Lz (330 + 4 * i) (1980 + 24 * i) (MQ below (va_Qi (fun (r1 : Int32) (wz : va_W) => r1 = 1 ∧ ∃ w2 : va_W, wz = LW G u E F ++ w2 ∧ sCO G d r N T w2) (zB G Aw) Aw) ([.ref (r 0), .int x, .ref (u 0), .ref (u 2), .ref (u 3), .ref (u 4), .ref (u 6), .ref (u 7), .ref (u 9)] : List Value).toArray s 700 4200 Aw) (F0 m 255 ls []) := by
    intro n
    induction n with
    | zero => intro i hi_a hi_b; exact absurd hi_b (by omega)
    | succ n ih =>
      intro i hil hin   A mc g w hC Hz Lz hP hD hS ls hl
      refine lv_iload hx hb dL_isTold_255 (lv_at hl 9 rfl) ?_
      refine lv_aload hx hb dL_isTold_257 (lv_at hl 8 rfl) ?_
      refine lv_iconst (v := 5) hx hb dL_isTold_259 (by decide) ?_
      refine va_iald hx hb hK (z_apL hP) 9 0 rfl rfl (vp_in_nI (n := 5) (by decide) (by decide)) dL_isTold_260 ?_
      refine W.eq (g2 := F0 m 261 ls [.int (nI (N 2)), .int (nI i)]) (by rw [show (F 9) (5 : Int32).toNatClampNeg = nI (N 2) from hg5]) ?_
      refine lv_icmp_ge (tgt := 339) hx hb dL_isTold_261 (by decide) (fun zc_1 => ?_) (fun zc_1 => ?_)
      · skip
        have zd_1 := Int32.not_lt.mpr zc_1
        have zhc := (nI_leI (by omega) (by omega)).mp zc_1
        have zie := Nat.le_antisymm hil zhc
        subst zie
        exact z_widen (show 330 + 4 * (N 2) ≤ 500 by omega) (show 1980 + 24 * (N 2) ≤ 3000 by omega) (visTold_339 hst hx hb hr hml hown hts hlocks hK hZ hLx hA hC hR hJ hK5  hP hD hS (lv_sub hl [0, 1, 2, 3, 4, 5, 6, 7, 8] rfl))
      · skip
        have zd_1 := Int32.not_le.mp zc_1
        have zhc := Nat.lt_of_not_le (fun z => zc_1 ((nI_leI (by omega) (by omega)).mpr z))
        have hlt : i < N 2 := zhc
        refine lv_aload_n hx hb dL_isTold_264 rfl (lv_at hl 0 rfl) ?_
        refine lv_iload hx hb dL_isTold_265 (lv_at hl 9 rfl) ?_
        have hkz_267 : sK1 (sIx (nI i) (N 2)) = 0 := (sK1_ok (sIx_y (by omega) (by omega)))
        refine z_xR (G := G) (w := w) (c2 := 332 + 4 * i) (s2 := 1992 + 24 * i) (vx_runSX (hh := [(0, 6, 9, 14)]) (As := [.ref (r 0), .int (nI i)]) (rest := []) ⟨hx, hb, hml, hown, hts⟩ (h_ownerOf l hst G d r A mc g N T w K (nI i) Hz.size hC hJ.1.1 (by omega) ) (vx_cwSW 2 hts gL_isTold_L_ownerOf rfl rfl rfl (by decide +kernel) ⟨Nat.le_of_ble_eq_true rfl, Nat.le_of_ble_eq_true rfl⟩) (z_hs hK (z_apR hP) (z_dR hD) hZ hLx hS hA) rfl rfl hl.1 rfl (lv_room (Nat.le_of_ble_eq_true rfl)) dL_isTold_267 ⟨(show 330 + 4 * i + 2 ≤ 700 by omega), (show 1980 + 24 * i + 12 ≤ 4200 by omega)⟩) hP hD hS hA (show 330 + 4 * i + 2 ≤ 332 + 4 * i by omega) (show 1980 + 24 * i + 12 ≤ 1992 + 24 * i by omega) (fun rz_2 zw_2 Hz Lz hq hP hD hS => ?_)
        obtain ⟨hr9, A, mc, g, hC⟩ := hq.1 hkz_267
        rw [hr9]
        refine W.eq (g2 := F0 m 270 ls [.int (T 7 i)]) (by first | (rw [nI_clamp (by omega)]; done) | (rw [nI_clamp (by omega)]; rfl)) ?_
        refine lv_istore (lv' := [(12, .int (T 7 i)), (0, .ref (r 0)), (1, .int x), (2, .ref (u 0)), (3, .ref (u 2)), (4, .ref (u 3)), (5, .ref (u 4)), (6, .ref (u 6)), (7, .ref (u 7)), (8, .ref (u 9)), (11, .int (nI i))]) hx hb dL_isTold_270 hl (by decide) rfl (fun ls hl => ?_)
        refine lv_aload_n hx hb dL_isTold_272 rfl (lv_at hl 3 rfl) ?_
        refine lv_aload hx hb dL_isTold_273 (lv_at hl 9 rfl) ?_
        refine lv_iload hx hb dL_isTold_275 (lv_at hl 10 rfl) ?_
        refine z_csi (va_Run.run (va_runS (As := [.ref (u 0), .ref (u 9), .int (nI i)]) (rest := []) ⟨hx, hb, hml, hown, hts⟩ (c_L_hanger l G u E F N T (nI i) hQ (vp_in_nI (by omega) (by omega))) (va_cwS 3 hts gL_isTold_L_hanger rfl rfl rfl (by decide +kernel) ⟨Nat.le_of_ble_eq_true rfl, Nat.le_of_ble_eq_true rfl⟩) (z_ps hK (z_apL hP)) rfl rfl hl.1 rfl (lv_room (Nat.le_of_ble_eq_true rfl)) dL_isTold_277 ⟨(show 332 + 4 * i + 0 ≤ 700 by omega), (show 1992 + 24 * i + 0 ≤ 4200 by omega)⟩)) (fun zr_3 hzr_3 => ?_)
        subst hzr_3
        refine lv_if_lt (tgt := 287) hx hb dL_isTold_280 (by decide) (fun zc_4 => ?_) (fun zc_4 => ?_)
        · skip
          have zd_4 := Int32.not_le.mpr zc_4
          have zh := (sHo_n hQ.2.2.2.2.2.2.2.1 hlt hi2).1.mp zc_4
          refine lv_iconst (v := 0) hx hb dL_isTold_287 (by decide) ?_
          refine lv_istore (lv' := [(13, .int 0), (12, .int (T 7 i)), (0, .ref (r 0)), (1, .int x), (2, .ref (u 0)), (3, .ref (u 2)), (4, .ref (u 3)), (5, .ref (u 4)), (6, .ref (u 6)), (7, .ref (u 7)), (8, .ref (u 9)), (11, .int (nI i))]) hx hb dL_isTold_288 hl (by decide) rfl (fun ls hl => ?_)
          refine lv_aload_n hx hb dL_isTold_290 rfl (lv_at hl 2 rfl) ?_
          refine lv_iload hx hb dL_isTold_291 (lv_at hl 11 rfl) ?_
          have hkz_293 : sK1 (sIx (nI i) (N 2)) = 0 := (sK1_ok (sIx_y (by omega) (by omega)))
          refine z_xR (G := G) (w := zw_2) (c2 := 334 + 4 * i) (s2 := 2004 + 24 * i) (vx_runSX (hh := [(0, 6, 9, 14)]) (As := [.ref (r 0), .int (nI i)]) (rest := []) ⟨hx, hb, hml, hown, hts⟩ (h_valveOf l hst G d r A mc g N T zw_2 K (nI i) Hz.size hC hJ.1.1 (by omega) ) (vx_cwSW 2 hts gL_isTold_L_valveOf rfl rfl rfl (by decide +kernel) ⟨Nat.le_of_ble_eq_true rfl, Nat.le_of_ble_eq_true rfl⟩) (z_hs hK (z_apR hP) (z_dR hD) hZ hLx hS hA) rfl rfl hl.1 rfl (lv_room (Nat.le_of_ble_eq_true rfl)) dL_isTold_293 ⟨(show 332 + 4 * i + 2 ≤ 700 by omega), (show 1992 + 24 * i + 12 ≤ 4200 by omega)⟩) hP hD hS hA (show 332 + 4 * i + 2 ≤ 334 + 4 * i by omega) (show 1992 + 24 * i + 12 ≤ 2004 + 24 * i by omega) (fun rz_5 zw_5 Hz Lz hq hP hD hS => ?_)
          obtain ⟨hr9, A, mc, g, hC⟩ := hq.1 hkz_293
          rw [hr9]
          refine W.eq (g2 := F0 m 296 ls [.int (-1)]) (by first | (rw [rValveOf_n (by omega) zh]; done) | (rw [rValveOf_n (by omega) zh]; rfl)) ?_
          refine lv_iload hx hb dL_isTold_296 (lv_at hl 0 rfl) ?_
          refine lv_if_eq (tgt := 309) hx hb dL_isTold_298 (by decide) (fun _ => ?_) (fun zc_6 => absurd zc_6 (by decide))
          refine lv_iconst (v := (-1)) hx hb dL_isTold_309 (by decide) ?_
          refine lv_icmp_ne (tgt := 331) hx hb dL_isTold_310 (by decide) (fun zc_7 => absurd zc_7 (by decide)) (fun _ => ?_)
          refine lv_iload hx hb dL_isTold_313 (lv_at hl 0 rfl) ?_
          refine lv_if_eq (tgt := 333) hx hb dL_isTold_315 (by decide) (fun _ => ?_) (fun zc_8 => absurd zc_8 (by decide))
          refine lv_iinc (v := (nI (i + 1))) (lv' := [(11, .int (nI (i + 1))), (13, .int 0), (12, .int (T 7 i)), (0, .ref (r 0)), (1, .int x), (2, .ref (u 0)), (3, .ref (u 2)), (4, .ref (u 3)), (5, .ref (u 4)), (6, .ref (u 6)), (7, .ref (u 7)), (8, .ref (u 9))]) hx hb dL_isTold_333 hl (k := 11) rfl (by first | exact nI_1 _ | rfl) (by decide) rfl (fun ls hl => ?_)
          refine lv_goto (tgt := 255) hx hb dL_isTold_336 (by decide) ?_
          have hl2 := lv_sub (l' := [(0, .ref (r 0)), (1, .int x), (2, .ref (u 0)), (3, .ref (u 2)), (4, .ref (u 3)), (5, .ref (u 4)), (6, .ref (u 6)), (7, .ref (u 7)), (8, .ref (u 9)), (11, .int (nI (i + 1)))]) hl [3, 4, 5, 6, 7, 8, 9, 10, 11, 0] rfl
          exact z_widen (show 334 + 4 * i ≤ 330 + 4 * (i + 1) by omega) (show 2004 + 24 * i ≤ 1980 + 24 * (i + 1) by omega) (ih (i + 1) (by omega) (by omega)  A mc g _ hC _ _ hP hD hS ls hl2)
        · skip
          have zd_4 := Int32.not_lt.mp zc_4
          have zh : T 10 i = 0 := Decidable.byContradiction (fun z9 => zc_4 ((sHo_n hQ.2.2.2.2.2.2.2.1 hlt hi2).1.mpr z9))
          have ho9 := (sHo_n hQ.2.2.2.2.2.2.2.1 hlt hi2).2 zh
          refine lv_iconst (v := 1) hx hb dL_isTold_283 (by decide) ?_
          refine lv_goto (tgt := 288) hx hb dL_isTold_284 (by decide) ?_
          refine lv_istore (lv' := [(13, .int 1), (12, .int (T 7 i)), (0, .ref (r 0)), (1, .int x), (2, .ref (u 0)), (3, .ref (u 2)), (4, .ref (u 3)), (5, .ref (u 4)), (6, .ref (u 6)), (7, .ref (u 7)), (8, .ref (u 9)), (11, .int (nI i))]) hx hb dL_isTold_288 hl (by decide) rfl (fun ls hl => ?_)
          refine lv_aload_n hx hb dL_isTold_290 rfl (lv_at hl 2 rfl) ?_
          refine lv_iload hx hb dL_isTold_291 (lv_at hl 11 rfl) ?_
          have hkz_293 : sK1 (sIx (nI i) (N 2)) = 0 := (sK1_ok (sIx_y (by omega) (by omega)))
          refine z_xR (G := G) (w := zw_2) (c2 := 334 + 4 * i) (s2 := 2004 + 24 * i) (vx_runSX (hh := [(0, 6, 9, 14)]) (As := [.ref (r 0), .int (nI i)]) (rest := []) ⟨hx, hb, hml, hown, hts⟩ (h_valveOf l hst G d r A mc g N T zw_2 K (nI i) Hz.size hC hJ.1.1 (by omega) ) (vx_cwSW 2 hts gL_isTold_L_valveOf rfl rfl rfl (by decide +kernel) ⟨Nat.le_of_ble_eq_true rfl, Nat.le_of_ble_eq_true rfl⟩) (z_hs hK (z_apR hP) (z_dR hD) hZ hLx hS hA) rfl rfl hl.1 rfl (lv_room (Nat.le_of_ble_eq_true rfl)) dL_isTold_293 ⟨(show 332 + 4 * i + 2 ≤ 700 by omega), (show 1992 + 24 * i + 12 ≤ 4200 by omega)⟩) hP hD hS hA (show 332 + 4 * i + 2 ≤ 334 + 4 * i by omega) (show 1992 + 24 * i + 12 ≤ 2004 + 24 * i by omega) (fun rz_9 zw_9 Hz Lz hq hP hD hS => ?_)
          obtain ⟨hr9, A, mc, g, hC⟩ := hq.1 hkz_293
          rw [hr9]
          refine W.eq (g2 := F0 m 296 ls [.int (T 8 i)]) (by first | (rw [rValveOf_y (by omega) zh]; done) | (rw [rValveOf_y (by omega) zh]; rfl)) ?_
          refine lv_iload hx hb dL_isTold_296 (lv_at hl 0 rfl) ?_
          refine lv_if_eq (tgt := 309) hx hb dL_isTold_298 (by decide) (fun zc_10 => absurd zc_10 (by decide)) (fun _ => ?_)
          refine lv_aload hx hb dL_isTold_301 (lv_at hl 7 rfl) ?_
          refine lv_iload hx hb dL_isTold_303 (lv_at hl 11 rfl) ?_
          refine va_iald hx hb hK (z_apL hP) 4 0 rfl rfl (by first | assumption | exact vp_in_nI (by omega) (by omega)) dL_isTold_305 ?_
          refine W.eq (g2 := F0 m 306 ls [.int (T 8 i), .int (T 8 i)]) (by first | (rw [nI_clamp (by omega), hQ.2.2.2.1 i hlt]; done) | (rw [nI_clamp (by omega), hQ.2.2.2.1 i hlt]; rfl)) ?_
          refine lv_goto (tgt := 310) hx hb dL_isTold_306 (by decide) ?_
          refine lv_icmp_ne (tgt := 331) hx hb dL_isTold_310 (by decide) (fun zc_11 => absurd rfl zc_11) (fun _ => ?_)
          refine lv_iload hx hb dL_isTold_313 (lv_at hl 0 rfl) ?_
          refine lv_if_eq (tgt := 333) hx hb dL_isTold_315 (by decide) (fun zc_12 => absurd zc_12 (by decide)) (fun _ => ?_)
          refine lv_iload hx hb dL_isTold_318 (lv_at hl 1 rfl) ?_
          refine lv_aload_n hx hb dL_isTold_320 rfl (lv_at hl 4 rfl) ?_
          refine lv_aload hx hb dL_isTold_321 (lv_at hl 10 rfl) ?_
          refine lv_iload hx hb dL_isTold_323 (lv_at hl 11 rfl) ?_
          refine z_csi (va_Run.run (va_runS (As := [.ref (u 0), .ref (u 9), .int (nI i)]) (rest := [.int (T 7 i)]) ⟨hx, hb, hml, hown, hts⟩ (c_L_hanger l G u E F N T (nI i) hQ (vp_in_nI (by omega) (by omega))) (va_cwS 3 hts gL_isTold_L_hanger rfl rfl rfl (by decide +kernel) ⟨Nat.le_of_ble_eq_true rfl, Nat.le_of_ble_eq_true rfl⟩) (z_ps hK (z_apL hP)) rfl rfl hl.1 rfl (lv_room (Nat.le_of_ble_eq_true rfl)) dL_isTold_325 ⟨(show 334 + 4 * i + 0 ≤ 700 by omega), (show 2004 + 24 * i + 0 ≤ 4200 by omega)⟩)) (fun zr_13 hzr_13 => ?_)
          subst hzr_13
          refine W.eq (g2 := F0 m 328 ls [.int (T 7 i), .int (T 7 i)]) (by first | (rw [ho9]; done) | (rw [ho9]; rfl)) ?_
          refine lv_icmp_eq (tgt := 333) hx hb dL_isTold_328 (by decide) (fun _ => ?_) (fun zc_14 => absurd rfl zc_14)
          refine lv_iinc (v := (nI (i + 1))) (lv' := [(11, .int (nI (i + 1))), (13, .int 1), (12, .int (T 7 i)), (0, .ref (r 0)), (1, .int x), (2, .ref (u 0)), (3, .ref (u 2)), (4, .ref (u 3)), (5, .ref (u 4)), (6, .ref (u 6)), (7, .ref (u 7)), (8, .ref (u 9))]) hx hb dL_isTold_333 hl (k := 11) rfl (by first | exact nI_1 _ | rfl) (by decide) rfl (fun ls hl => ?_)
          refine lv_goto (tgt := 255) hx hb dL_isTold_336 (by decide) ?_
          have hl2 := lv_sub (l' := [(0, .ref (r 0)), (1, .int x), (2, .ref (u 0)), (3, .ref (u 2)), (4, .ref (u 3)), (5, .ref (u 4)), (6, .ref (u 6)), (7, .ref (u 7)), (8, .ref (u 9)), (11, .int (nI (i + 1)))]) hl [3, 4, 5, 6, 7, 8, 9, 10, 11, 0] rfl
          exact z_widen (show 334 + 4 * i ≤ 330 + 4 * (i + 1) by omega) (show 2004 + 24 * i ≤ 1980 + 24 * (i + 1) by omega) (ih (i + 1) (by omega) (by omega)  A mc g _ hC _ _ hP hD hS ls hl2)
  exact z_widen (show 330 ≤ 330 + 4 * 0 by omega) (show 1980 ≤ 1980 + 24 * 0 by omega) (key_255 (N 2 + 1) 0 (Nat.zero_le _) (by omega)  A mc g _ hC _ _ hP hD hS ls (lv_sub hl [1, 2, 3, 4, 5, 6, 7, 8, 9, 0] rfl))

set_option maxHeartbeats 4000000 in
set_option maxRecDepth 100000 in
theorem visTold_215 {p : Program} {l : Launch} {e : Env} {s : State} {m : MethodId} {below : List Frame} {meth : Method} {c : Code} {G : zG} {d : Nat} {r u : Nat → Nat} {x : Int32} {Aw : Nat → Prop} (hst : l.stackTraces = false) (hx : p.tables.exec = Jvm.exec) (hb : c.code = cL_isTold) (hr : meth.sig.returnType = some .boolean) (hml : c.maxLocals = 14) (hown : s.vm.findClass RL = some m.cls) (hts : ∀ w ∈ wsL_isTold, w.before ([.ref (r 0), .int x, .ref (u 0), .ref (u 2), .ref (u 3), .ref (u 4), .ref (u 6), .ref (u 7), .ref (u 9)] : List Value).toArray s = true) (hlocks : meth.locks = false) (hK : va_K G.1 vwCl (zT G.2) s) (hZ : zCe Aw d s s.heap) (hLx : zLx s) (hA : ∀ q : Nat, s.heap.size ≤ q → Aw q) {A : Nat → Nat} {mc : Nat → Int32} {g : Nat → Nat → Int32} {N : Nat → Nat} {T : Nat → Nat → Int32} {w : va_W} {E : Nat → Int64} {F : Nat → Nat → Int32} {K : Nat} (hC : sCQ G d r A mc g N T w) (hR : sLR N T E F) (hJ : sLJ N T K) (hK5 : K ≤ 400)    {H : Heap} {locs : List Loc} (hP : va_P G.1 vwCl (([(u 0, .inl (G.2 1, 64, .inr (.inl E))), (u 1, .inl (G.2 0, 8, .inl (F 1))), (u 2, .inl (G.2 0, 3, .inl (F 2))), (u 3, .inl (G.2 0, 3, .inl (F 3))), (u 4, .inl (G.2 0, 40, .inl (F 4))), (u 5, .inl (G.2 0, 40, .inl (F 5))), (u 6, .inl (G.2 0, 9, .inl (F 6))), (u 7, .inl (G.2 0, 12, .inl (F 7))), (u 8, .inl (G.2 0, 12, .inl (F 8))), (u 9, .inl (G.2 0, 10, .inl (F 9)))] : va_W) ++ w) H) (hD : va_D Aw (([(u 0, .inl (G.2 1, 64, .inr (.inl E))), (u 1, .inl (G.2 0, 8, .inl (F 1))), (u 2, .inl (G.2 0, 3, .inl (F 2))), (u 3, .inl (G.2 0, 3, .inl (F 3))), (u 4, .inl (G.2 0, 40, .inl (F 4))), (u 5, .inl (G.2 0, 40, .inl (F 5))), (u 6, .inl (G.2 0, 9, .inl (F 6))), (u 7, .inl (G.2 0, 12, .inl (F 7))), (u 8, .inl (G.2 0, 12, .inl (F 8))), (u 9, .inl (G.2 0, 10, .inl (F 9)))] : va_W) ++ w)) (hS : va_S Aw s.heap H locs) {ls : Array Slot} (hl : lv_has ls 14 [(0, .ref (r 0)), (1, .int x), (2, .ref (u 0)), (3, .ref (u 2)), (4, .ref (u 3)), (5, .ref (u 4)), (6, .ref (u 6)), (7, .ref (u 7)), (8, .ref (u 9))]) : W p l e (headSpec wsL_isTold ({ frames := 9, cells := 700, slots := 4200, locals := 158 })).room s m ([.ref (r 0), .int x, .ref (u 0), .ref (u 2), .ref (u 3), .ref (u 4), .ref (u 6), .ref (u 7), .ref (u 9)] : List Value).toArray below meth c H locs 320 1920 (MQ below (va_Qi (fun (r1 : Int32) (wz : va_W) => r1 = 1 ∧ ∃ w2 : va_W, wz = LW G u E F ++ w2 ∧ sCO G d r N T w2) (zB G Aw) Aw) ([.ref (r 0), .int x, .ref (u 0), .ref (u 2), .ref (u 3), .ref (u 4), .ref (u 6), .ref (u 7), .ref (u 9)] : List Value).toArray s 700 4200 Aw) (F0 m 215 ls []) := by
  have hQ := hR.q hJ
  obtain ⟨hg0, hg1, hg2, hg3, hg4, hg5, hg6, hg7, hg8⟩ := hR.2.2.2.2.2.2.2.2.2
  obtain ⟨⟨hb1, hb0, hb3, hb4, hb5⟩, hlv, hlm, hLH⟩ := id hJ.2
  obtain ⟨⟨hi0, hi2, hi3, hi4, hi5, hi6, hi1⟩, hiB, hiE, hiT, hiA, hiA0, hiM, hiK, hiK0, hiX⟩ := id hJ.1.1
  have hLG := hJ.1.2
  have hS0z : va_S Aw s.heap s.heap [] := va_S.rf
  refine lv_iconst (v := 0) hx hb dL_isTold_215 (by decide) ?_
  refine lv_istore (lv' := [(11, .int 0), (0, .ref (r 0)), (1, .int x), (2, .ref (u 0)), (3, .ref (u 2)), (4, .ref (u 3)), (5, .ref (u 4)), (6, .ref (u 6)), (7, .ref (u 7)), (8, .ref (u 9))]) hx hb dL_isTold_216 hl (by decide) rfl (fun ls hl => ?_)
  have key_218 : ∀ (n i : Nat), i ≤ N 3 → N 3 < i + n → ∀ (A : Nat → Nat) (mc : Nat → Int32) (g : Nat → Nat → Int32) (w : va_W), sCQ G d r A mc g N T w → ∀ (Hz : Heap) (Lz : List Loc), va_P G.1 vwCl (([(u 0, .inl (G.2 1, 64, .inr (.inl E))), (u 1, .inl (G.2 0, 8, .inl (F 1))), (u 2, .inl (G.2 0, 3, .inl (F 2))), (u 3, .inl (G.2 0, 3, .inl (F 3))), (u 4, .inl (G.2 0, 40, .inl (F 4))), (u 5, .inl (G.2 0, 40, .inl (F 5))), (u 6, .inl (G.2 0, 9, .inl (F 6))), (u 7, .inl (G.2 0, 12, .inl (F 7))), (u 8, .inl (G.2 0, 12, .inl (F 8))), (u 9, .inl (G.2 0, 10, .inl (F 9)))] : va_W) ++ w) Hz → va_D Aw (([(u 0, .inl (G.2 1, 64, .inr (.inl E))), (u 1, .inl (G.2 0, 8, .inl (F 1))), (u 2, .inl (G.2 0, 3, .inl (F 2))), (u 3, .inl (G.2 0, 3, .inl (F 3))), (u 4, .inl (G.2 0, 40, .inl (F 4))), (u 5, .inl (G.2 0, 40, .inl (F 5))), (u 6, .inl (G.2 0, 9, .inl (F 6))), (u 7, .inl (G.2 0, 12, .inl (F 7))), (u 8, .inl (G.2 0, 12, .inl (F 8))), (u 9, .inl (G.2 0, 10, .inl (F 9)))] : va_W) ++ w) → va_S Aw s.heap Hz Lz → ∀ ls : Array Slot, lv_has ls 14 [(0, .ref (r 0)), (1, .int x), (2, .ref (u 0)), (3, .ref (u 2)), (4, .ref (u 3)), (5, .ref (u 4)), (6, .ref (u 6)), (7, .ref (u 7)), (8, .ref (u 9)), (11, .int (nI i))] → W p l e (headSpec wsL_isTold ({ frames := 9, cells := 700, slots := 4200, locals := 158 })).room s m ([.ref (r 0), .int x, .ref (u 0), .ref (u 2), .ref (u 3), .ref (u 4), .ref (u 6), .ref (u 7), .ref (u 9)] : List Value).toArray below meth c Hz Lz (320 + 2 * i) (1920 + 12 * i) (MQ below (va_Qi (fun (r1 : Int32) (wz : va_W) => r1 = 1 ∧ ∃ w2 : va_W, wz = LW G u E F ++ w2 ∧ sCO G d r N T w2) (zB G Aw) Aw) ([.ref (r 0), .int x, .ref (u 0), .ref (u 2), .ref (u 3), .ref (u 4), .ref (u 6), .ref (u 7), .ref (u 9)] : List Value).toArray s 700 4200 Aw) (F0 m 218 ls []) := by
    intro n
    induction n with
    | zero => intro i hi_a hi_b; exact absurd hi_b (by omega)
    | succ n ih =>
      intro i hil hin   A mc g w hC Hz Lz hP hD hS ls hl
      refine lv_iload hx hb dL_isTold_218 (lv_at hl 9 rfl) ?_
      refine lv_aload hx hb dL_isTold_220 (lv_at hl 8 rfl) ?_
      refine lv_iconst (v := 4) hx hb dL_isTold_222 (by decide) ?_
      refine va_iald hx hb hK (z_apL hP) 9 0 rfl rfl (vp_in_nI (n := 4) (by decide) (by decide)) dL_isTold_223 ?_
      refine W.eq (g2 := F0 m 224 ls [.int (nI (N 3)), .int (nI i)]) (by rw [show (F 9) (4 : Int32).toNatClampNeg = nI (N 3) from hg4]) ?_
      refine lv_icmp_ge (tgt := 252) hx hb dL_isTold_224 (by decide) (fun zc_1 => ?_) (fun zc_1 => ?_)
      · skip
        have zd_1 := Int32.not_lt.mpr zc_1
        have zhc := (nI_leI (by omega) (by omega)).mp zc_1
        have zie := Nat.le_antisymm hil zhc
        subst zie
        exact z_widen (show 320 + 2 * (N 3) ≤ 330 by omega) (show 1920 + 12 * (N 3) ≤ 1980 by omega) (visTold_252 hst hx hb hr hml hown hts hlocks hK hZ hLx hA hC hR hJ hK5  hP hD hS (lv_sub hl [0, 1, 2, 3, 4, 5, 6, 7, 8] rfl))
      · skip
        have zd_1 := Int32.not_le.mp zc_1
        have zhc := Nat.lt_of_not_le (fun z => zc_1 ((nI_leI (by omega) (by omega)).mpr z))
        have hlt : i < N 3 := zhc
        refine lv_aload_n hx hb dL_isTold_227 rfl (lv_at hl 0 rfl) ?_
        refine lv_iload hx hb dL_isTold_228 (lv_at hl 9 rfl) ?_
        have hkz_230 : sK1 (sIx (nI i) (N 3)) = 0 := (sK1_ok (sIx_y (by omega) (by omega)))
        refine z_xR (G := G) (w := w) (c2 := 322 + 2 * i) (s2 := 1932 + 12 * i) (vx_runSX (hh := [(0, 6, 9, 14)]) (As := [.ref (r 0), .int (nI i)]) (rest := []) ⟨hx, hb, hml, hown, hts⟩ (h_stateOf l hst G d r A mc g N T w K (nI i) Hz.size hC hJ.1.1 (by omega) ) (vx_cwSW 2 hts gL_isTold_L_stateOf rfl rfl rfl (by decide +kernel) ⟨Nat.le_of_ble_eq_true rfl, Nat.le_of_ble_eq_true rfl⟩) (z_hs hK (z_apR hP) (z_dR hD) hZ hLx hS hA) rfl rfl hl.1 rfl (lv_room (Nat.le_of_ble_eq_true rfl)) dL_isTold_230 ⟨(show 320 + 2 * i + 2 ≤ 700 by omega), (show 1920 + 12 * i + 12 ≤ 4200 by omega)⟩) hP hD hS hA (show 320 + 2 * i + 2 ≤ 322 + 2 * i by omega) (show 1920 + 12 * i + 12 ≤ 1932 + 12 * i by omega) (fun rz_2 zw_2 Hz Lz hq hP hD hS => ?_)
        obtain ⟨hr9, A, mc, g, hC⟩ := hq.1 hkz_230
        rw [hr9]
        refine W.eq (g2 := F0 m 233 ls [.int (T 16 i)]) (by first | (rw [nI_clamp (by omega)]; done) | (rw [nI_clamp (by omega)]; rfl)) ?_
        refine lv_aload hx hb dL_isTold_233 (lv_at hl 4 rfl) ?_
        refine lv_iload hx hb dL_isTold_235 (lv_at hl 9 rfl) ?_
        refine va_iald hx hb hK (z_apL hP) 3 0 rfl rfl (by first | assumption | exact vp_in_nI (by omega) (by omega)) dL_isTold_237 ?_
        refine W.eq (g2 := F0 m 238 ls [.int (sPa T i), .int (T 16 i)]) (by first | (rw [nI_clamp (by omega), hR.2.2.2.1 i hlt]; done) | (rw [nI_clamp (by omega), hR.2.2.2.1 i hlt]; rfl)) ?_
        refine lv_bipush (v := 18) hx hb dL_isTold_238 (by decide) ?_
        refine lv_ishr hx hb dL_isTold_240 ?_
        refine W.eq (g2 := F0 m 241 ls [.int (T 16 i), .int (T 16 i)]) (by first | (rw [(sPa_dec (hJ.al hlt)).1.1]; done) | (rw [(sPa_dec (hJ.al hlt)).1.1]; rfl)) ?_
        refine lv_icmp_eq (tgt := 246) hx hb dL_isTold_241 (by decide) (fun _ => ?_) (fun zc_3 => absurd rfl zc_3)
        refine lv_iinc (v := (nI (i + 1))) (lv' := [(11, .int (nI (i + 1))), (0, .ref (r 0)), (1, .int x), (2, .ref (u 0)), (3, .ref (u 2)), (4, .ref (u 3)), (5, .ref (u 4)), (6, .ref (u 6)), (7, .ref (u 7)), (8, .ref (u 9))]) hx hb dL_isTold_246 hl (k := 9) rfl (by first | exact nI_1 _ | rfl) (by decide) rfl (fun ls hl => ?_)
        refine lv_goto (tgt := 218) hx hb dL_isTold_249 (by decide) ?_
        have hl2 := lv_sub (l' := [(0, .ref (r 0)), (1, .int x), (2, .ref (u 0)), (3, .ref (u 2)), (4, .ref (u 3)), (5, .ref (u 4)), (6, .ref (u 6)), (7, .ref (u 7)), (8, .ref (u 9)), (11, .int (nI (i + 1)))]) hl [1, 2, 3, 4, 5, 6, 7, 8, 9, 0] rfl
        exact z_widen (show 322 + 2 * i ≤ 320 + 2 * (i + 1) by omega) (show 1932 + 12 * i ≤ 1920 + 12 * (i + 1) by omega) (ih (i + 1) (by omega) (by omega)  A mc g _ hC _ _ hP hD hS ls hl2)
  exact z_widen (show 320 ≤ 320 + 2 * 0 by omega) (show 1920 ≤ 1920 + 12 * 0 by omega) (key_218 (N 3 + 1) 0 (Nat.zero_le _) (by omega)  A mc g _ hC _ _ hP hD hS ls (lv_sub hl [1, 2, 3, 4, 5, 6, 7, 8, 9, 0] rfl))

set_option maxHeartbeats 4000000 in
set_option maxRecDepth 100000 in
theorem visTold_185 {p : Program} {l : Launch} {e : Env} {s : State} {m : MethodId} {below : List Frame} {meth : Method} {c : Code} {G : zG} {d : Nat} {r u : Nat → Nat} {x : Int32} {Aw : Nat → Prop} (hst : l.stackTraces = false) (hx : p.tables.exec = Jvm.exec) (hb : c.code = cL_isTold) (hr : meth.sig.returnType = some .boolean) (hml : c.maxLocals = 14) (hown : s.vm.findClass RL = some m.cls) (hts : ∀ w ∈ wsL_isTold, w.before ([.ref (r 0), .int x, .ref (u 0), .ref (u 2), .ref (u 3), .ref (u 4), .ref (u 6), .ref (u 7), .ref (u 9)] : List Value).toArray s = true) (hlocks : meth.locks = false) (hK : va_K G.1 vwCl (zT G.2) s) (hZ : zCe Aw d s s.heap) (hLx : zLx s) (hA : ∀ q : Nat, s.heap.size ≤ q → Aw q) {A : Nat → Nat} {mc : Nat → Int32} {g : Nat → Nat → Int32} {N : Nat → Nat} {T : Nat → Nat → Int32} {w : va_W} {E : Nat → Int64} {F : Nat → Nat → Int32} {K : Nat} (hC : sCQ G d r A mc g N T w) (hR : sLR N T E F) (hJ : sLJ N T K) (hK5 : K ≤ 400)    {H : Heap} {locs : List Loc} (hP : va_P G.1 vwCl (([(u 0, .inl (G.2 1, 64, .inr (.inl E))), (u 1, .inl (G.2 0, 8, .inl (F 1))), (u 2, .inl (G.2 0, 3, .inl (F 2))), (u 3, .inl (G.2 0, 3, .inl (F 3))), (u 4, .inl (G.2 0, 40, .inl (F 4))), (u 5, .inl (G.2 0, 40, .inl (F 5))), (u 6, .inl (G.2 0, 9, .inl (F 6))), (u 7, .inl (G.2 0, 12, .inl (F 7))), (u 8, .inl (G.2 0, 12, .inl (F 8))), (u 9, .inl (G.2 0, 10, .inl (F 9)))] : va_W) ++ w) H) (hD : va_D Aw (([(u 0, .inl (G.2 1, 64, .inr (.inl E))), (u 1, .inl (G.2 0, 8, .inl (F 1))), (u 2, .inl (G.2 0, 3, .inl (F 2))), (u 3, .inl (G.2 0, 3, .inl (F 3))), (u 4, .inl (G.2 0, 40, .inl (F 4))), (u 5, .inl (G.2 0, 40, .inl (F 5))), (u 6, .inl (G.2 0, 9, .inl (F 6))), (u 7, .inl (G.2 0, 12, .inl (F 7))), (u 8, .inl (G.2 0, 12, .inl (F 8))), (u 9, .inl (G.2 0, 10, .inl (F 9)))] : va_W) ++ w)) (hS : va_S Aw s.heap H locs) {ls : Array Slot} (hl : lv_has ls 14 [(0, .ref (r 0)), (1, .int x), (2, .ref (u 0)), (3, .ref (u 2)), (4, .ref (u 3)), (5, .ref (u 4)), (6, .ref (u 6)), (7, .ref (u 7)), (8, .ref (u 9))]) : W p l e (headSpec wsL_isTold ({ frames := 9, cells := 700, slots := 4200, locals := 158 })).room s m ([.ref (r 0), .int x, .ref (u 0), .ref (u 2), .ref (u 3), .ref (u 4), .ref (u 6), .ref (u 7), .ref (u 9)] : List Value).toArray below meth c H locs 310 1860 (MQ below (va_Qi (fun (r1 : Int32) (wz : va_W) => r1 = 1 ∧ ∃ w2 : va_W, wz = LW G u E F ++ w2 ∧ sCO G d r N T w2) (zB G Aw) Aw) ([.ref (r 0), .int x, .ref (u 0), .ref (u 2), .ref (u 3), .ref (u 4), .ref (u 6), .ref (u 7), .ref (u 9)] : List Value).toArray s 700 4200 Aw) (F0 m 185 ls []) := by
  have hQ := hR.q hJ
  obtain ⟨hg0, hg1, hg2, hg3, hg4, hg5, hg6, hg7, hg8⟩ := hR.2.2.2.2.2.2.2.2.2
  obtain ⟨⟨hb1, hb0, hb3, hb4, hb5⟩, hlv, hlm, hLH⟩ := id hJ.2
  obtain ⟨⟨hi0, hi2, hi3, hi4, hi5, hi6, hi1⟩, hiB, hiE, hiT, hiA, hiA0, hiM, hiK, hiK0, hiX⟩ := id hJ.1.1
  have hLG := hJ.1.2
  have hS0z : va_S Aw s.heap s.heap [] := va_S.rf
  refine lv_iconst (v := 0) hx hb dL_isTold_185 (by decide) ?_
  refine lv_istore (lv' := [(11, .int 0), (0, .ref (r 0)), (1, .int x), (2, .ref (u 0)), (3, .ref (u 2)), (4, .ref (u 3)), (5, .ref (u 4)), (6, .ref (u 6)), (7, .ref (u 7)), (8, .ref (u 9))]) hx hb dL_isTold_186 hl (by decide) rfl (fun ls hl => ?_)
  have key_188 : ∀ (n i : Nat), i ≤ 3 → 3 < i + n → ∀ (A : Nat → Nat) (mc : Nat → Int32) (g : Nat → Nat → Int32) (w : va_W), sCQ G d r A mc g N T w → ∀ (Hz : Heap) (Lz : List Loc), va_P G.1 vwCl (([(u 0, .inl (G.2 1, 64, .inr (.inl E))), (u 1, .inl (G.2 0, 8, .inl (F 1))), (u 2, .inl (G.2 0, 3, .inl (F 2))), (u 3, .inl (G.2 0, 3, .inl (F 3))), (u 4, .inl (G.2 0, 40, .inl (F 4))), (u 5, .inl (G.2 0, 40, .inl (F 5))), (u 6, .inl (G.2 0, 9, .inl (F 6))), (u 7, .inl (G.2 0, 12, .inl (F 7))), (u 8, .inl (G.2 0, 12, .inl (F 8))), (u 9, .inl (G.2 0, 10, .inl (F 9)))] : va_W) ++ w) Hz → va_D Aw (([(u 0, .inl (G.2 1, 64, .inr (.inl E))), (u 1, .inl (G.2 0, 8, .inl (F 1))), (u 2, .inl (G.2 0, 3, .inl (F 2))), (u 3, .inl (G.2 0, 3, .inl (F 3))), (u 4, .inl (G.2 0, 40, .inl (F 4))), (u 5, .inl (G.2 0, 40, .inl (F 5))), (u 6, .inl (G.2 0, 9, .inl (F 6))), (u 7, .inl (G.2 0, 12, .inl (F 7))), (u 8, .inl (G.2 0, 12, .inl (F 8))), (u 9, .inl (G.2 0, 10, .inl (F 9)))] : va_W) ++ w) → va_S Aw s.heap Hz Lz → ∀ ls : Array Slot, lv_has ls 14 [(0, .ref (r 0)), (1, .int x), (2, .ref (u 0)), (3, .ref (u 2)), (4, .ref (u 3)), (5, .ref (u 4)), (6, .ref (u 6)), (7, .ref (u 7)), (8, .ref (u 9)), (11, .int (nI i))] → W p l e (headSpec wsL_isTold ({ frames := 9, cells := 700, slots := 4200, locals := 158 })).room s m ([.ref (r 0), .int x, .ref (u 0), .ref (u 2), .ref (u 3), .ref (u 4), .ref (u 6), .ref (u 7), .ref (u 9)] : List Value).toArray below meth c Hz Lz (310 + 2 * i) (1860 + 12 * i) (MQ below (va_Qi (fun (r1 : Int32) (wz : va_W) => r1 = 1 ∧ ∃ w2 : va_W, wz = LW G u E F ++ w2 ∧ sCO G d r N T w2) (zB G Aw) Aw) ([.ref (r 0), .int x, .ref (u 0), .ref (u 2), .ref (u 3), .ref (u 4), .ref (u 6), .ref (u 7), .ref (u 9)] : List Value).toArray s 700 4200 Aw) (F0 m 188 ls []) := by
    intro n
    induction n with
    | zero => intro i hi_a hi_b; exact absurd hi_b (by omega)
    | succ n ih =>
      intro i hil hin   A mc g w hC Hz Lz hP hD hS ls hl
      refine lv_iload hx hb dL_isTold_188 (lv_at hl 9 rfl) ?_
      refine lv_iconst (v := 3) hx hb dL_isTold_190 (by decide) ?_
      refine lv_icmp_ge (tgt := 215) hx hb dL_isTold_191 (by decide) (fun zc_1 => ?_) (fun zc_1 => ?_)
      · skip
        have zd_1 := Int32.not_lt.mpr zc_1
        have zhc : 3 ≤ i := (nI_leI (a := 3) (b := i) (by omega) (by omega)).mp zc_1
        have zie : 3 = i := Nat.le_antisymm zhc hil
        subst zie
        exact z_widen (show 310 + 2 * 3 ≤ 320 by omega) (show 1860 + 12 * 3 ≤ 1920 by omega) (visTold_215 hst hx hb hr hml hown hts hlocks hK hZ hLx hA hC hR hJ hK5  hP hD hS (lv_sub hl [0, 1, 2, 3, 4, 5, 6, 7, 8] rfl))
      · skip
        have zd_1 := Int32.not_le.mp zc_1
        have hlt : i < 3 := Nat.lt_of_not_le (fun z => zc_1 ((nI_leI (a := 3) (b := i) (by omega) (by omega)).mpr z))
        refine lv_aload_n hx hb dL_isTold_194 rfl (lv_at hl 0 rfl) ?_
        refine lv_iload hx hb dL_isTold_195 (lv_at hl 9 rfl) ?_
        have hkz_197 : sK1 (sIx (nI i) 3) = 0 := (sK1_ok (sIx_y (by omega) (by omega)))
        refine z_xR (G := G) (w := w) (c2 := 312 + 2 * i) (s2 := 1872 + 12 * i) (vx_runSX (hh := [(0, 6, 9, 14)]) (As := [.ref (r 0), .int (nI i)]) (rest := []) ⟨hx, hb, hml, hown, hts⟩ (h_level l hst G d r A mc g N T w K (nI i) Hz.size hC hJ.1.1 (by omega) ) (vx_cwSW 2 hts gL_isTold_L_level rfl rfl rfl (by decide +kernel) ⟨Nat.le_of_ble_eq_true rfl, Nat.le_of_ble_eq_true rfl⟩) (z_hs hK (z_apR hP) (z_dR hD) hZ hLx hS hA) rfl rfl hl.1 rfl (lv_room (Nat.le_of_ble_eq_true rfl)) dL_isTold_197 ⟨(show 310 + 2 * i + 2 ≤ 700 by omega), (show 1860 + 12 * i + 12 ≤ 4200 by omega)⟩) hP hD hS hA (show 310 + 2 * i + 2 ≤ 312 + 2 * i by omega) (show 1860 + 12 * i + 12 ≤ 1872 + 12 * i by omega) (fun rz_2 zw_2 Hz Lz hq hP hD hS => ?_)
        obtain ⟨hr9, A, mc, g, hC⟩ := hq.1 hkz_197
        rw [hr9]
        refine W.eq (g2 := F0 m 200 ls [.int (T 6 i)]) (by first | (rw [nI_clamp (by omega)]; done) | (rw [nI_clamp (by omega)]; rfl)) ?_
        refine lv_aload_n hx hb dL_isTold_200 rfl (lv_at hl 3 rfl) ?_
        refine lv_iload hx hb dL_isTold_201 (lv_at hl 9 rfl) ?_
        refine va_iald hx hb hK (z_apL hP) 2 0 rfl rfl (by first | assumption | exact vp_in_nI (by omega) (by omega)) dL_isTold_203 ?_
        refine W.eq (g2 := F0 m 204 ls [.int (T 6 i), .int (T 6 i)]) (by first | (rw [nI_clamp (by omega), hR.2.2.1 i hlt]; done) | (rw [nI_clamp (by omega), hR.2.2.1 i hlt]; rfl)) ?_
        refine lv_icmp_eq (tgt := 209) hx hb dL_isTold_204 (by decide) (fun _ => ?_) (fun zc_3 => absurd rfl zc_3)
        refine lv_iinc (v := (nI (i + 1))) (lv' := [(11, .int (nI (i + 1))), (0, .ref (r 0)), (1, .int x), (2, .ref (u 0)), (3, .ref (u 2)), (4, .ref (u 3)), (5, .ref (u 4)), (6, .ref (u 6)), (7, .ref (u 7)), (8, .ref (u 9))]) hx hb dL_isTold_209 hl (k := 9) rfl (by first | exact nI_1 _ | rfl) (by decide) rfl (fun ls hl => ?_)
        refine lv_goto (tgt := 188) hx hb dL_isTold_212 (by decide) ?_
        have hl2 := lv_sub (l' := [(0, .ref (r 0)), (1, .int x), (2, .ref (u 0)), (3, .ref (u 2)), (4, .ref (u 3)), (5, .ref (u 4)), (6, .ref (u 6)), (7, .ref (u 7)), (8, .ref (u 9)), (11, .int (nI (i + 1)))]) hl [1, 2, 3, 4, 5, 6, 7, 8, 9, 0] rfl
        exact z_widen (show 312 + 2 * i ≤ 310 + 2 * (i + 1) by omega) (show 1872 + 12 * i ≤ 1860 + 12 * (i + 1) by omega) (ih (i + 1) (by omega) (by omega)  A mc g _ hC _ _ hP hD hS ls hl2)
  exact z_widen (show 310 ≤ 310 + 2 * 0 by omega) (show 1860 ≤ 1860 + 12 * 0 by omega) (key_188 (3 + 1) 0 (Nat.zero_le _) (by omega)  A mc g _ hC _ _ hP hD hS ls (lv_sub hl [1, 2, 3, 4, 5, 6, 7, 8, 9, 0] rfl))

set_option maxHeartbeats 4000000 in
set_option maxRecDepth 100000 in
theorem visTold_112 {p : Program} {l : Launch} {e : Env} {s : State} {m : MethodId} {below : List Frame} {meth : Method} {c : Code} {G : zG} {d : Nat} {r u : Nat → Nat} {x : Int32} {Aw : Nat → Prop} (hst : l.stackTraces = false) (hx : p.tables.exec = Jvm.exec) (hb : c.code = cL_isTold) (hr : meth.sig.returnType = some .boolean) (hml : c.maxLocals = 14) (hown : s.vm.findClass RL = some m.cls) (hts : ∀ w ∈ wsL_isTold, w.before ([.ref (r 0), .int x, .ref (u 0), .ref (u 2), .ref (u 3), .ref (u 4), .ref (u 6), .ref (u 7), .ref (u 9)] : List Value).toArray s = true) (hlocks : meth.locks = false) (hK : va_K G.1 vwCl (zT G.2) s) (hZ : zCe Aw d s s.heap) (hLx : zLx s) (hA : ∀ q : Nat, s.heap.size ≤ q → Aw q) {A : Nat → Nat} {mc : Nat → Int32} {g : Nat → Nat → Int32} {N : Nat → Nat} {T : Nat → Nat → Int32} {w : va_W} {E : Nat → Int64} {F : Nat → Nat → Int32} {K : Nat} (hC : sCQ G d r A mc g N T w) (hR : sLR N T E F) (hJ : sLJ N T K) (hK5 : K ≤ 400)    {H : Heap} {locs : List Loc} (hP : va_P G.1 vwCl (([(u 0, .inl (G.2 1, 64, .inr (.inl E))), (u 1, .inl (G.2 0, 8, .inl (F 1))), (u 2, .inl (G.2 0, 3, .inl (F 2))), (u 3, .inl (G.2 0, 3, .inl (F 3))), (u 4, .inl (G.2 0, 40, .inl (F 4))), (u 5, .inl (G.2 0, 40, .inl (F 5))), (u 6, .inl (G.2 0, 9, .inl (F 6))), (u 7, .inl (G.2 0, 12, .inl (F 7))), (u 8, .inl (G.2 0, 12, .inl (F 8))), (u 9, .inl (G.2 0, 10, .inl (F 9)))] : va_W) ++ w) H) (hD : va_D Aw (([(u 0, .inl (G.2 1, 64, .inr (.inl E))), (u 1, .inl (G.2 0, 8, .inl (F 1))), (u 2, .inl (G.2 0, 3, .inl (F 2))), (u 3, .inl (G.2 0, 3, .inl (F 3))), (u 4, .inl (G.2 0, 40, .inl (F 4))), (u 5, .inl (G.2 0, 40, .inl (F 5))), (u 6, .inl (G.2 0, 9, .inl (F 6))), (u 7, .inl (G.2 0, 12, .inl (F 7))), (u 8, .inl (G.2 0, 12, .inl (F 8))), (u 9, .inl (G.2 0, 10, .inl (F 9)))] : va_W) ++ w)) (hS : va_S Aw s.heap H locs) {ls : Array Slot} (hl : lv_has ls 14 [(0, .ref (r 0)), (1, .int x), (2, .ref (u 0)), (3, .ref (u 2)), (4, .ref (u 3)), (5, .ref (u 4)), (6, .ref (u 6)), (7, .ref (u 7)), (8, .ref (u 9))]) : W p l e (headSpec wsL_isTold ({ frames := 9, cells := 700, slots := 4200, locals := 158 })).room s m ([.ref (r 0), .int x, .ref (u 0), .ref (u 2), .ref (u 3), .ref (u 4), .ref (u 6), .ref (u 7), .ref (u 9)] : List Value).toArray below meth c H locs 300 1800 (MQ below (va_Qi (fun (r1 : Int32) (wz : va_W) => r1 = 1 ∧ ∃ w2 : va_W, wz = LW G u E F ++ w2 ∧ sCO G d r N T w2) (zB G Aw) Aw) ([.ref (r 0), .int x, .ref (u 0), .ref (u 2), .ref (u 3), .ref (u 4), .ref (u 6), .ref (u 7), .ref (u 9)] : List Value).toArray s 700 4200 Aw) (F0 m 112 ls []) := by
  have hQ := hR.q hJ
  obtain ⟨hg0, hg1, hg2, hg3, hg4, hg5, hg6, hg7, hg8⟩ := hR.2.2.2.2.2.2.2.2.2
  obtain ⟨⟨hb1, hb0, hb3, hb4, hb5⟩, hlv, hlm, hLH⟩ := id hJ.2
  obtain ⟨⟨hi0, hi2, hi3, hi4, hi5, hi6, hi1⟩, hiB, hiE, hiT, hiA, hiA0, hiM, hiK, hiK0, hiX⟩ := id hJ.1.1
  have hLG := hJ.1.2
  have hS0z : va_S Aw s.heap s.heap [] := va_S.rf
  refine lv_iload_n hx hb dL_isTold_112 rfl (lv_at hl 1 rfl) ?_
  refine lv_bipush (v := 9) hx hb dL_isTold_113 (by decide) ?_
  refine z_csi (va_Run.run (va_runS (As := [.int x, .int 9]) (rest := []) ⟨hx, hb, hml, hown, hts⟩ (c_L_low l G x 9 (by omega) (by omega)) (va_cwS 2 hts gL_isTold_L_low rfl rfl rfl (by decide +kernel) ⟨Nat.le_of_ble_eq_true rfl, Nat.le_of_ble_eq_true rfl⟩) (z_ps hK z_none) rfl rfl hl.1 rfl (lv_room (Nat.le_of_ble_eq_true rfl)) dL_isTold_115 ⟨(show 300 + 0 ≤ 700 by omega), (show 1800 + 0 ≤ 4200 by omega)⟩)) (fun zr_1 hzr_1 => ?_)
  obtain ⟨jp, hjp, rfl⟩ := hzr_1
  refine lv_istore (lv' := [(9, .int (nI jp)), (0, .ref (r 0)), (1, .int x), (2, .ref (u 0)), (3, .ref (u 2)), (4, .ref (u 3)), (5, .ref (u 4)), (6, .ref (u 6)), (7, .ref (u 7)), (8, .ref (u 9))]) hx hb dL_isTold_118 hl (by decide) rfl (fun ls hl => ?_)
  refine lv_iload_n hx hb dL_isTold_120 rfl (lv_at hl 2 rfl) ?_
  refine lv_iconst (v := 4) hx hb dL_isTold_121 (by decide) ?_
  refine lv_ishr hx hb dL_isTold_122 ?_
  refine lv_iconst (v := 3) hx hb dL_isTold_123 (by decide) ?_
  refine z_csi (va_Run.run (va_runS (As := [.int (x >>> (4 &&& 31)), .int 3]) (rest := []) ⟨hx, hb, hml, hown, hts⟩ (c_L_low l G (x >>> (4 &&& 31)) 3 (by omega) (by omega)) (va_cwS 2 hts gL_isTold_L_low rfl rfl rfl (by decide +kernel) ⟨Nat.le_of_ble_eq_true rfl, Nat.le_of_ble_eq_true rfl⟩) (z_ps hK z_none) rfl rfl hl.1 rfl (lv_room (Nat.le_of_ble_eq_true rfl)) dL_isTold_124 ⟨(show 300 + 0 ≤ 700 by omega), (show 1800 + 0 ≤ 4200 by omega)⟩)) (fun zr_2 hzr_2 => ?_)
  obtain ⟨jv, hjv, rfl⟩ := hzr_2
  refine lv_istore (lv' := [(10, .int (nI jv)), (9, .int (nI jp)), (0, .ref (r 0)), (1, .int x), (2, .ref (u 0)), (3, .ref (u 2)), (4, .ref (u 3)), (5, .ref (u 4)), (6, .ref (u 6)), (7, .ref (u 7)), (8, .ref (u 9))]) hx hb dL_isTold_127 hl (by decide) rfl (fun ls hl => ?_)
  refine lv_aload_n hx hb dL_isTold_129 rfl (lv_at hl 2 rfl) ?_
  refine lv_iload hx hb dL_isTold_130 (lv_at hl 1 rfl) ?_
  refine lv_iload hx hb dL_isTold_132 (lv_at hl 0 rfl) ?_
  have hkz_134 : sK1 ((sIx (nI jp) 9) && (sIx (nI jv) 8)) = 0 := (sK1_ok (sAnd_y (sIx_y (by omega) (by omega)) (sIx_y (by omega) (by omega))))
  refine z_xR (G := G) (w := w) (c2 := 302) (s2 := 1812) (vx_runSX (hh := [(0, 7, 10, 14)]) (As := [.ref (r 0), .int (nI jp), .int (nI jv)]) (rest := []) ⟨hx, hb, hml, hown, hts⟩ (h_obstacle l hst G d r A mc g N T w K (nI jp) (nI jv) H.size hC hJ.1.1 (by omega) ) (vx_cwSW 3 hts gL_isTold_L_obstacle rfl rfl rfl (by decide +kernel) ⟨Nat.le_of_ble_eq_true rfl, Nat.le_of_ble_eq_true rfl⟩) (z_hs hK (z_apR hP) (z_dR hD) hZ hLx hS hA) rfl rfl hl.1 rfl (lv_room (Nat.le_of_ble_eq_true rfl)) dL_isTold_134 ⟨(show 300 + 2 ≤ 700 by omega), (show 1800 + 12 ≤ 4200 by omega)⟩) hP hD hS hA (show 300 + 2 ≤ 302 by omega) (show 1800 + 12 ≤ 1812 by omega) (fun rz_3 zw_3 Hz Lz hq hP hD hS => ?_)
  obtain ⟨hr9, A, mc, g, hC⟩ := hq.1 hkz_134
  rw [hr9]
  refine lv_aload_n hx hb dL_isTold_137 rfl (lv_at hl 4 rfl) ?_
  refine lv_aload hx hb dL_isTold_138 (lv_at hl 7 rfl) ?_
  refine lv_aload hx hb dL_isTold_140 (lv_at hl 8 rfl) ?_
  refine lv_aload hx hb dL_isTold_142 (lv_at hl 10 rfl) ?_
  refine lv_iload hx hb dL_isTold_144 (lv_at hl 1 rfl) ?_
  refine lv_iload hx hb dL_isTold_146 (lv_at hl 0 rfl) ?_
  refine z_csi (va_Run.run (va_runS (As := [.ref (u 0), .ref (u 4), .ref (u 6), .ref (u 9), .int (nI jp), .int (nI jv)]) (rest := [.int (sBars N T (nI jp) (nI jv))]) ⟨hx, hb, hml, hown, hts⟩ (c_L_why l G u E F N T (nI jp) (nI jv) hQ (vp_in_nI (by omega) (by omega))) (va_cwS 6 hts gL_isTold_L_why rfl rfl rfl (by decide +kernel) ⟨Nat.le_of_ble_eq_true rfl, Nat.le_of_ble_eq_true rfl⟩) (z_ps hK (z_apL hP)) rfl rfl hl.1 rfl (lv_room (Nat.le_of_ble_eq_true rfl)) dL_isTold_148 ⟨(show 302 + 0 ≤ 700 by omega), (show 1812 + 0 ≤ 4200 by omega)⟩)) (fun zr_4 hzr_4 => ?_)
  subst hzr_4
  refine lv_icmp_ne (tgt := 183) hx hb dL_isTold_151 (by decide) (fun zc_5 => absurd rfl zc_5) (fun _ => ?_)
  refine lv_aload_n hx hb dL_isTold_154 rfl (lv_at hl 2 rfl) ?_
  refine lv_iload hx hb dL_isTold_155 (lv_at hl 1 rfl) ?_
  have hkz_157 : sK1 (sIx (nI jp) 9) = 0 := (sK1_ok (sIx_y (by omega) (by omega)))
  refine z_xR (G := G) (w := zw_3) (c2 := 304) (s2 := 1824) (vx_runSX (hh := [(0, 6, 9, 14)]) (As := [.ref (r 0), .int (nI jp)]) (rest := []) ⟨hx, hb, hml, hown, hts⟩ (h_canAct l hst G d r A mc g N T zw_3 K (nI jp) Hz.size hC hJ.1.1 (by omega) ) (vx_cwSW 2 hts gL_isTold_L_canAct rfl rfl rfl (by decide +kernel) ⟨Nat.le_of_ble_eq_true rfl, Nat.le_of_ble_eq_true rfl⟩) (z_hs hK (z_apR hP) (z_dR hD) hZ hLx hS hA) rfl rfl hl.1 rfl (lv_room (Nat.le_of_ble_eq_true rfl)) dL_isTold_157 ⟨(show 302 + 2 ≤ 700 by omega), (show 1812 + 12 ≤ 4200 by omega)⟩) hP hD hS hA (show 302 + 2 ≤ 304 by omega) (show 1812 + 12 ≤ 1824 by omega) (fun rz_6 zw_6 Hz Lz hq hP hD hS => ?_)
  obtain ⟨hr9, A, mc, g, hC⟩ := hq.1 hkz_157
  rw [hr9]
  refine lv_aload_n hx hb dL_isTold_160 rfl (lv_at hl 4 rfl) ?_
  refine lv_aload hx hb dL_isTold_161 (lv_at hl 7 rfl) ?_
  refine lv_aload hx hb dL_isTold_163 (lv_at hl 8 rfl) ?_
  refine lv_aload hx hb dL_isTold_165 (lv_at hl 10 rfl) ?_
  refine lv_iload hx hb dL_isTold_167 (lv_at hl 1 rfl) ?_
  refine z_csi (va_Run.run (va_runS (As := [.ref (u 0), .ref (u 4), .ref (u 6), .ref (u 9), .int (nI jp)]) (rest := [.int (zb (sMay N T (nI jp)))]) ⟨hx, hb, hml, hown, hts⟩ (c_L_mayAct l G u E F N T (nI jp) hQ (vp_in_nI (by omega) (by omega))) (va_cwS 5 hts gL_isTold_L_mayAct rfl rfl rfl (by decide +kernel) ⟨Nat.le_of_ble_eq_true rfl, Nat.le_of_ble_eq_true rfl⟩) (z_ps hK (z_apL hP)) rfl rfl hl.1 rfl (lv_room (Nat.le_of_ble_eq_true rfl)) dL_isTold_169 ⟨(show 304 + 0 ≤ 700 by omega), (show 1824 + 0 ≤ 4200 by omega)⟩)) (fun zr_7 hzr_7 => ?_)
  subst hzr_7
  have cut_180 : W p l e (headSpec wsL_isTold ({ frames := 9, cells := 700, slots := 4200, locals := 158 })).room s m ([.ref (r 0), .int x, .ref (u 0), .ref (u 2), .ref (u 3), .ref (u 4), .ref (u 6), .ref (u 7), .ref (u 9)] : List Value).toArray below meth c Hz Lz (304) (1824) (MQ below (va_Qi (fun (r1 : Int32) (wz : va_W) => r1 = 1 ∧ ∃ w2 : va_W, wz = LW G u E F ++ w2 ∧ sCO G d r N T w2) (zB G Aw) Aw) ([.ref (r 0), .int x, .ref (u 0), .ref (u 2), .ref (u 3), .ref (u 4), .ref (u 6), .ref (u 7), .ref (u 9)] : List Value).toArray s 700 4200 Aw) (F0 m 180 ls [.int (zb (sMay N T (nI jp))), .int (zb (sMay N T (nI jp)))]) := by
    refine lv_icmp_eq (tgt := 185) hx hb dL_isTold_180 (by decide) (fun _ => ?_) (fun zc_8 => absurd rfl zc_8)
    exact z_widen (show 304 ≤ 310 by omega) (show 1824 ≤ 1860 by omega) (visTold_185 hst hx hb hr hml hown hts hlocks hK hZ hLx hA hC hR hJ hK5  hP hD hS (lv_sub hl [2, 3, 4, 5, 6, 7, 8, 9, 10] rfl))
  refine lv_if_eq (tgt := 179) hx hb dL_isTold_172 (by decide) (fun zc_9 => ?_) (fun zc_9 => ?_)
  · skip
    have zc_9 := zb_0.mp zc_9
    refine lv_iconst (v := 0) hx hb dL_isTold_179 (by decide) ?_
    exact W.eq (congrArg (fun z : Int32 => F0 m 180 ls [.int z, .int (zb (sMay N T (nI jp)))]) (show (0 : Int32) = zb (sMay N T (nI jp)) from (by rw [zc_9]; rfl))) cut_180
  · skip
    have zc_9 := zb_n0 zc_9
    refine lv_iconst (v := 1) hx hb dL_isTold_175 (by decide) ?_
    refine lv_goto (tgt := 180) hx hb dL_isTold_176 (by decide) ?_
    exact W.eq (congrArg (fun z : Int32 => F0 m 180 ls [.int z, .int (zb (sMay N T (nI jp)))]) (show (1 : Int32) = zb (sMay N T (nI jp)) from (by rw [zc_9]; rfl))) cut_180

set_option maxHeartbeats 4000000 in
set_option maxRecDepth 100000 in
theorem visTold_35 {p : Program} {l : Launch} {e : Env} {s : State} {m : MethodId} {below : List Frame} {meth : Method} {c : Code} {G : zG} {d : Nat} {r u : Nat → Nat} {x : Int32} {Aw : Nat → Prop} (hst : l.stackTraces = false) (hx : p.tables.exec = Jvm.exec) (hb : c.code = cL_isTold) (hr : meth.sig.returnType = some .boolean) (hml : c.maxLocals = 14) (hown : s.vm.findClass RL = some m.cls) (hts : ∀ w ∈ wsL_isTold, w.before ([.ref (r 0), .int x, .ref (u 0), .ref (u 2), .ref (u 3), .ref (u 4), .ref (u 6), .ref (u 7), .ref (u 9)] : List Value).toArray s = true) (hlocks : meth.locks = false) (hK : va_K G.1 vwCl (zT G.2) s) (hZ : zCe Aw d s s.heap) (hLx : zLx s) (hA : ∀ q : Nat, s.heap.size ≤ q → Aw q) {A : Nat → Nat} {mc : Nat → Int32} {g : Nat → Nat → Int32} {N : Nat → Nat} {T : Nat → Nat → Int32} {w : va_W} {E : Nat → Int64} {F : Nat → Nat → Int32} {K : Nat} (hC : sCQ G d r A mc g N T w) (hR : sLR N T E F) (hJ : sLJ N T K) (hK5 : K ≤ 400)    {H : Heap} {locs : List Loc} (hP : va_P G.1 vwCl (([(u 0, .inl (G.2 1, 64, .inr (.inl E))), (u 1, .inl (G.2 0, 8, .inl (F 1))), (u 2, .inl (G.2 0, 3, .inl (F 2))), (u 3, .inl (G.2 0, 3, .inl (F 3))), (u 4, .inl (G.2 0, 40, .inl (F 4))), (u 5, .inl (G.2 0, 40, .inl (F 5))), (u 6, .inl (G.2 0, 9, .inl (F 6))), (u 7, .inl (G.2 0, 12, .inl (F 7))), (u 8, .inl (G.2 0, 12, .inl (F 8))), (u 9, .inl (G.2 0, 10, .inl (F 9)))] : va_W) ++ w) H) (hD : va_D Aw (([(u 0, .inl (G.2 1, 64, .inr (.inl E))), (u 1, .inl (G.2 0, 8, .inl (F 1))), (u 2, .inl (G.2 0, 3, .inl (F 2))), (u 3, .inl (G.2 0, 3, .inl (F 3))), (u 4, .inl (G.2 0, 40, .inl (F 4))), (u 5, .inl (G.2 0, 40, .inl (F 5))), (u 6, .inl (G.2 0, 9, .inl (F 6))), (u 7, .inl (G.2 0, 12, .inl (F 7))), (u 8, .inl (G.2 0, 12, .inl (F 8))), (u 9, .inl (G.2 0, 10, .inl (F 9)))] : va_W) ++ w)) (hS : va_S Aw s.heap H locs) {ls : Array Slot} (hl : lv_has ls 14 [(0, .ref (r 0)), (1, .int x), (2, .ref (u 0)), (3, .ref (u 2)), (4, .ref (u 3)), (5, .ref (u 4)), (6, .ref (u 6)), (7, .ref (u 7)), (8, .ref (u 9))]) : W p l e (headSpec wsL_isTold ({ frames := 9, cells := 700, slots := 4200, locals := 158 })).room s m ([.ref (r 0), .int x, .ref (u 0), .ref (u 2), .ref (u 3), .ref (u 4), .ref (u 6), .ref (u 7), .ref (u 9)] : List Value).toArray below meth c H locs 250 1500 (MQ below (va_Qi (fun (r1 : Int32) (wz : va_W) => r1 = 1 ∧ ∃ w2 : va_W, wz = LW G u E F ++ w2 ∧ sCO G d r N T w2) (zB G Aw) Aw) ([.ref (r 0), .int x, .ref (u 0), .ref (u 2), .ref (u 3), .ref (u 4), .ref (u 6), .ref (u 7), .ref (u 9)] : List Value).toArray s 700 4200 Aw) (F0 m 35 ls []) := by
  have hQ := hR.q hJ
  obtain ⟨hg0, hg1, hg2, hg3, hg4, hg5, hg6, hg7, hg8⟩ := hR.2.2.2.2.2.2.2.2.2
  obtain ⟨⟨hb1, hb0, hb3, hb4, hb5⟩, hlv, hlm, hLH⟩ := id hJ.2
  obtain ⟨⟨hi0, hi2, hi3, hi4, hi5, hi6, hi1⟩, hiB, hiE, hiT, hiA, hiA0, hiM, hiK, hiK0, hiX⟩ := id hJ.1.1
  have hLG := hJ.1.2
  have hS0z : va_S Aw s.heap s.heap [] := va_S.rf
  refine lv_iconst (v := 0) hx hb dL_isTold_35 (by decide) ?_
  refine lv_istore (lv' := [(9, .int 0), (0, .ref (r 0)), (1, .int x), (2, .ref (u 0)), (3, .ref (u 2)), (4, .ref (u 3)), (5, .ref (u 4)), (6, .ref (u 6)), (7, .ref (u 7)), (8, .ref (u 9))]) hx hb dL_isTold_36 hl (by decide) rfl (fun ls hl => ?_)
  have key_38 : ∀ (n i : Nat), i ≤ 8 → 8 < i + n → ∀ (A : Nat → Nat) (mc : Nat → Int32) (g : Nat → Nat → Int32) (w : va_W), sCQ G d r A mc g N T w → ∀ (Hz : Heap) (Lz : List Loc), va_P G.1 vwCl (([(u 0, .inl (G.2 1, 64, .inr (.inl E))), (u 1, .inl (G.2 0, 8, .inl (F 1))), (u 2, .inl (G.2 0, 3, .inl (F 2))), (u 3, .inl (G.2 0, 3, .inl (F 3))), (u 4, .inl (G.2 0, 40, .inl (F 4))), (u 5, .inl (G.2 0, 40, .inl (F 5))), (u 6, .inl (G.2 0, 9, .inl (F 6))), (u 7, .inl (G.2 0, 12, .inl (F 7))), (u 8, .inl (G.2 0, 12, .inl (F 8))), (u 9, .inl (G.2 0, 10, .inl (F 9)))] : va_W) ++ w) Hz → va_D Aw (([(u 0, .inl (G.2 1, 64, .inr (.inl E))), (u 1, .inl (G.2 0, 8, .inl (F 1))), (u 2, .inl (G.2 0, 3, .inl (F 2))), (u 3, .inl (G.2 0, 3, .inl (F 3))), (u 4, .inl (G.2 0, 40, .inl (F 4))), (u 5, .inl (G.2 0, 40, .inl (F 5))), (u 6, .inl (G.2 0, 9, .inl (F 6))), (u 7, .inl (G.2 0, 12, .inl (F 7))), (u 8, .inl (G.2 0, 12, .inl (F 8))), (u 9, .inl (G.2 0, 10, .inl (F 9)))] : va_W) ++ w) → va_S Aw s.heap Hz Lz → ∀ ls : Array Slot, lv_has ls 14 [(0, .ref (r 0)), (1, .int x), (2, .ref (u 0)), (3, .ref (u 2)), (4, .ref (u 3)), (5, .ref (u 4)), (6, .ref (u 6)), (7, .ref (u 7)), (8, .ref (u 9)), (9, .int (nI i))] → W p l e (headSpec wsL_isTold ({ frames := 9, cells := 700, slots := 4200, locals := 158 })).room s m ([.ref (r 0), .int x, .ref (u 0), .ref (u 2), .ref (u 3), .ref (u 4), .ref (u 6), .ref (u 7), .ref (u 9)] : List Value).toArray below meth c Hz Lz (250 + 6 * i) (1500 + 36 * i) (MQ below (va_Qi (fun (r1 : Int32) (wz : va_W) => r1 = 1 ∧ ∃ w2 : va_W, wz = LW G u E F ++ w2 ∧ sCO G d r N T w2) (zB G Aw) Aw) ([.ref (r 0), .int x, .ref (u 0), .ref (u 2), .ref (u 3), .ref (u 4), .ref (u 6), .ref (u 7), .ref (u 9)] : List Value).toArray s 700 4200 Aw) (F0 m 38 ls []) := by
    intro n
    induction n with
    | zero => intro i hi_a hi_b; exact absurd hi_b (by omega)
    | succ n ih =>
      intro i hil hin   A mc g w hC Hz Lz hP hD hS ls hl
      refine lv_iload hx hb dL_isTold_38 (lv_at hl 9 rfl) ?_
      refine lv_bipush (v := 8) hx hb dL_isTold_40 (by decide) ?_
      refine lv_icmp_ge (tgt := 112) hx hb dL_isTold_42 (by decide) (fun zc_1 => ?_) (fun zc_1 => ?_)
      · skip
        have zd_1 := Int32.not_lt.mpr zc_1
        have zhc : 8 ≤ i := (nI_leI (a := 8) (b := i) (by omega) (by omega)).mp zc_1
        have zie : 8 = i := Nat.le_antisymm zhc hil
        subst zie
        exact z_widen (show 250 + 6 * 8 ≤ 300 by omega) (show 1500 + 36 * 8 ≤ 1800 by omega) (visTold_112 hst hx hb hr hml hown hts hlocks hK hZ hLx hA hC hR hJ hK5  hP hD hS (lv_sub hl [0, 1, 2, 3, 4, 5, 6, 7, 8] rfl))
      · skip
        have zd_1 := Int32.not_le.mp zc_1
        have hlt : i < 8 := Nat.lt_of_not_le (fun z => zc_1 ((nI_leI (a := 8) (b := i) (by omega) (by omega)).mpr z))
        refine lv_aload_n hx hb dL_isTold_45 rfl (lv_at hl 2 rfl) ?_
        refine lv_aload hx hb dL_isTold_46 (lv_at hl 8 rfl) ?_
        refine lv_iload hx hb dL_isTold_48 (lv_at hl 9 rfl) ?_
        refine z_csi (va_Run.run (va_runS (As := [.ref (u 0), .ref (u 9), .int (nI i)]) (rest := []) ⟨hx, hb, hml, hown, hts⟩ (c_L_opened l G u E F N T (nI i) hQ (vp_in_nI (by omega) (by omega))) (va_cwS 3 hts gL_isTold_L_opened rfl rfl rfl (by decide +kernel) ⟨Nat.le_of_ble_eq_true rfl, Nat.le_of_ble_eq_true rfl⟩) (z_ps hK (z_apL hP)) rfl rfl hl.1 rfl (lv_room (Nat.le_of_ble_eq_true rfl)) dL_isTold_50 ⟨(show 250 + 6 * i + 0 ≤ 700 by omega), (show 1500 + 36 * i + 0 ≤ 4200 by omega)⟩)) (fun zr_2 hzr_2 => ?_)
        subst hzr_2
        have cut_61 : W p l e (headSpec wsL_isTold ({ frames := 9, cells := 700, slots := 4200, locals := 158 })).room s m ([.ref (r 0), .int x, .ref (u 0), .ref (u 2), .ref (u 3), .ref (u 4), .ref (u 6), .ref (u 7), .ref (u 9)] : List Value).toArray below meth c Hz Lz (250 + 6 * i) (1500 + 36 * i) (MQ below (va_Qi (fun (r1 : Int32) (wz : va_W) => r1 = 1 ∧ ∃ w2 : va_W, wz = LW G u E F ++ w2 ∧ sCO G d r N T w2) (zB G Aw) Aw) ([.ref (r 0), .int x, .ref (u 0), .ref (u 2), .ref (u 3), .ref (u 4), .ref (u 6), .ref (u 7), .ref (u 9)] : List Value).toArray s 700 4200 Aw) (F0 m 61 ls [.int (T 3 (nI i).toNatClampNeg)]) := by
          refine lv_istore (lv' := [(10, .int (T 3 (nI i).toNatClampNeg)), (0, .ref (r 0)), (1, .int x), (2, .ref (u 0)), (3, .ref (u 2)), (4, .ref (u 3)), (5, .ref (u 4)), (6, .ref (u 6)), (7, .ref (u 7)), (8, .ref (u 9)), (9, .int (nI i))]) hx hb dL_isTold_61 hl (by decide) rfl (fun ls hl => ?_)
          refine lv_aload_n hx hb dL_isTold_63 rfl (lv_at hl 1 rfl) ?_
          refine lv_iload hx hb dL_isTold_64 (lv_at hl 10 rfl) ?_
          have hkz_66 : sK1 (sIx (nI i) 8) = 0 := (sK1_ok (sIx_y (by omega) (by omega)))
          refine z_xR (G := G) (w := w) (c2 := 252 + 6 * i) (s2 := 1512 + 36 * i) (vx_runSX (hh := [(0, 6, 9, 14)]) (As := [.ref (r 0), .int (nI i)]) (rest := []) ⟨hx, hb, hml, hown, hts⟩ (h_isOpen l hst G d r A mc g N T w K (nI i) Hz.size hC hJ.1.1 (by omega) ) (vx_cwSW 2 hts gL_isTold_L_isOpen rfl rfl rfl (by decide +kernel) ⟨Nat.le_of_ble_eq_true rfl, Nat.le_of_ble_eq_true rfl⟩) (z_hs hK (z_apR hP) (z_dR hD) hZ hLx hS hA) rfl rfl hl.1 rfl (lv_room (Nat.le_of_ble_eq_true rfl)) dL_isTold_66 ⟨(show 250 + 6 * i + 2 ≤ 700 by omega), (show 1500 + 36 * i + 12 ≤ 4200 by omega)⟩) hP hD hS hA (show 250 + 6 * i + 2 ≤ 252 + 6 * i by omega) (show 1500 + 36 * i + 12 ≤ 1512 + 36 * i by omega) (fun rz_3 zw_3 Hz Lz hq hP hD hS => ?_)
          obtain ⟨hr9, A, mc, g, hC⟩ := hq.1 hkz_66
          rw [hr9]
          refine lv_iload hx hb dL_isTold_69 (lv_at hl 0 rfl) ?_
          refine lv_icmp_ne (tgt := 104) hx hb dL_isTold_71 (by decide) (fun zc_4 => absurd rfl zc_4) (fun _ => ?_)
          refine lv_aload_n hx hb dL_isTold_74 rfl (lv_at hl 1 rfl) ?_
          refine lv_iload hx hb dL_isTold_75 (lv_at hl 10 rfl) ?_
          have hkz_77 : sK1 (sIx (nI i) 8) = 0 := (sK1_ok (sIx_y (by omega) (by omega)))
          refine z_xR (G := G) (w := zw_3) (c2 := 254 + 6 * i) (s2 := 1524 + 36 * i) (vx_runSX (hh := [(0, 6, 9, 14)]) (As := [.ref (r 0), .int (nI i)]) (rest := []) ⟨hx, hb, hml, hown, hts⟩ (h_isOpenByLog l hst G d r A mc g N T zw_3 K (nI i) Hz.size hC hJ.1.1 (by omega) hLG) (vx_cwSW 2 hts gL_isTold_L_isOpenByLog rfl rfl rfl (by decide +kernel) ⟨Nat.le_of_ble_eq_true rfl, Nat.le_of_ble_eq_true rfl⟩) (z_hs hK (z_apR hP) (z_dR hD) hZ hLx hS hA) rfl rfl hl.1 rfl (lv_room (Nat.le_of_ble_eq_true rfl)) dL_isTold_77 ⟨(show 252 + 6 * i + 2 ≤ 700 by omega), (show 1512 + 36 * i + 12 ≤ 4200 by omega)⟩) hP hD hS hA (show 252 + 6 * i + 2 ≤ 254 + 6 * i by omega) (show 1512 + 36 * i + 12 ≤ 1524 + 36 * i by omega) (fun rz_5 zw_5 Hz Lz hq hP hD hS => ?_)
          obtain ⟨hr9, A, mc, g, hC⟩ := hq.1 hkz_77
          rw [hr9]
          refine lv_iload hx hb dL_isTold_80 (lv_at hl 0 rfl) ?_
          refine lv_icmp_ne (tgt := 104) hx hb dL_isTold_82 (by decide) (fun zc_6 => absurd rfl zc_6) (fun _ => ?_)
          refine lv_aload_n hx hb dL_isTold_85 rfl (lv_at hl 1 rfl) ?_
          refine lv_iload hx hb dL_isTold_86 (lv_at hl 10 rfl) ?_
          have hkz_88 : sK1 (sIx (nI i) 8) = 0 := (sK1_ok (sIx_y (by omega) (by omega)))
          refine z_xR (G := G) (w := zw_5) (c2 := 256 + 6 * i) (s2 := 1536 + 36 * i) (vx_runSX (hh := [(0, 6, 9, 14)]) (As := [.ref (r 0), .int (nI i)]) (rest := []) ⟨hx, hb, hml, hown, hts⟩ (h_tagsByLog l hst G d r A mc g N T zw_5 K (nI i) Hz.size hC hJ.1.1 (by omega) hLG) (vx_cwSW 2 hts gL_isTold_L_tagsByLog rfl rfl rfl (by decide +kernel) ⟨Nat.le_of_ble_eq_true rfl, Nat.le_of_ble_eq_true rfl⟩) (z_hs hK (z_apR hP) (z_dR hD) hZ hLx hS hA) rfl rfl hl.1 rfl (lv_room (Nat.le_of_ble_eq_true rfl)) dL_isTold_88 ⟨(show 254 + 6 * i + 2 ≤ 700 by omega), (show 1524 + 36 * i + 12 ≤ 4200 by omega)⟩) hP hD hS hA (show 254 + 6 * i + 2 ≤ 256 + 6 * i by omega) (show 1524 + 36 * i + 12 ≤ 1536 + 36 * i by omega) (fun rz_7 zw_7 Hz Lz hq hP hD hS => ?_)
          obtain ⟨hr9, A, mc, g, hC⟩ := hq.1 hkz_88
          rw [hr9]
          refine lv_aload_n hx hb dL_isTold_91 rfl (lv_at hl 3 rfl) ?_
          refine lv_aload hx hb dL_isTold_92 (lv_at hl 6 rfl) ?_
          refine lv_aload hx hb dL_isTold_94 (lv_at hl 9 rfl) ?_
          refine lv_iload hx hb dL_isTold_96 (lv_at hl 10 rfl) ?_
          refine z_csi (va_Run.run (va_runS (As := [.ref (u 0), .ref (u 4), .ref (u 9), .int (nI i)]) (rest := [.int (nI (sOn N T (nI i)))]) ⟨hx, hb, hml, hown, hts⟩ (c_L_hanging l G u E F N T (nI i) hQ) (va_cwS 4 hts gL_isTold_L_hanging rfl rfl rfl (by decide +kernel) ⟨Nat.le_of_ble_eq_true rfl, Nat.le_of_ble_eq_true rfl⟩) (z_ps hK (z_apL hP)) rfl rfl hl.1 rfl (lv_room (Nat.le_of_ble_eq_true rfl)) dL_isTold_98 ⟨(show 256 + 6 * i + 0 ≤ 700 by omega), (show 1536 + 36 * i + 0 ≤ 4200 by omega)⟩)) (fun zr_8 hzr_8 => ?_)
          subst hzr_8
          refine lv_icmp_eq (tgt := 106) hx hb dL_isTold_101 (by decide) (fun _ => ?_) (fun zc_9 => absurd rfl zc_9)
          refine lv_iinc (v := (nI (i + 1))) (lv' := [(9, .int (nI (i + 1))), (10, .int (T 3 (nI i).toNatClampNeg)), (0, .ref (r 0)), (1, .int x), (2, .ref (u 0)), (3, .ref (u 2)), (4, .ref (u 3)), (5, .ref (u 4)), (6, .ref (u 6)), (7, .ref (u 7)), (8, .ref (u 9))]) hx hb dL_isTold_106 hl (k := 10) rfl (by first | exact nI_1 _ | rfl) (by decide) rfl (fun ls hl => ?_)
          refine lv_goto (tgt := 38) hx hb dL_isTold_109 (by decide) ?_
          have hl2 := lv_sub (l' := [(0, .ref (r 0)), (1, .int x), (2, .ref (u 0)), (3, .ref (u 2)), (4, .ref (u 3)), (5, .ref (u 4)), (6, .ref (u 6)), (7, .ref (u 7)), (8, .ref (u 9)), (9, .int (nI (i + 1)))]) hl [2, 3, 4, 5, 6, 7, 8, 9, 10, 0] rfl
          exact z_widen (show 256 + 6 * i ≤ 250 + 6 * (i + 1) by omega) (show 1536 + 36 * i ≤ 1500 + 36 * (i + 1) by omega) (ih (i + 1) (by omega) (by omega)  A mc g _ hC _ _ hP hD hS ls hl2)
        refine lv_if_eq (tgt := 60) hx hb dL_isTold_53 (by decide) (fun zc_10 => ?_) (fun zc_10 => ?_)
        · skip
          refine lv_iconst (v := 0) hx hb dL_isTold_60 (by decide) ?_
          exact W.eq (congrArg (fun z : Int32 => F0 m 61 ls [.int z]) (show (0 : Int32) = T 3 (nI i).toNatClampNeg from zc_10.symm)) cut_61
        · skip
          refine lv_iconst (v := 1) hx hb dL_isTold_56 (by decide) ?_
          refine lv_goto (tgt := 61) hx hb dL_isTold_57 (by decide) ?_
          exact W.eq (congrArg (fun z : Int32 => F0 m 61 ls [.int z]) (show (1 : Int32) = T 3 (nI i).toNatClampNeg from ((hiB _).2.1.resolve_left zc_10).symm)) cut_61
  exact z_widen (show 250 ≤ 250 + 6 * 0 by omega) (show 1500 ≤ 1500 + 36 * 0 by omega) (key_38 (8 + 1) 0 (Nat.zero_le _) (by omega)  A mc g _ hC _ _ hP hD hS ls (lv_sub hl [1, 2, 3, 4, 5, 6, 7, 8, 9, 0] rfl))

set_option maxHeartbeats 4000000 in
set_option maxRecDepth 100000 in
theorem visTold_0 {p : Program} {l : Launch} {e : Env} {s : State} {m : MethodId} {below : List Frame} {meth : Method} {c : Code} {G : zG} {d : Nat} {r u : Nat → Nat} {x : Int32} {Aw : Nat → Prop} (hst : l.stackTraces = false) (hx : p.tables.exec = Jvm.exec) (hb : c.code = cL_isTold) (hr : meth.sig.returnType = some .boolean) (hml : c.maxLocals = 14) (hown : s.vm.findClass RL = some m.cls) (hts : ∀ w ∈ wsL_isTold, w.before ([.ref (r 0), .int x, .ref (u 0), .ref (u 2), .ref (u 3), .ref (u 4), .ref (u 6), .ref (u 7), .ref (u 9)] : List Value).toArray s = true) (hlocks : meth.locks = false) (hK : va_K G.1 vwCl (zT G.2) s) (hZ : zCe Aw d s s.heap) (hLx : zLx s) (hA : ∀ q : Nat, s.heap.size ≤ q → Aw q) {A : Nat → Nat} {mc : Nat → Int32} {g : Nat → Nat → Int32} {N : Nat → Nat} {T : Nat → Nat → Int32} {w : va_W} {E : Nat → Int64} {F : Nat → Nat → Int32} {K : Nat} (hC : sCQ G d r A mc g N T w) (hR : sLR N T E F) (hJ : sLJ N T K) (hK5 : K ≤ 400)    {H : Heap} {locs : List Loc} (hP : va_P G.1 vwCl (([(u 0, .inl (G.2 1, 64, .inr (.inl E))), (u 1, .inl (G.2 0, 8, .inl (F 1))), (u 2, .inl (G.2 0, 3, .inl (F 2))), (u 3, .inl (G.2 0, 3, .inl (F 3))), (u 4, .inl (G.2 0, 40, .inl (F 4))), (u 5, .inl (G.2 0, 40, .inl (F 5))), (u 6, .inl (G.2 0, 9, .inl (F 6))), (u 7, .inl (G.2 0, 12, .inl (F 7))), (u 8, .inl (G.2 0, 12, .inl (F 8))), (u 9, .inl (G.2 0, 10, .inl (F 9)))] : va_W) ++ w) H) (hD : va_D Aw (([(u 0, .inl (G.2 1, 64, .inr (.inl E))), (u 1, .inl (G.2 0, 8, .inl (F 1))), (u 2, .inl (G.2 0, 3, .inl (F 2))), (u 3, .inl (G.2 0, 3, .inl (F 3))), (u 4, .inl (G.2 0, 40, .inl (F 4))), (u 5, .inl (G.2 0, 40, .inl (F 5))), (u 6, .inl (G.2 0, 9, .inl (F 6))), (u 7, .inl (G.2 0, 12, .inl (F 7))), (u 8, .inl (G.2 0, 12, .inl (F 8))), (u 9, .inl (G.2 0, 10, .inl (F 9)))] : va_W) ++ w)) (hS : va_S Aw s.heap H locs) {ls : Array Slot} (hl : lv_has ls 14 [(0, .ref (r 0)), (1, .int x), (2, .ref (u 0)), (3, .ref (u 2)), (4, .ref (u 3)), (5, .ref (u 4)), (6, .ref (u 6)), (7, .ref (u 7)), (8, .ref (u 9))]) : W p l e (headSpec wsL_isTold ({ frames := 9, cells := 700, slots := 4200, locals := 158 })).room s m ([.ref (r 0), .int x, .ref (u 0), .ref (u 2), .ref (u 3), .ref (u 4), .ref (u 6), .ref (u 7), .ref (u 9)] : List Value).toArray below meth c H locs 0 0 (MQ below (va_Qi (fun (r1 : Int32) (wz : va_W) => r1 = 1 ∧ ∃ w2 : va_W, wz = LW G u E F ++ w2 ∧ sCO G d r N T w2) (zB G Aw) Aw) ([.ref (r 0), .int x, .ref (u 0), .ref (u 2), .ref (u 3), .ref (u 4), .ref (u 6), .ref (u 7), .ref (u 9)] : List Value).toArray s 700 4200 Aw) (F0 m 0 ls []) := by
  have hQ := hR.q hJ
  obtain ⟨hg0, hg1, hg2, hg3, hg4, hg5, hg6, hg7, hg8⟩ := hR.2.2.2.2.2.2.2.2.2
  obtain ⟨⟨hb1, hb0, hb3, hb4, hb5⟩, hlv, hlm, hLH⟩ := id hJ.2
  obtain ⟨⟨hi0, hi2, hi3, hi4, hi5, hi6, hi1⟩, hiB, hiE, hiT, hiA, hiA0, hiM, hiK, hiK0, hiX⟩ := id hJ.1.1
  have hLG := hJ.1.2
  have hS0z : va_S Aw s.heap s.heap [] := va_S.rf
  refine lv_iconst (v := 0) hx hb dL_isTold_0 (by decide) ?_
  refine lv_istore (lv' := [(9, .int 0), (0, .ref (r 0)), (1, .int x), (2, .ref (u 0)), (3, .ref (u 2)), (4, .ref (u 3)), (5, .ref (u 4)), (6, .ref (u 6)), (7, .ref (u 7)), (8, .ref (u 9))]) hx hb dL_isTold_1 hl (by decide) rfl (fun ls hl => ?_)
  have key_3 : ∀ (n i : Nat), i ≤ N 1 → N 1 < i + n → ∀ (A : Nat → Nat) (mc : Nat → Int32) (g : Nat → Nat → Int32) (w : va_W), sCQ G d r A mc g N T w → ∀ (Hz : Heap) (Lz : List Loc), va_P G.1 vwCl (([(u 0, .inl (G.2 1, 64, .inr (.inl E))), (u 1, .inl (G.2 0, 8, .inl (F 1))), (u 2, .inl (G.2 0, 3, .inl (F 2))), (u 3, .inl (G.2 0, 3, .inl (F 3))), (u 4, .inl (G.2 0, 40, .inl (F 4))), (u 5, .inl (G.2 0, 40, .inl (F 5))), (u 6, .inl (G.2 0, 9, .inl (F 6))), (u 7, .inl (G.2 0, 12, .inl (F 7))), (u 8, .inl (G.2 0, 12, .inl (F 8))), (u 9, .inl (G.2 0, 10, .inl (F 9)))] : va_W) ++ w) Hz → va_D Aw (([(u 0, .inl (G.2 1, 64, .inr (.inl E))), (u 1, .inl (G.2 0, 8, .inl (F 1))), (u 2, .inl (G.2 0, 3, .inl (F 2))), (u 3, .inl (G.2 0, 3, .inl (F 3))), (u 4, .inl (G.2 0, 40, .inl (F 4))), (u 5, .inl (G.2 0, 40, .inl (F 5))), (u 6, .inl (G.2 0, 9, .inl (F 6))), (u 7, .inl (G.2 0, 12, .inl (F 7))), (u 8, .inl (G.2 0, 12, .inl (F 8))), (u 9, .inl (G.2 0, 10, .inl (F 9)))] : va_W) ++ w) → va_S Aw s.heap Hz Lz → ∀ ls : Array Slot, lv_has ls 14 [(0, .ref (r 0)), (1, .int x), (2, .ref (u 0)), (3, .ref (u 2)), (4, .ref (u 3)), (5, .ref (u 4)), (6, .ref (u 6)), (7, .ref (u 7)), (8, .ref (u 9)), (9, .int (nI i))] → W p l e (headSpec wsL_isTold ({ frames := 9, cells := 700, slots := 4200, locals := 158 })).room s m ([.ref (r 0), .int x, .ref (u 0), .ref (u 2), .ref (u 3), .ref (u 4), .ref (u 6), .ref (u 7), .ref (u 9)] : List Value).toArray below meth c Hz Lz (0 + 2 * i) (0 + 12 * i) (MQ below (va_Qi (fun (r1 : Int32) (wz : va_W) => r1 = 1 ∧ ∃ w2 : va_W, wz = LW G u E F ++ w2 ∧ sCO G d r N T w2) (zB G Aw) Aw) ([.ref (r 0), .int x, .ref (u 0), .ref (u 2), .ref (u 3), .ref (u 4), .ref (u 6), .ref (u 7), .ref (u 9)] : List Value).toArray s 700 4200 Aw) (F0 m 3 ls []) := by
    intro n
    induction n with
    | zero => intro i hi_a hi_b; exact absurd hi_b (by omega)
    | succ n ih =>
      intro i hil hin   A mc g w hC Hz Lz hP hD hS ls hl
      refine lv_iload hx hb dL_isTold_3 (lv_at hl 9 rfl) ?_
      refine lv_aload hx hb dL_isTold_5 (lv_at hl 8 rfl) ?_
      refine lv_iconst (v := 1) hx hb dL_isTold_7 (by decide) ?_
      refine va_iald hx hb hK (z_apL hP) 9 0 rfl rfl (vp_in_nI (n := 1) (by decide) (by decide)) dL_isTold_8 ?_
      refine W.eq (g2 := F0 m 9 ls [.int (nI (N 1)), .int (nI i)]) (by rw [show (F 9) (1 : Int32).toNatClampNeg = nI (N 1) from hg1]) ?_
      refine lv_icmp_ge (tgt := 35) hx hb dL_isTold_9 (by decide) (fun zc_1 => ?_) (fun zc_1 => ?_)
      · skip
        have zd_1 := Int32.not_lt.mpr zc_1
        have zhc := (nI_leI (by omega) (by omega)).mp zc_1
        have zie := Nat.le_antisymm hil zhc
        subst zie
        exact z_widen (show 0 + 2 * (N 1) ≤ 250 by omega) (show 0 + 12 * (N 1) ≤ 1500 by omega) (visTold_35 hst hx hb hr hml hown hts hlocks hK hZ hLx hA hC hR hJ hK5  hP hD hS (lv_sub hl [0, 1, 2, 3, 4, 5, 6, 7, 8] rfl))
      · skip
        have zd_1 := Int32.not_le.mp zc_1
        have zhc := Nat.lt_of_not_le (fun z => zc_1 ((nI_leI (by omega) (by omega)).mpr z))
        have hlt : i < N 1 := zhc
        refine lv_aload_n hx hb dL_isTold_12 rfl (lv_at hl 0 rfl) ?_
        refine lv_iload hx hb dL_isTold_13 (lv_at hl 9 rfl) ?_
        have hkz_15 : sK1 (sIx (nI i) (N 1)) = 0 := (sK1_ok (sIx_y (by omega) (by omega)))
        refine z_xR (G := G) (w := w) (c2 := 2 + 2 * i) (s2 := 12 + 12 * i) (vx_runSX (hh := [(0, 6, 9, 14)]) (As := [.ref (r 0), .int (nI i)]) (rest := []) ⟨hx, hb, hml, hown, hts⟩ (h_entryAt l hst G d r A mc g N T w K (nI i) Hz.size hC hJ.1.1 (by omega) ) (vx_cwSW 2 hts gL_isTold_L_entryAt rfl rfl rfl (by decide +kernel) ⟨Nat.le_of_ble_eq_true rfl, Nat.le_of_ble_eq_true rfl⟩) (z_hs hK (z_apR hP) (z_dR hD) hZ hLx hS hA) rfl rfl hl.1 rfl (lv_room (Nat.le_of_ble_eq_true rfl)) dL_isTold_15 ⟨(show 0 + 2 * i + 2 ≤ 700 by omega), (show 0 + 12 * i + 12 ≤ 4200 by omega)⟩) hP hD hS hA (show 0 + 2 * i + 2 ≤ 2 + 2 * i by omega) (show 0 + 12 * i + 12 ≤ 12 + 12 * i by omega) (fun rz_2 zw_2 Hz Lz hq hP hD hS => ?_)
        obtain ⟨hr9, A, mc, g, hC⟩ := hq.1 hkz_15
        rw [hr9]
        refine W.eq (g2 := F0 m 18 ls [.int (T 0 i)]) (by first | (rw [nI_clamp (by omega)]; done) | (rw [nI_clamp (by omega)]; rfl)) ?_
        refine lv_aload_n hx hb dL_isTold_18 rfl (lv_at hl 2 rfl) ?_
        refine lv_iload hx hb dL_isTold_19 (lv_at hl 9 rfl) ?_
        refine z_csi (va_Run.run (va_runS (As := [.ref (u 0), .int (nI i)]) (rest := [.int (T 0 i)]) ⟨hx, hb, hml, hown, hts⟩ (c_L_entry l G u E F N T i hQ hlt) (va_cwS 2 hts gL_isTold_L_entry rfl rfl rfl (by decide +kernel) ⟨Nat.le_of_ble_eq_true rfl, Nat.le_of_ble_eq_true rfl⟩) (z_ps hK (z_apL hP)) rfl rfl hl.1 rfl (lv_room (Nat.le_of_ble_eq_true rfl)) dL_isTold_21 ⟨(show 2 + 2 * i + 0 ≤ 700 by omega), (show 12 + 12 * i + 0 ≤ 4200 by omega)⟩)) (fun zr_3 hzr_3 => ?_)
        subst hzr_3
        refine lv_icmp_eq (tgt := 29) hx hb dL_isTold_24 (by decide) (fun _ => ?_) (fun zc_4 => absurd rfl zc_4)
        refine lv_iinc (v := (nI (i + 1))) (lv' := [(9, .int (nI (i + 1))), (0, .ref (r 0)), (1, .int x), (2, .ref (u 0)), (3, .ref (u 2)), (4, .ref (u 3)), (5, .ref (u 4)), (6, .ref (u 6)), (7, .ref (u 7)), (8, .ref (u 9))]) hx hb dL_isTold_29 hl (k := 9) rfl (by first | exact nI_1 _ | rfl) (by decide) rfl (fun ls hl => ?_)
        refine lv_goto (tgt := 3) hx hb dL_isTold_32 (by decide) ?_
        have hl2 := lv_sub (l' := [(0, .ref (r 0)), (1, .int x), (2, .ref (u 0)), (3, .ref (u 2)), (4, .ref (u 3)), (5, .ref (u 4)), (6, .ref (u 6)), (7, .ref (u 7)), (8, .ref (u 9)), (9, .int (nI (i + 1)))]) hl [1, 2, 3, 4, 5, 6, 7, 8, 9, 0] rfl
        exact z_widen (show 2 + 2 * i ≤ 0 + 2 * (i + 1) by omega) (show 12 + 12 * i ≤ 0 + 12 * (i + 1) by omega) (ih (i + 1) (by omega) (by omega)  A mc g _ hC _ _ hP hD hS ls hl2)
  exact z_widen (show 0 ≤ 0 + 2 * 0 by omega) (show 0 ≤ 0 + 12 * 0 by omega) (key_3 (N 1 + 1) 0 (Nat.zero_le _) (by omega)  A mc g _ hC _ _ hP hD hS ls (lv_sub hl [1, 2, 3, 4, 5, 6, 7, 8, 9, 0] rfl))
set_option maxHeartbeats 4000000 in
set_option maxRecDepth 100000 in
theorem c_L_isTold (l : Launch) (hst : l.stackTraces = false) (G : zG) (d : Nat) (r u : Nat → Nat) (x : Int32) (A : Nat → Nat) (mc : Nat → Int32) (g : Nat → Nat → Int32) (N : Nat → Nat) (T : Nat → Nat → Int32) (w : va_W) (E : Nat → Int64) (F : Nat → Nat → Int32) (K sz : Nat) (hC : sCQ G d r A mc g N T w) (hR : sLR N T E F) (hJ : sLJ N T K) (hK5 : K ≤ 400)  : Met l yL_isTold wsL_isTold ({ frames := 9, cells := 700, slots := 4200, locals := 158 }) (va_Pc [.ref (r 0), .int x, .ref (u 0), .ref (u 2), .ref (u 3), .ref (u 4), .ref (u 6), .ref (u 7), .ref (u 9)] (zHu G d (LW G u E F ++ w) sz)) (va_Qi (fun (r1 : Int32) (wz : va_W) => r1 = 1 ∧ ∃ w2 : va_W, wz = LW G u E F ++ w2 ∧ sCO G d r N T w2) (zB G (va_A (LW G u E F ++ w) sz)) (va_A (LW G u E F ++ w) sz)) 700 4200 (va_A (LW G u E F ++ w) sz) := by
  refine Met.ofW (cc := cL_isTold) (maxL := 14) (ret := (some .boolean)) (by decide) rfl ?_
  intro p e s m args below meth c s₁ B hml hv
  obtain ⟨rfl, ⟨hsz, hP, hK, hD0, hZ⟩, hLx⟩ := hv
  have hx := B.exec
  have hb := B.bytes
  have hr := B.returns
  have hts := atoms_spec (ws := wsL_isTold) B.pre
  have hown : s.vm.findClass RL = some m.cls := findClass_of_methodNamed B.named
  have hlocks := B.notSynchronized
  subst hsz
  have hD := hD0.self (sz := s.heap.size)
  generalize hAe : va_A (LW G u E F ++ w) s.heap.size = Aw at hD hZ ⊢
  have hA : ∀ q : Nat, s.heap.size ≤ q → Aw q := fun q h => by rw [← hAe]; exact Or.inr h
  have hS : va_S Aw s.heap s.heap [] := va_S.rf
  have hl := lv_entry ([.ref (r 0), .int x, .ref (u 0), .ref (u 2), .ref (u 3), .ref (u 4), .ref (u 6), .ref (u 7), .ref (u 9)]) (n := 14) (Nat.le_of_ble_eq_true rfl)
  rw [lg_entry_eq]
  generalize (lg_sl ([.ref (r 0), .int x, .ref (u 0), .ref (u 2), .ref (u 3), .ref (u 4), .ref (u 6), .ref (u 7), .ref (u 9)]) ++ List.replicate (14 - (lg_sl ([.ref (r 0), .int x, .ref (u 0), .ref (u 2), .ref (u 3), .ref (u 4), .ref (u 6), .ref (u 7), .ref (u 9)])).length) Slot.unset).toArray = ls at hl ⊢
  exact visTold_0 hst hx hb hr hml hown hts hlocks hK hZ hLx hA hC hR hJ hK5  hP hD hS hl
