set_option maxHeartbeats 4000000 in
set_option maxRecDepth 100000 in
theorem law_c24 {p : Program} {l : Launch} {e : Env} {s : State} {m : MethodId} {below : List Frame} {meth : Method} {c : Code} {b L : Nat} {xs : Nat → Int32} (hL : L ≤ 3072) (hst : l.stackTraces = false) (C0 : zLA p s m c b L xs) {G : zG} {d : Nat} (hE : zLe G d s) {r q : Nat → Nat} {o K : Nat} {N : Nat → Nat} {T : Nat → Nat → Int32} {wz : va_W} {H : Heap} {locs : List Loc} (hw : zLw G d r q o K N T wz) (hi : 6 * K + 6 ≤ L) (hP : va_P G.1 vwCl wz H) (hD : va_D (fun a => s.heap.size ≤ a) wz) (hS : va_S (fun a => s.heap.size ≤ a) s.heap H locs) {ls : Array Slot} (hl : lv_has ls 7 [(4, .int (nI (6 * K))), (0, .ref b), (1, .ref (r 0)), (2, .ref (q 0)), (3, .ref o)]) (kk : zKK p l e s m below meth c b G d r q o K) : W p l e room_1 s m #[Value.ref b] below meth c H locs (zLc K N) (zLs K N) (lw_Z below #[Value.ref b] s) (F0 m 1538 ls []) := by
  obtain ⟨hx, hb, hml, hown, hts, hXs, hbl⟩ := C0
  obtain ⟨hK, hZ, hLx⟩ := hE
  have hA : ∀ a : Nat, s.heap.size ≤ a → (fun a : Nat => s.heap.size ≤ a) a := fun _ h => h
  have hbA : ¬ (fun a : Nat => s.heap.size ≤ a) b := Nat.not_le.mpr hbl
  obtain ⟨A, mc, g, w, wm, th, f, rfl, hC, hMO, hGo⟩ := hw
  obtain ⟨E, hg, ag, mn, sd, tk, sg, sn, rfl, hM⟩ := hMO
  have hK5 : K ≤ 511 := by omega
  obtain ⟨a1, hz1⟩ : ∃ y, y = xs (6 * K + 1) := ⟨_, rfl⟩
  obtain ⟨a2, hz2⟩ : ∃ y, y = xs (6 * K + 2) := ⟨_, rfl⟩
  have hrm := zRk hGo hK5 (N2 := ((nPost N T a2).1)) (T2 := ((nPost N T a2).2)) (k := sK2 ((sIx a1 9) && (decide (a2 = -1) || sIx a2 (N 6))) (((decide (T 2 a1.toNatClampNeg = 0)) && (sGood (T 17) (N 4))) && !decide (N 5 = 60))) (fun hk => (g_post hGo hk))
  refine lv_aload_n hx hb dL_law_1538 rfl (lv_at hl 2 rfl) ?_
  refine z_arg hx hb hXs hbl hbA hS (k := 1) (lv_at hl 1 rfl) (lv_at hl 0 rfl) (by decide) (by omega) hL hz1 dL_law_1539 dL_law_1540 dL_law_1542 dL_law_1543 dL_law_1544 ?_
  refine z_arg hx hb hXs hbl hbA hS (k := 2) (lv_at hl 1 rfl) (lv_at hl 0 rfl) (by decide) (by omega) hL hz2 dL_law_1545 dL_law_1546 dL_law_1548 dL_law_1549 dL_law_1550 ?_
  refine lv_aload_n hx hb dL_law_1551 rfl (lv_at hl 4 rfl) ?_
  refine z_xi (G := G) (w := (w ++ ([(o, zOut G f)] : va_W))) (vx_runSX (hh := [(0, 10, 13, 13), (0, 10, 17, 17)]) (As := [.ref (r 0), .int a1, .int a2, .ref o]) (rest := []) ⟨hx, hb, hml, hown, hts⟩ (h_post l hst G d r A mc g N T w K a1 a2 o f H.size hC hGo.1 hK5 ) (vx_cwSW 4 hts gL_law_L_post rfl rfl rfl (by decide +kernel) ⟨Nat.le_of_ble_eq_true rfl, Nat.le_of_ble_eq_true rfl⟩) (z_hs hK (z_apL hP) (z_dL hD) hZ hLx hS hA) rfl rfl hl.1 rfl (lv_room (Nat.le_of_ble_eq_true rfl)) dL_law_1552 hrm) hP hD hS hA (fun i E ce q9 Hz Lz hk hE hP hS hce hcv hcl => absurd hE (by simp)) (fun k5 w1 Hz Lz hq hP hD hS => ?_)
  obtain ⟨hk5, w2, f2, rfl, h0, h1⟩ := hq
  subst hk5
  refine lv_istore (lv' := [(5, .int (sK2 ((sIx a1 9) && (decide (a2 = -1) || sIx a2 (N 6))) (((decide (T 2 a1.toNatClampNeg = 0)) && (sGood (T 17) (N 4))) && !decide (N 5 = 60)))), (4, .int (nI (6 * K))), (0, .ref b), (1, .ref (r 0)), (2, .ref (q 0)), (3, .ref o)]) hx hb dL_law_1555 hl (by decide) rfl (fun ls hl => ?_)
  refine lv_aload_n hx hb dL_law_1557 rfl (lv_at hl 4 rfl) ?_
  refine z_arg hx hb hXs hbl hbA hS (k := 1) (lv_at hl 2 rfl) (lv_at hl 1 rfl) (by decide) (by omega) hL hz1 dL_law_1558 dL_law_1559 dL_law_1561 dL_law_1562 dL_law_1563 ?_
  refine z_arg hx hb hXs hbl hbA hS (k := 2) (lv_at hl 2 rfl) (lv_at hl 1 rfl) (by decide) (by omega) hL hz2 dL_law_1564 dL_law_1565 dL_law_1567 dL_law_1568 dL_law_1569 ?_
  refine z_li (G := G) (w := mW G q th N T E hg ag mn sd tk sg sn) (wr := w2 ++ ([(o, zOut G f2)] : va_W)) (va_runV (As := [.int a1, .int a2]) (rest := []) ⟨hx, hb, hml, hown, hts⟩ (c_X7_post l G q th N T E hg ag mn sd tk sg sn a1 a2 K Hz.size hGo.1 (by omega) hM ) (cwV 2 hts gL_law_X7_post rfl rfl rfl (by decide +kernel) ⟨Nat.le_of_ble_eq_true rfl, Nat.le_of_ble_eq_true rfl⟩) (z_uv hK (z_apL (z_psw hP)) (ci := 8) (q0 := 0) rfl rfl (z_apL (z_psw hP)) (z_dL (z_dsw hD))) rfl rfl hl.1 rfl (lv_room (Nat.le_of_ble_eq_true rfl)) dL_law_1570 hrm) (z_psw hP) (z_dsw hD) hS hA (fun rb wm1 Hz Lz hm hP hD hS => ?_)
  by_cases hk : sK2 ((sIx a1 9) && (decide (a2 = -1) || sIx a2 (N 6))) (((decide (T 2 a1.toNatClampNeg = 0)) && (sGood (T 17) (N 4))) && !decide (N 5 = 60)) = 0
  · skip
    obtain ⟨hrb, E1, hg1, ag1, mn1, sd1, tk1, sg1, sn1, rfl, hM1⟩ := hm.1 hk
    obtain ⟨hf2, A2, mc2, g2, hC2⟩ := h0 hk
    subst hrb
    refine lv_istore (lv' := [(6, .int (rPost N a2)), (5, .int (sK2 ((sIx a1 9) && (decide (a2 = -1) || sIx a2 (N 6))) (((decide (T 2 a1.toNatClampNeg = 0)) && (sGood (T 17) (N 4))) && !decide (N 5 = 60)))), (4, .int (nI (6 * K))), (0, .ref b), (1, .ref (r 0)), (2, .ref (q 0)), (3, .ref o)]) hx hb dL_law_1573 hl (by decide) rfl (fun ls hl => ?_)
    refine lv_aload_n hx hb dL_law_1575 rfl (lv_at hl 5 rfl) ?_
    refine z_csi (va_Run.run (va_runV (As := []) (rest := []) ⟨hx, hb, hml, hown, hts⟩ (c_X7_thrown l G q (sK2 ((sIx a1 9) && (decide (a2 = -1) || sIx a2 (N 6))) (((decide (T 2 a1.toNatClampNeg = 0)) && (sGood (T 17) (N 4))) && !decide (N 5 = 60))) ((nPost N T a2).1) ((nPost N T a2).2) E1 hg1 ag1 mn1 sd1 tk1 sg1 sn1) (cwV 0 hts gL_law_X7_thrown rfl rfl rfl (by decide +kernel) ⟨Nat.le_of_ble_eq_true rfl, Nat.le_of_ble_eq_true rfl⟩) (z_pv hK (z_apL hP) (ci := 8) (q0 := 0) rfl rfl (z_apL hP)) rfl rfl hl.1 rfl (lv_room (Nat.le_of_ble_eq_true rfl)) dL_law_1576 hrm)) (fun zt hzt => ?_)
    subst hzt
    refine lv_iload hx hb dL_law_1579 (lv_at hl 1 rfl) ?_
    refine lv_icmp_eq (tgt := 1586) hx hb dL_law_1581 (by decide) (fun _ => ?_) (fun h => absurd rfl h)
    refine lv_iload hx hb dL_law_1586 (lv_at hl 1 rfl) ?_
    refine lv_if_ne (tgt := 1603) hx hb dL_law_1588 (by decide) (fun h => absurd hk h) (fun _ => ?_)
    refine lv_aload_n hx hb dL_law_1591 rfl (lv_at hl 6 rfl) ?_
    refine lv_iconst (v := 0) hx hb dL_law_1592 (by decide) ?_
    refine va_lald hx hb hK (z_apR hP) w2.length 1 z_atx rfl (vp_in_nI (n := 0) (by decide) (by decide)) dL_law_1593 ?_
    rw [show f2 (0 : Int32).toNatClampNeg = (rPost N a2 : Int32).toInt64 from hf2]
    refine lv_iload hx hb dL_law_1594 (lv_at hl 0 rfl) ?_
    refine lv_i2l (v := (rPost N a2 : Int32).toInt64) hx hb dL_law_1596 rfl ?_
    refine W.lcmp hx hb dL_law_1597 ?_
    rw [zcmp rfl]
    refine lv_if_eq (tgt := 1603) hx hb dL_law_1598 (by decide) (fun _ => ?_) (fun h => absurd rfl h)
    refine lv_goto (tgt := 1915) hx hb dL_law_1603 (by decide) ?_
    exact z_widen (zUp0 (K := K) (N := N) (N2 := ((nPost N T a2).1)) (k := sK2 ((sIx a1 9) && (decide (a2 = -1) || sIx a2 (N 6))) (((decide (T 2 a1.toNatClampNeg = 0)) && (sGood (T 17) (N 4))) && !decide (N 5 = 60))) hk (m_post hGo.1.1.2.2.2.2.1)).1 (zUp0 (K := K) (N := N) (N2 := ((nPost N T a2).1)) (k := sK2 ((sIx a1 9) && (decide (a2 = -1) || sIx a2 (N 6))) (((decide (T 2 a1.toNatClampNeg = 0)) && (sGood (T 17) (N 4))) && !decide (N 5 = 60))) hk (m_post hGo.1.1.2.2.2.2.1)).2 (kk ((nPost N T a2).1) ((nPost N T a2).2) _ _ _ _ ⟨_, _, _, _, _, _, _, rfl, hC2, ⟨E1, hg1, ag1, mn1, sd1, tk1, sg1, sn1, rfl, hM1⟩, (g_post hGo hk)⟩ (z_psw hP) (z_dsw hD) hS (lv_sub hl [2, 3, 4, 5, 6] rfl))
  · skip
    obtain ⟨E1, hg1, ag1, mn1, sd1, tk1, sg1, sn1, rfl, hM1⟩ := hm.2 hk
    obtain ⟨A2, mc2, g2, hC2⟩ := h1 hk
    refine lv_istore (lv' := [(6, .int rb), (5, .int (sK2 ((sIx a1 9) && (decide (a2 = -1) || sIx a2 (N 6))) (((decide (T 2 a1.toNatClampNeg = 0)) && (sGood (T 17) (N 4))) && !decide (N 5 = 60)))), (4, .int (nI (6 * K))), (0, .ref b), (1, .ref (r 0)), (2, .ref (q 0)), (3, .ref o)]) hx hb dL_law_1573 hl (by decide) rfl (fun ls hl => ?_)
    refine lv_aload_n hx hb dL_law_1575 rfl (lv_at hl 5 rfl) ?_
    refine z_csi (va_Run.run (va_runV (As := []) (rest := []) ⟨hx, hb, hml, hown, hts⟩ (c_X7_thrown l G q (sK2 ((sIx a1 9) && (decide (a2 = -1) || sIx a2 (N 6))) (((decide (T 2 a1.toNatClampNeg = 0)) && (sGood (T 17) (N 4))) && !decide (N 5 = 60))) N T E1 hg1 ag1 mn1 sd1 tk1 sg1 sn1) (cwV 0 hts gL_law_X7_thrown rfl rfl rfl (by decide +kernel) ⟨Nat.le_of_ble_eq_true rfl, Nat.le_of_ble_eq_true rfl⟩) (z_pv hK (z_apL hP) (ci := 8) (q0 := 0) rfl rfl (z_apL hP)) rfl rfl hl.1 rfl (lv_room (Nat.le_of_ble_eq_true rfl)) dL_law_1576 hrm)) (fun zt hzt => ?_)
    subst hzt
    refine lv_iload hx hb dL_law_1579 (lv_at hl 1 rfl) ?_
    refine lv_icmp_eq (tgt := 1586) hx hb dL_law_1581 (by decide) (fun _ => ?_) (fun h => absurd rfl h)
    refine lv_iload hx hb dL_law_1586 (lv_at hl 1 rfl) ?_
    refine lv_if_ne (tgt := 1603) hx hb dL_law_1588 (by decide) (fun _ => ?_) (fun h => absurd h hk)
    refine lv_goto (tgt := 1915) hx hb dL_law_1603 (by decide) ?_
    exact z_widen (zUpn (K := K) (N := N) (a := N 1) (b := ((nPost N T a2).1) 1) (k := sK2 ((sIx a1 9) && (decide (a2 = -1) || sIx a2 (N 6))) (((decide (T 2 a1.toNatClampNeg = 0)) && (sGood (T 17) (N 4))) && !decide (N 5 = 60))) hk).1 (zUpn (K := K) (N := N) (a := N 1) (b := ((nPost N T a2).1) 1) (k := sK2 ((sIx a1 9) && (decide (a2 = -1) || sIx a2 (N 6))) (((decide (T 2 a1.toNatClampNeg = 0)) && (sGood (T 17) (N 4))) && !decide (N 5 = 60))) hk).2 (kk N T _ _ _ _ ⟨_, _, _, _, _, _, _, rfl, hC2, ⟨E1, hg1, ag1, mn1, sd1, tk1, sg1, sn1, rfl, hM1⟩, hGo.up⟩ (z_psw hP) (z_dsw hD) hS (lv_sub hl [2, 3, 4, 5, 6] rfl))

set_option maxHeartbeats 4000000 in
set_option maxRecDepth 100000 in
theorem law_c25 {p : Program} {l : Launch} {e : Env} {s : State} {m : MethodId} {below : List Frame} {meth : Method} {c : Code} {b L : Nat} {xs : Nat → Int32} (hL : L ≤ 3072) (hst : l.stackTraces = false) (C0 : zLA p s m c b L xs) {G : zG} {d : Nat} (hE : zLe G d s) {r q : Nat → Nat} {o K : Nat} {N : Nat → Nat} {T : Nat → Nat → Int32} {wz : va_W} {H : Heap} {locs : List Loc} (hw : zLw G d r q o K N T wz) (hi : 6 * K + 6 ≤ L) (hP : va_P G.1 vwCl wz H) (hD : va_D (fun a => s.heap.size ≤ a) wz) (hS : va_S (fun a => s.heap.size ≤ a) s.heap H locs) {ls : Array Slot} (hl : lv_has ls 7 [(4, .int (nI (6 * K))), (0, .ref b), (1, .ref (r 0)), (2, .ref (q 0)), (3, .ref o)]) (kk : zKK p l e s m below meth c b G d r q o K) : W p l e room_1 s m #[Value.ref b] below meth c H locs (zLc K N) (zLs K N) (lw_Z below #[Value.ref b] s) (F0 m 1606 ls []) := by
  obtain ⟨hx, hb, hml, hown, hts, hXs, hbl⟩ := C0
  obtain ⟨hK, hZ, hLx⟩ := hE
  have hA : ∀ a : Nat, s.heap.size ≤ a → (fun a : Nat => s.heap.size ≤ a) a := fun _ h => h
  have hbA : ¬ (fun a : Nat => s.heap.size ≤ a) b := Nat.not_le.mpr hbl
  obtain ⟨A, mc, g, w, wm, th, f, rfl, hC, hMO, hGo⟩ := hw
  obtain ⟨E, hg, ag, mn, sd, tk, sg, sn, rfl, hM⟩ := hMO
  have hK5 : K ≤ 511 := by omega
  obtain ⟨a1, hz1⟩ : ∃ y, y = xs (6 * K + 1) := ⟨_, rfl⟩
  obtain ⟨a2, hz2⟩ : ∃ y, y = xs (6 * K + 2) := ⟨_, rfl⟩
  have hrm := zRk hGo hK5 (N2 := ((nFin N T a1 a2).1)) (T2 := ((nFin N T a1 a2).2)) (k := sK2 ((sIx a1 9) && (sIx a2 (N 6))) ((decide (T 18 a2.toNatClampNeg = a1)) && (decide (T 2 a1.toNatClampNeg = 0)))) (fun hk => (g_fin hGo hk))
  refine lv_aload_n hx hb dL_law_1606 rfl (lv_at hl 2 rfl) ?_
  refine z_arg hx hb hXs hbl hbA hS (k := 1) (lv_at hl 1 rfl) (lv_at hl 0 rfl) (by decide) (by omega) hL hz1 dL_law_1607 dL_law_1608 dL_law_1610 dL_law_1611 dL_law_1612 ?_
  refine z_arg hx hb hXs hbl hbA hS (k := 2) (lv_at hl 1 rfl) (lv_at hl 0 rfl) (by decide) (by omega) hL hz2 dL_law_1613 dL_law_1614 dL_law_1616 dL_law_1617 dL_law_1618 ?_
  rw [List.append_assoc] at hP hD
  refine z_xi (G := G) (w := w) (vx_runSX (hh := [(0, 6, 9, 13), (0, 6, 12, 17)]) (As := [.ref (r 0), .int a1, .int a2]) (rest := []) ⟨hx, hb, hml, hown, hts⟩ (h_finish l hst G d r A mc g N T w K a1 a2 H.size hC hGo.1 hK5 ) (vx_cwSW 3 hts gL_law_L_finish rfl rfl rfl (by decide +kernel) ⟨Nat.le_of_ble_eq_true rfl, Nat.le_of_ble_eq_true rfl⟩) (z_hs hK (z_apL hP) (z_dL hD) hZ hLx hS hA) rfl rfl hl.1 rfl (lv_room (Nat.le_of_ble_eq_true rfl)) dL_law_1619 hrm) hP hD hS hA (fun i E ce q9 Hz Lz hk hE hP hS hce hcv hcl => absurd hE (by simp)) (fun k5 w1 Hz Lz hq hP hD hS => ?_)
  obtain ⟨hk5, h0, h1⟩ := hq
  subst hk5
  rw [← List.append_assoc] at hP hD
  refine lv_istore (lv' := [(5, .int (sK2 ((sIx a1 9) && (sIx a2 (N 6))) ((decide (T 18 a2.toNatClampNeg = a1)) && (decide (T 2 a1.toNatClampNeg = 0))))), (4, .int (nI (6 * K))), (0, .ref b), (1, .ref (r 0)), (2, .ref (q 0)), (3, .ref o)]) hx hb dL_law_1622 hl (by decide) rfl (fun ls hl => ?_)
  refine lv_aload_n hx hb dL_law_1624 rfl (lv_at hl 4 rfl) ?_
  refine z_arg hx hb hXs hbl hbA hS (k := 1) (lv_at hl 2 rfl) (lv_at hl 1 rfl) (by decide) (by omega) hL hz1 dL_law_1625 dL_law_1626 dL_law_1628 dL_law_1629 dL_law_1630 ?_
  refine z_arg hx hb hXs hbl hbA hS (k := 2) (lv_at hl 2 rfl) (lv_at hl 1 rfl) (by decide) (by omega) hL hz2 dL_law_1631 dL_law_1632 dL_law_1634 dL_law_1635 dL_law_1636 ?_
  refine z_lv (G := G) (w := mW G q th N T E hg ag mn sd tk sg sn) (wr := w1 ++ ([(o, zOut G f)] : va_W)) (va_runV (As := [.int a1, .int a2]) (rest := []) ⟨hx, hb, hml, hown, hts⟩ (c_X7_finish l G q th N T E hg ag mn sd tk sg sn a1 a2 K Hz.size hGo.1 (by omega) hM ) (cwV 2 hts gL_law_X7_finish rfl rfl rfl (by decide +kernel) ⟨Nat.le_of_ble_eq_true rfl, Nat.le_of_ble_eq_true rfl⟩) (z_uv hK (z_apL (z_psw hP)) (ci := 8) (q0 := 0) rfl rfl (z_apL (z_psw hP)) (z_dL (z_dsw hD))) rfl rfl hl.1 rfl (lv_room (Nat.le_of_ble_eq_true rfl)) dL_law_1637 hrm) (z_psw hP) (z_dsw hD) hS hA (fun wm1 Hz Lz hm hP hD hS => ?_)
  by_cases hk : sK2 ((sIx a1 9) && (sIx a2 (N 6))) ((decide (T 18 a2.toNatClampNeg = a1)) && (decide (T 2 a1.toNatClampNeg = 0))) = 0
  · skip
    obtain ⟨E1, hg1, ag1, mn1, sd1, tk1, sg1, sn1, rfl, hM1⟩ := hm.1 hk
    obtain ⟨A2, mc2, g2, hC2⟩ := h0 hk
    refine lv_aload_n hx hb dL_law_1640 rfl (lv_at hl 4 rfl) ?_
    refine z_csi (va_Run.run (va_runV (As := []) (rest := []) ⟨hx, hb, hml, hown, hts⟩ (c_X7_thrown l G q (sK2 ((sIx a1 9) && (sIx a2 (N 6))) ((decide (T 18 a2.toNatClampNeg = a1)) && (decide (T 2 a1.toNatClampNeg = 0)))) ((nFin N T a1 a2).1) ((nFin N T a1 a2).2) E1 hg1 ag1 mn1 sd1 tk1 sg1 sn1) (cwV 0 hts gL_law_X7_thrown rfl rfl rfl (by decide +kernel) ⟨Nat.le_of_ble_eq_true rfl, Nat.le_of_ble_eq_true rfl⟩) (z_pv hK (z_apL hP) (ci := 8) (q0 := 0) rfl rfl (z_apL hP)) rfl rfl hl.1 rfl (lv_room (Nat.le_of_ble_eq_true rfl)) dL_law_1641 hrm)) (fun zt hzt => ?_)
    subst hzt
    refine lv_iload hx hb dL_law_1644 (lv_at hl 0 rfl) ?_
    refine lv_icmp_eq (tgt := 1651) hx hb dL_law_1646 (by decide) (fun _ => ?_) (fun h => absurd rfl h)
    refine lv_goto (tgt := 1915) hx hb dL_law_1651 (by decide) ?_
    exact z_widen (zUp0 (K := K) (N := N) (N2 := ((nFin N T a1 a2).1)) (k := sK2 ((sIx a1 9) && (sIx a2 (N 6))) ((decide (T 18 a2.toNatClampNeg = a1)) && (decide (T 2 a1.toNatClampNeg = 0)))) hk (Nat.le_succ _)).1 (zUp0 (K := K) (N := N) (N2 := ((nFin N T a1 a2).1)) (k := sK2 ((sIx a1 9) && (sIx a2 (N 6))) ((decide (T 18 a2.toNatClampNeg = a1)) && (decide (T 2 a1.toNatClampNeg = 0)))) hk (Nat.le_succ _)).2 (kk ((nFin N T a1 a2).1) ((nFin N T a1 a2).2) _ _ _ _ ⟨_, _, _, _, _, _, _, rfl, hC2, ⟨E1, hg1, ag1, mn1, sd1, tk1, sg1, sn1, rfl, hM1⟩, (g_fin hGo hk)⟩ (z_psw hP) (z_dsw hD) hS (lv_sub hl [1, 2, 3, 4, 5] rfl))
  · skip
    obtain ⟨E1, hg1, ag1, mn1, sd1, tk1, sg1, sn1, rfl, hM1⟩ := hm.2 hk
    obtain ⟨A2, mc2, g2, hC2⟩ := h1 hk
    refine lv_aload_n hx hb dL_law_1640 rfl (lv_at hl 4 rfl) ?_
    refine z_csi (va_Run.run (va_runV (As := []) (rest := []) ⟨hx, hb, hml, hown, hts⟩ (c_X7_thrown l G q (sK2 ((sIx a1 9) && (sIx a2 (N 6))) ((decide (T 18 a2.toNatClampNeg = a1)) && (decide (T 2 a1.toNatClampNeg = 0)))) N T E1 hg1 ag1 mn1 sd1 tk1 sg1 sn1) (cwV 0 hts gL_law_X7_thrown rfl rfl rfl (by decide +kernel) ⟨Nat.le_of_ble_eq_true rfl, Nat.le_of_ble_eq_true rfl⟩) (z_pv hK (z_apL hP) (ci := 8) (q0 := 0) rfl rfl (z_apL hP)) rfl rfl hl.1 rfl (lv_room (Nat.le_of_ble_eq_true rfl)) dL_law_1641 hrm)) (fun zt hzt => ?_)
    subst hzt
    refine lv_iload hx hb dL_law_1644 (lv_at hl 0 rfl) ?_
    refine lv_icmp_eq (tgt := 1651) hx hb dL_law_1646 (by decide) (fun _ => ?_) (fun h => absurd rfl h)
    refine lv_goto (tgt := 1915) hx hb dL_law_1651 (by decide) ?_
    exact z_widen (zUpn (K := K) (N := N) (a := N 1) (b := ((nFin N T a1 a2).1) 1) (k := sK2 ((sIx a1 9) && (sIx a2 (N 6))) ((decide (T 18 a2.toNatClampNeg = a1)) && (decide (T 2 a1.toNatClampNeg = 0)))) hk).1 (zUpn (K := K) (N := N) (a := N 1) (b := ((nFin N T a1 a2).1) 1) (k := sK2 ((sIx a1 9) && (sIx a2 (N 6))) ((decide (T 18 a2.toNatClampNeg = a1)) && (decide (T 2 a1.toNatClampNeg = 0)))) hk).2 (kk N T _ _ _ _ ⟨_, _, _, _, _, _, _, rfl, hC2, ⟨E1, hg1, ag1, mn1, sd1, tk1, sg1, sn1, rfl, hM1⟩, hGo.up⟩ (z_psw hP) (z_dsw hD) hS (lv_sub hl [1, 2, 3, 4, 5] rfl))

set_option maxHeartbeats 4000000 in
set_option maxRecDepth 100000 in
theorem law_c26 {p : Program} {l : Launch} {e : Env} {s : State} {m : MethodId} {below : List Frame} {meth : Method} {c : Code} {b L : Nat} {xs : Nat → Int32} (hL : L ≤ 3072) (hst : l.stackTraces = false) (C0 : zLA p s m c b L xs) {G : zG} {d : Nat} (hE : zLe G d s) {r q : Nat → Nat} {o K : Nat} {N : Nat → Nat} {T : Nat → Nat → Int32} {wz : va_W} {H : Heap} {locs : List Loc} (hw : zLw G d r q o K N T wz) (hi : 6 * K + 6 ≤ L) (hP : va_P G.1 vwCl wz H) (hD : va_D (fun a => s.heap.size ≤ a) wz) (hS : va_S (fun a => s.heap.size ≤ a) s.heap H locs) {ls : Array Slot} (hl : lv_has ls 7 [(4, .int (nI (6 * K))), (0, .ref b), (1, .ref (r 0)), (2, .ref (q 0)), (3, .ref o)]) (kk : zKK p l e s m below meth c b G d r q o K) : W p l e room_1 s m #[Value.ref b] below meth c H locs (zLc K N) (zLs K N) (lw_Z below #[Value.ref b] s) (F0 m 1654 ls []) := by
  obtain ⟨hx, hb, hml, hown, hts, hXs, hbl⟩ := C0
  obtain ⟨hK, hZ, hLx⟩ := hE
  have hA : ∀ a : Nat, s.heap.size ≤ a → (fun a : Nat => s.heap.size ≤ a) a := fun _ h => h
  have hbA : ¬ (fun a : Nat => s.heap.size ≤ a) b := Nat.not_le.mpr hbl
  obtain ⟨A, mc, g, w, wm, th, f, rfl, hC, hMO, hGo⟩ := hw
  obtain ⟨E, hg, ag, mn, sd, tk, sg, sn, rfl, hM⟩ := hMO
  have hK5 : K ≤ 511 := by omega
  obtain ⟨a1, hz1⟩ : ∃ y, y = xs (6 * K + 1) := ⟨_, rfl⟩
  have hrm := zRk8 hGo hK5
  refine lv_aload_n hx hb dL_law_1654 rfl (lv_at hl 2 rfl) ?_
  refine z_arg hx hb hXs hbl hbA hS (k := 1) (lv_at hl 1 rfl) (lv_at hl 0 rfl) (by decide) (by omega) hL hz1 dL_law_1655 dL_law_1656 dL_law_1658 dL_law_1659 dL_law_1660 ?_
  refine lv_aload_n hx hb dL_law_1661 rfl (lv_at hl 4 rfl) ?_
  refine z_xi (G := G) (w := (w ++ ([(o, zOut G f)] : va_W))) (vx_runSX (hh := [(0, 9, 12, 13)]) (As := [.ref (r 0), .int a1, .ref o]) (rest := []) ⟨hx, hb, hml, hown, hts⟩ (h_taskOf l hst G d r A mc g N T w K a1 o f H.size hC hGo.1 hK5 ) (vx_cwSW 3 hts gL_law_L_taskOf rfl rfl rfl (by decide +kernel) ⟨Nat.le_of_ble_eq_true rfl, Nat.le_of_ble_eq_true rfl⟩) (z_hs hK (z_apL hP) (z_dL hD) hZ hLx hS hA) rfl rfl hl.1 rfl (lv_room (Nat.le_of_ble_eq_true rfl)) dL_law_1662 hrm) hP hD hS hA (fun i E ce q9 Hz Lz hk hE hP hS hce hcv hcl => absurd hE (by simp)) (fun k5 w1 Hz Lz hq hP hD hS => ?_)
  obtain ⟨hk5, w2, f2, rfl, h0, h1⟩ := hq
  subst hk5
  refine lv_istore (lv' := [(5, .int (sK1 (sIx a1 (N 6)))), (4, .int (nI (6 * K))), (0, .ref b), (1, .ref (r 0)), (2, .ref (q 0)), (3, .ref o)]) hx hb dL_law_1665 hl (by decide) rfl (fun ls hl => ?_)
  refine lv_aload_n hx hb dL_law_1667 rfl (lv_at hl 4 rfl) ?_
  refine z_arg hx hb hXs hbl hbA hS (k := 1) (lv_at hl 2 rfl) (lv_at hl 1 rfl) (by decide) (by omega) hL hz1 dL_law_1668 dL_law_1669 dL_law_1671 dL_law_1672 dL_law_1673 ?_
  refine z_li (G := G) (w := mW G q th N T E hg ag mn sd tk sg sn) (wr := w2 ++ ([(o, zOut G f2)] : va_W)) (va_runV (As := [.int a1]) (rest := []) ⟨hx, hb, hml, hown, hts⟩ (c_X7_taskOf l G q th N T E hg ag mn sd tk sg sn a1 K Hz.size hGo.1 (by omega) hM ) (cwV 1 hts gL_law_X7_taskOf rfl rfl rfl (by decide +kernel) ⟨Nat.le_of_ble_eq_true rfl, Nat.le_of_ble_eq_true rfl⟩) (z_uv hK (z_apL (z_psw hP)) (ci := 8) (q0 := 0) rfl rfl (z_apL (z_psw hP)) (z_dL (z_dsw hD))) rfl rfl hl.1 rfl (lv_room (Nat.le_of_ble_eq_true rfl)) dL_law_1674 hrm) (z_psw hP) (z_dsw hD) hS hA (fun rb wm1 Hz Lz hm hP hD hS => ?_)
  by_cases hk : sK1 (sIx a1 (N 6)) = 0
  · skip
    obtain ⟨hrb, E1, hg1, ag1, mn1, sd1, tk1, sg1, sn1, rfl, hM1⟩ := hm.1 hk
    obtain ⟨hf2, A2, mc2, g2, hC2⟩ := h0 hk
    subst hrb
    refine lv_istore (lv' := [(6, .int (T 18 a1.toNatClampNeg)), (5, .int (sK1 (sIx a1 (N 6)))), (4, .int (nI (6 * K))), (0, .ref b), (1, .ref (r 0)), (2, .ref (q 0)), (3, .ref o)]) hx hb dL_law_1677 hl (by decide) rfl (fun ls hl => ?_)
    refine lv_aload_n hx hb dL_law_1679 rfl (lv_at hl 5 rfl) ?_
    refine z_csi (va_Run.run (va_runV (As := []) (rest := []) ⟨hx, hb, hml, hown, hts⟩ (c_X7_thrown l G q (sK1 (sIx a1 (N 6))) N T E1 hg1 ag1 mn1 sd1 tk1 sg1 sn1) (cwV 0 hts gL_law_X7_thrown rfl rfl rfl (by decide +kernel) ⟨Nat.le_of_ble_eq_true rfl, Nat.le_of_ble_eq_true rfl⟩) (z_pv hK (z_apL hP) (ci := 8) (q0 := 0) rfl rfl (z_apL hP)) rfl rfl hl.1 rfl (lv_room (Nat.le_of_ble_eq_true rfl)) dL_law_1680 hrm)) (fun zt hzt => ?_)
    subst hzt
    refine lv_iload hx hb dL_law_1683 (lv_at hl 1 rfl) ?_
    refine lv_icmp_eq (tgt := 1690) hx hb dL_law_1685 (by decide) (fun _ => ?_) (fun h => absurd rfl h)
    refine lv_iload hx hb dL_law_1690 (lv_at hl 1 rfl) ?_
    refine lv_if_ne (tgt := 1707) hx hb dL_law_1692 (by decide) (fun h => absurd hk h) (fun _ => ?_)
    refine lv_aload_n hx hb dL_law_1695 rfl (lv_at hl 6 rfl) ?_
    refine lv_iconst (v := 0) hx hb dL_law_1696 (by decide) ?_
    refine va_lald hx hb hK (z_apR hP) w2.length 1 z_atx rfl (vp_in_nI (n := 0) (by decide) (by decide)) dL_law_1697 ?_
    rw [show f2 (0 : Int32).toNatClampNeg = (T 18 a1.toNatClampNeg : Int32).toInt64 from hf2]
    refine lv_iload hx hb dL_law_1698 (lv_at hl 0 rfl) ?_
    refine lv_i2l (v := (T 18 a1.toNatClampNeg : Int32).toInt64) hx hb dL_law_1700 rfl ?_
    refine W.lcmp hx hb dL_law_1701 ?_
    rw [zcmp rfl]
    refine lv_if_eq (tgt := 1707) hx hb dL_law_1702 (by decide) (fun _ => ?_) (fun h => absurd rfl h)
    refine lv_goto (tgt := 1915) hx hb dL_law_1707 (by decide) ?_
    exact z_widen (zUp8 (K := K) (N := N) (N2 := N) rfl).1 (zUp8 (K := K) (N := N) (N2 := N) rfl).2 (kk N T _ _ _ _ ⟨_, _, _, _, _, _, _, rfl, hC2, ⟨E1, hg1, ag1, mn1, sd1, tk1, sg1, sn1, rfl, hM1⟩, hGo.up⟩ (z_psw hP) (z_dsw hD) hS (lv_sub hl [2, 3, 4, 5, 6] rfl))
  · skip
    obtain ⟨E1, hg1, ag1, mn1, sd1, tk1, sg1, sn1, rfl, hM1⟩ := hm.2 hk
    obtain ⟨A2, mc2, g2, hC2⟩ := h1 hk
    refine lv_istore (lv' := [(6, .int rb), (5, .int (sK1 (sIx a1 (N 6)))), (4, .int (nI (6 * K))), (0, .ref b), (1, .ref (r 0)), (2, .ref (q 0)), (3, .ref o)]) hx hb dL_law_1677 hl (by decide) rfl (fun ls hl => ?_)
    refine lv_aload_n hx hb dL_law_1679 rfl (lv_at hl 5 rfl) ?_
    refine z_csi (va_Run.run (va_runV (As := []) (rest := []) ⟨hx, hb, hml, hown, hts⟩ (c_X7_thrown l G q (sK1 (sIx a1 (N 6))) N T E1 hg1 ag1 mn1 sd1 tk1 sg1 sn1) (cwV 0 hts gL_law_X7_thrown rfl rfl rfl (by decide +kernel) ⟨Nat.le_of_ble_eq_true rfl, Nat.le_of_ble_eq_true rfl⟩) (z_pv hK (z_apL hP) (ci := 8) (q0 := 0) rfl rfl (z_apL hP)) rfl rfl hl.1 rfl (lv_room (Nat.le_of_ble_eq_true rfl)) dL_law_1680 hrm)) (fun zt hzt => ?_)
    subst hzt
    refine lv_iload hx hb dL_law_1683 (lv_at hl 1 rfl) ?_
    refine lv_icmp_eq (tgt := 1690) hx hb dL_law_1685 (by decide) (fun _ => ?_) (fun h => absurd rfl h)
    refine lv_iload hx hb dL_law_1690 (lv_at hl 1 rfl) ?_
    refine lv_if_ne (tgt := 1707) hx hb dL_law_1692 (by decide) (fun _ => ?_) (fun h => absurd h hk)
    refine lv_goto (tgt := 1915) hx hb dL_law_1707 (by decide) ?_
    exact z_widen (zUp8 (K := K) (N := N) (N2 := N) rfl).1 (zUp8 (K := K) (N := N) (N2 := N) rfl).2 (kk N T _ _ _ _ ⟨_, _, _, _, _, _, _, rfl, hC2, ⟨E1, hg1, ag1, mn1, sd1, tk1, sg1, sn1, rfl, hM1⟩, hGo.up⟩ (z_psw hP) (z_dsw hD) hS (lv_sub hl [2, 3, 4, 5, 6] rfl))

set_option maxHeartbeats 4000000 in
set_option maxRecDepth 100000 in
theorem law_c27 {p : Program} {l : Launch} {e : Env} {s : State} {m : MethodId} {below : List Frame} {meth : Method} {c : Code} {b L : Nat} {xs : Nat → Int32} (hL : L ≤ 3072) (hst : l.stackTraces = false) (C0 : zLA p s m c b L xs) {G : zG} {d : Nat} (hE : zLe G d s) {r q : Nat → Nat} {o K : Nat} {N : Nat → Nat} {T : Nat → Nat → Int32} {wz : va_W} {H : Heap} {locs : List Loc} (hw : zLw G d r q o K N T wz) (hi : 6 * K + 6 ≤ L) (hP : va_P G.1 vwCl wz H) (hD : va_D (fun a => s.heap.size ≤ a) wz) (hS : va_S (fun a => s.heap.size ≤ a) s.heap H locs) {ls : Array Slot} (hl : lv_has ls 7 [(4, .int (nI (6 * K))), (0, .ref b), (1, .ref (r 0)), (2, .ref (q 0)), (3, .ref o)]) (kk : zKK p l e s m below meth c b G d r q o K) : W p l e room_1 s m #[Value.ref b] below meth c H locs (zLc K N) (zLs K N) (lw_Z below #[Value.ref b] s) (F0 m 1710 ls []) := by
  obtain ⟨hx, hb, hml, hown, hts, hXs, hbl⟩ := C0
  obtain ⟨hK, hZ, hLx⟩ := hE
  have hA : ∀ a : Nat, s.heap.size ≤ a → (fun a : Nat => s.heap.size ≤ a) a := fun _ h => h
  have hbA : ¬ (fun a : Nat => s.heap.size ≤ a) b := Nat.not_le.mpr hbl
  obtain ⟨A, mc, g, w, wm, th, f, rfl, hC, hMO, hGo⟩ := hw
  obtain ⟨E, hg, ag, mn, sd, tk, sg, sn, rfl, hM⟩ := hMO
  have hK5 : K ≤ 511 := by omega
  have hrm := zRk0 hGo hK5
  have hNs : sSm N := sSm.of hGo.1
  refine lv_aload_n hx hb dL_law_1710 rfl (lv_at hl 2 rfl) ?_
  rw [List.append_assoc] at hP hD
  refine z_li (G := G) (w := w) (va_runV (As := []) (rest := []) ⟨hx, hb, hml, hown, hts⟩ (c_X6_messages l G d r A mc g N T w H.size hC hNs) (cwV 0 hts gL_law_X6_messages rfl rfl rfl (by decide +kernel) ⟨Nat.le_of_ble_eq_true rfl, Nat.le_of_ble_eq_true rfl⟩) (z_wv hK (z_apL hP) (ci := 7) (q0 := 0) rfl (hC.1.1 0 (by omega)) (z_apL hP) (z_dL hD) hZ hS hA) rfl rfl hl.1 rfl (lv_room (Nat.le_of_ble_eq_true rfl)) dL_law_1711 hrm) hP hD hS hA (fun ra w2 Hz Lz hq hP hD hS => ?_)
  obtain ⟨hra, A2, mc2, g2, hC2⟩ := hq
  subst hra
  rw [← List.append_assoc] at hP hD
  refine lv_aload_n hx hb dL_law_1714 rfl (lv_at hl 3 rfl) ?_
  refine z_li (G := G) (w := mW G q th N T E hg ag mn sd tk sg sn) (wr := w2 ++ ([(o, zOut G f)] : va_W)) (va_runV (As := []) (rest := [.int (nI (N 5))]) ⟨hx, hb, hml, hown, hts⟩ (c_X7_messages l G q th N T E hg ag mn sd tk sg sn K Hz.size hGo.1 (by omega) hM) (cwV 0 hts gL_law_X7_messages rfl rfl rfl (by decide +kernel) ⟨Nat.le_of_ble_eq_true rfl, Nat.le_of_ble_eq_true rfl⟩) (z_uv hK (z_apL (z_psw hP)) (ci := 8) (q0 := 0) rfl rfl (z_apL (z_psw hP)) (z_dL (z_dsw hD))) rfl rfl hl.1 rfl (lv_room (Nat.le_of_ble_eq_true rfl)) dL_law_1715 hrm) (z_psw hP) (z_dsw hD) hS hA (fun rb wm1 Hz Lz hm hP hD hS => ?_)
  obtain ⟨hrb, E1, hg1, ag1, mn1, sd1, tk1, sg1, sn1, rfl, hM1⟩ := hm
  subst hrb
  refine lv_icmp_eq (tgt := 1915) hx hb dL_law_1718 (by decide) (fun _ => ?_) (fun h => absurd rfl h)
  exact z_widen (zUpo (K := K) (N := N) (N2 := N) rfl).1 (zUpo (K := K) (N := N) (N2 := N) rfl).2 (kk N T _ _ _ _ ⟨_, _, _, _, _, _, _, rfl, hC2, ⟨E1, hg1, ag1, mn1, sd1, tk1, sg1, sn1, rfl, hM1⟩, hGo.up⟩ (z_psw hP) (z_dsw hD) hS (lv_sub hl [0, 1, 2, 3, 4] rfl))

set_option maxHeartbeats 4000000 in
set_option maxRecDepth 100000 in
theorem law_c28 {p : Program} {l : Launch} {e : Env} {s : State} {m : MethodId} {below : List Frame} {meth : Method} {c : Code} {b L : Nat} {xs : Nat → Int32} (hL : L ≤ 3072) (hst : l.stackTraces = false) (C0 : zLA p s m c b L xs) {G : zG} {d : Nat} (hE : zLe G d s) {r q : Nat → Nat} {o K : Nat} {N : Nat → Nat} {T : Nat → Nat → Int32} {wz : va_W} {H : Heap} {locs : List Loc} (hw : zLw G d r q o K N T wz) (hi : 6 * K + 6 ≤ L) (hP : va_P G.1 vwCl wz H) (hD : va_D (fun a => s.heap.size ≤ a) wz) (hS : va_S (fun a => s.heap.size ≤ a) s.heap H locs) {ls : Array Slot} (hl : lv_has ls 7 [(4, .int (nI (6 * K))), (0, .ref b), (1, .ref (r 0)), (2, .ref (q 0)), (3, .ref o)]) (kk : zKK p l e s m below meth c b G d r q o K) : W p l e room_1 s m #[Value.ref b] below meth c H locs (zLc K N) (zLs K N) (lw_Z below #[Value.ref b] s) (F0 m 1723 ls []) := by
  obtain ⟨hx, hb, hml, hown, hts, hXs, hbl⟩ := C0
  obtain ⟨hK, hZ, hLx⟩ := hE
  have hA : ∀ a : Nat, s.heap.size ≤ a → (fun a : Nat => s.heap.size ≤ a) a := fun _ h => h
  have hbA : ¬ (fun a : Nat => s.heap.size ≤ a) b := Nat.not_le.mpr hbl
  obtain ⟨A, mc, g, w, wm, th, f, rfl, hC, hMO, hGo⟩ := hw
  obtain ⟨E, hg, ag, mn, sd, tk, sg, sn, rfl, hM⟩ := hMO
  have hK5 : K ≤ 511 := by omega
  obtain ⟨a1, hz1⟩ : ∃ y, y = xs (6 * K + 1) := ⟨_, rfl⟩
  have hrm := zRk8 hGo hK5
  refine lv_aload_n hx hb dL_law_1723 rfl (lv_at hl 2 rfl) ?_
  refine z_arg hx hb hXs hbl hbA hS (k := 1) (lv_at hl 1 rfl) (lv_at hl 0 rfl) (by decide) (by omega) hL hz1 dL_law_1724 dL_law_1725 dL_law_1727 dL_law_1728 dL_law_1729 ?_
  refine lv_aload_n hx hb dL_law_1730 rfl (lv_at hl 4 rfl) ?_
  refine z_xi (G := G) (w := (w ++ ([(o, zOut G f)] : va_W))) (vx_runSX (hh := [(0, 9, 12, 13)]) (As := [.ref (r 0), .int a1, .ref o]) (rest := []) ⟨hx, hb, hml, hown, hts⟩ (h_signs l hst G d r A mc g N T w K a1 o f H.size hC hGo.1 hK5 ) (vx_cwSW 3 hts gL_law_L_signs rfl rfl rfl (by decide +kernel) ⟨Nat.le_of_ble_eq_true rfl, Nat.le_of_ble_eq_true rfl⟩) (z_hs hK (z_apL hP) (z_dL hD) hZ hLx hS hA) rfl rfl hl.1 rfl (lv_room (Nat.le_of_ble_eq_true rfl)) dL_law_1731 hrm) hP hD hS hA (fun i E ce q9 Hz Lz hk hE hP hS hce hcv hcl => absurd hE (by simp)) (fun k5 w1 Hz Lz hq hP hD hS => ?_)
  obtain ⟨hk5, w2, f2, rfl, h0, h1⟩ := hq
  subst hk5
  refine lv_istore (lv' := [(5, .int (sK1 (sIx a1 (N 5)))), (4, .int (nI (6 * K))), (0, .ref b), (1, .ref (r 0)), (2, .ref (q 0)), (3, .ref o)]) hx hb dL_law_1734 hl (by decide) rfl (fun ls hl => ?_)
  refine lv_aload_n hx hb dL_law_1736 rfl (lv_at hl 4 rfl) ?_
  refine z_arg hx hb hXs hbl hbA hS (k := 1) (lv_at hl 2 rfl) (lv_at hl 1 rfl) (by decide) (by omega) hL hz1 dL_law_1737 dL_law_1738 dL_law_1740 dL_law_1741 dL_law_1742 ?_
  refine z_li (G := G) (w := mW G q th N T E hg ag mn sd tk sg sn) (wr := w2 ++ ([(o, zOut G f2)] : va_W)) (va_runV (As := [.int a1]) (rest := []) ⟨hx, hb, hml, hown, hts⟩ (c_X7_signs l G q th N T E hg ag mn sd tk sg sn a1 K Hz.size hGo.1 (by omega) hM ) (cwV 1 hts gL_law_X7_signs rfl rfl rfl (by decide +kernel) ⟨Nat.le_of_ble_eq_true rfl, Nat.le_of_ble_eq_true rfl⟩) (z_uv hK (z_apL (z_psw hP)) (ci := 8) (q0 := 0) rfl rfl (z_apL (z_psw hP)) (z_dL (z_dsw hD))) rfl rfl hl.1 rfl (lv_room (Nat.le_of_ble_eq_true rfl)) dL_law_1743 hrm) (z_psw hP) (z_dsw hD) hS hA (fun rb wm1 Hz Lz hm hP hD hS => ?_)
  by_cases hk : sK1 (sIx a1 (N 5)) = 0
  · skip
    obtain ⟨hrb, E1, hg1, ag1, mn1, sd1, tk1, sg1, sn1, rfl, hM1⟩ := hm.1 hk
    obtain ⟨hf2, A2, mc2, g2, hC2⟩ := h0 hk
    subst hrb
    refine lv_istore (lv' := [(6, .int (nI (rSigns N T a1.toNatClampNeg))), (5, .int (sK1 (sIx a1 (N 5)))), (4, .int (nI (6 * K))), (0, .ref b), (1, .ref (r 0)), (2, .ref (q 0)), (3, .ref o)]) hx hb dL_law_1746 hl (by decide) rfl (fun ls hl => ?_)
    refine lv_aload_n hx hb dL_law_1748 rfl (lv_at hl 5 rfl) ?_
    refine z_csi (va_Run.run (va_runV (As := []) (rest := []) ⟨hx, hb, hml, hown, hts⟩ (c_X7_thrown l G q (sK1 (sIx a1 (N 5))) N T E1 hg1 ag1 mn1 sd1 tk1 sg1 sn1) (cwV 0 hts gL_law_X7_thrown rfl rfl rfl (by decide +kernel) ⟨Nat.le_of_ble_eq_true rfl, Nat.le_of_ble_eq_true rfl⟩) (z_pv hK (z_apL hP) (ci := 8) (q0 := 0) rfl rfl (z_apL hP)) rfl rfl hl.1 rfl (lv_room (Nat.le_of_ble_eq_true rfl)) dL_law_1749 hrm)) (fun zt hzt => ?_)
    subst hzt
    refine lv_iload hx hb dL_law_1752 (lv_at hl 1 rfl) ?_
    refine lv_icmp_eq (tgt := 1759) hx hb dL_law_1754 (by decide) (fun _ => ?_) (fun h => absurd rfl h)
    refine lv_iload hx hb dL_law_1759 (lv_at hl 1 rfl) ?_
    refine lv_if_ne (tgt := 1776) hx hb dL_law_1761 (by decide) (fun h => absurd hk h) (fun _ => ?_)
    refine lv_aload_n hx hb dL_law_1764 rfl (lv_at hl 6 rfl) ?_
    refine lv_iconst (v := 0) hx hb dL_law_1765 (by decide) ?_
    refine va_lald hx hb hK (z_apR hP) w2.length 1 z_atx rfl (vp_in_nI (n := 0) (by decide) (by decide)) dL_law_1766 ?_
    rw [show f2 (0 : Int32).toNatClampNeg = (nI (rSigns N T a1.toNatClampNeg) : Int32).toInt64 from hf2]
    refine lv_iload hx hb dL_law_1767 (lv_at hl 0 rfl) ?_
    refine lv_i2l (v := (nI (rSigns N T a1.toNatClampNeg) : Int32).toInt64) hx hb dL_law_1769 rfl ?_
    refine W.lcmp hx hb dL_law_1770 ?_
    rw [zcmp rfl]
    refine lv_if_eq (tgt := 1776) hx hb dL_law_1771 (by decide) (fun _ => ?_) (fun h => absurd rfl h)
    refine lv_goto (tgt := 1915) hx hb dL_law_1776 (by decide) ?_
    exact z_widen (zUp8 (K := K) (N := N) (N2 := N) rfl).1 (zUp8 (K := K) (N := N) (N2 := N) rfl).2 (kk N T _ _ _ _ ⟨_, _, _, _, _, _, _, rfl, hC2, ⟨E1, hg1, ag1, mn1, sd1, tk1, sg1, sn1, rfl, hM1⟩, hGo.up⟩ (z_psw hP) (z_dsw hD) hS (lv_sub hl [2, 3, 4, 5, 6] rfl))
  · skip
    obtain ⟨E1, hg1, ag1, mn1, sd1, tk1, sg1, sn1, rfl, hM1⟩ := hm.2 hk
    obtain ⟨A2, mc2, g2, hC2⟩ := h1 hk
    refine lv_istore (lv' := [(6, .int rb), (5, .int (sK1 (sIx a1 (N 5)))), (4, .int (nI (6 * K))), (0, .ref b), (1, .ref (r 0)), (2, .ref (q 0)), (3, .ref o)]) hx hb dL_law_1746 hl (by decide) rfl (fun ls hl => ?_)
    refine lv_aload_n hx hb dL_law_1748 rfl (lv_at hl 5 rfl) ?_
    refine z_csi (va_Run.run (va_runV (As := []) (rest := []) ⟨hx, hb, hml, hown, hts⟩ (c_X7_thrown l G q (sK1 (sIx a1 (N 5))) N T E1 hg1 ag1 mn1 sd1 tk1 sg1 sn1) (cwV 0 hts gL_law_X7_thrown rfl rfl rfl (by decide +kernel) ⟨Nat.le_of_ble_eq_true rfl, Nat.le_of_ble_eq_true rfl⟩) (z_pv hK (z_apL hP) (ci := 8) (q0 := 0) rfl rfl (z_apL hP)) rfl rfl hl.1 rfl (lv_room (Nat.le_of_ble_eq_true rfl)) dL_law_1749 hrm)) (fun zt hzt => ?_)
    subst hzt
    refine lv_iload hx hb dL_law_1752 (lv_at hl 1 rfl) ?_
    refine lv_icmp_eq (tgt := 1759) hx hb dL_law_1754 (by decide) (fun _ => ?_) (fun h => absurd rfl h)
    refine lv_iload hx hb dL_law_1759 (lv_at hl 1 rfl) ?_
    refine lv_if_ne (tgt := 1776) hx hb dL_law_1761 (by decide) (fun _ => ?_) (fun h => absurd h hk)
    refine lv_goto (tgt := 1915) hx hb dL_law_1776 (by decide) ?_
    exact z_widen (zUp8 (K := K) (N := N) (N2 := N) rfl).1 (zUp8 (K := K) (N := N) (N2 := N) rfl).2 (kk N T _ _ _ _ ⟨_, _, _, _, _, _, _, rfl, hC2, ⟨E1, hg1, ag1, mn1, sd1, tk1, sg1, sn1, rfl, hM1⟩, hGo.up⟩ (z_psw hP) (z_dsw hD) hS (lv_sub hl [2, 3, 4, 5, 6] rfl))

set_option maxHeartbeats 4000000 in
set_option maxRecDepth 100000 in
theorem law_c29 {p : Program} {l : Launch} {e : Env} {s : State} {m : MethodId} {below : List Frame} {meth : Method} {c : Code} {b L : Nat} {xs : Nat → Int32} (hL : L ≤ 3072) (hst : l.stackTraces = false) (C0 : zLA p s m c b L xs) {G : zG} {d : Nat} (hE : zLe G d s) {r q : Nat → Nat} {o K : Nat} {N : Nat → Nat} {T : Nat → Nat → Int32} {wz : va_W} {H : Heap} {locs : List Loc} (hw : zLw G d r q o K N T wz) (hi : 6 * K + 6 ≤ L) (hP : va_P G.1 vwCl wz H) (hD : va_D (fun a => s.heap.size ≤ a) wz) (hS : va_S (fun a => s.heap.size ≤ a) s.heap H locs) {ls : Array Slot} (hl : lv_has ls 7 [(4, .int (nI (6 * K))), (0, .ref b), (1, .ref (r 0)), (2, .ref (q 0)), (3, .ref o)]) (kk : zKK p l e s m below meth c b G d r q o K) : W p l e room_1 s m #[Value.ref b] below meth c H locs (zLc K N) (zLs K N) (lw_Z below #[Value.ref b] s) (F0 m 1779 ls []) := by
  obtain ⟨hx, hb, hml, hown, hts, hXs, hbl⟩ := C0
  obtain ⟨hK, hZ, hLx⟩ := hE
  have hA : ∀ a : Nat, s.heap.size ≤ a → (fun a : Nat => s.heap.size ≤ a) a := fun _ h => h
  have hbA : ¬ (fun a : Nat => s.heap.size ≤ a) b := Nat.not_le.mpr hbl
  obtain ⟨A, mc, g, w, wm, th, f, rfl, hC, hMO, hGo⟩ := hw
  obtain ⟨E, hg, ag, mn, sd, tk, sg, sn, rfl, hM⟩ := hMO
  have hK5 : K ≤ 511 := by omega
  obtain ⟨a1, hz1⟩ : ∃ y, y = xs (6 * K + 1) := ⟨_, rfl⟩
  obtain ⟨a2, hz2⟩ : ∃ y, y = xs (6 * K + 2) := ⟨_, rfl⟩
  have hrm := zRk8 hGo hK5
  refine lv_aload_n hx hb dL_law_1779 rfl (lv_at hl 2 rfl) ?_
  refine z_arg hx hb hXs hbl hbA hS (k := 1) (lv_at hl 1 rfl) (lv_at hl 0 rfl) (by decide) (by omega) hL hz1 dL_law_1780 dL_law_1781 dL_law_1783 dL_law_1784 dL_law_1785 ?_
  refine z_arg hx hb hXs hbl hbA hS (k := 2) (lv_at hl 1 rfl) (lv_at hl 0 rfl) (by decide) (by omega) hL hz2 dL_law_1786 dL_law_1787 dL_law_1789 dL_law_1790 dL_law_1791 ?_
  refine lv_aload_n hx hb dL_law_1792 rfl (lv_at hl 4 rfl) ?_
  refine z_xi (G := G) (w := (w ++ ([(o, zOut G f)] : va_W))) (vx_runSX (hh := [(0, 10, 13, 13)]) (As := [.ref (r 0), .int a1, .int a2, .ref o]) (rest := []) ⟨hx, hb, hml, hown, hts⟩ (h_signAt l hst G d r A mc g N T w K a1 a2 o f H.size hC hGo.1 hK5 ) (vx_cwSW 4 hts gL_law_L_signAt rfl rfl rfl (by decide +kernel) ⟨Nat.le_of_ble_eq_true rfl, Nat.le_of_ble_eq_true rfl⟩) (z_hs hK (z_apL hP) (z_dL hD) hZ hLx hS hA) rfl rfl hl.1 rfl (lv_room (Nat.le_of_ble_eq_true rfl)) dL_law_1793 hrm) hP hD hS hA (fun i E ce q9 Hz Lz hk hE hP hS hce hcv hcl => absurd hE (by simp)) (fun k5 w1 Hz Lz hq hP hD hS => ?_)
  obtain ⟨hk5, w2, f2, rfl, h0, h1⟩ := hq
  subst hk5
  refine lv_istore (lv' := [(5, .int (sK1 ((sIx a1 (N 5)) && (decide (0 ≤ a2))))), (4, .int (nI (6 * K))), (0, .ref b), (1, .ref (r 0)), (2, .ref (q 0)), (3, .ref o)]) hx hb dL_law_1796 hl (by decide) rfl (fun ls hl => ?_)
  refine lv_aload_n hx hb dL_law_1798 rfl (lv_at hl 4 rfl) ?_
  refine z_arg hx hb hXs hbl hbA hS (k := 1) (lv_at hl 2 rfl) (lv_at hl 1 rfl) (by decide) (by omega) hL hz1 dL_law_1799 dL_law_1800 dL_law_1802 dL_law_1803 dL_law_1804 ?_
  refine z_arg hx hb hXs hbl hbA hS (k := 2) (lv_at hl 2 rfl) (lv_at hl 1 rfl) (by decide) (by omega) hL hz2 dL_law_1805 dL_law_1806 dL_law_1808 dL_law_1809 dL_law_1810 ?_
  refine z_li (G := G) (w := mW G q th N T E hg ag mn sd tk sg sn) (wr := w2 ++ ([(o, zOut G f2)] : va_W)) (va_runV (As := [.int a1, .int a2]) (rest := []) ⟨hx, hb, hml, hown, hts⟩ (c_X7_signAt l G q th N T E hg ag mn sd tk sg sn a1 a2 K Hz.size hGo.1 (by omega) hM ) (cwV 2 hts gL_law_X7_signAt rfl rfl rfl (by decide +kernel) ⟨Nat.le_of_ble_eq_true rfl, Nat.le_of_ble_eq_true rfl⟩) (z_uv hK (z_apL (z_psw hP)) (ci := 8) (q0 := 0) rfl rfl (z_apL (z_psw hP)) (z_dL (z_dsw hD))) rfl rfl hl.1 rfl (lv_room (Nat.le_of_ble_eq_true rfl)) dL_law_1811 hrm) (z_psw hP) (z_dsw hD) hS hA (fun rb wm1 Hz Lz hm hP hD hS => ?_)
  by_cases hk : sK1 ((sIx a1 (N 5)) && (decide (0 ≤ a2))) = 0
  · skip
    obtain ⟨hrb, E1, hg1, ag1, mn1, sd1, tk1, sg1, sn1, rfl, hM1⟩ := hm.1 hk
    obtain ⟨hf2, A2, mc2, g2, hC2⟩ := h0 hk
    subst hrb
    refine lv_istore (lv' := [(6, .int (rSignAt N T a1 a2 false)), (5, .int (sK1 ((sIx a1 (N 5)) && (decide (0 ≤ a2))))), (4, .int (nI (6 * K))), (0, .ref b), (1, .ref (r 0)), (2, .ref (q 0)), (3, .ref o)]) hx hb dL_law_1814 hl (by decide) rfl (fun ls hl => ?_)
    refine lv_aload_n hx hb dL_law_1816 rfl (lv_at hl 5 rfl) ?_
    refine z_csi (va_Run.run (va_runV (As := []) (rest := []) ⟨hx, hb, hml, hown, hts⟩ (c_X7_thrown l G q (sK1 ((sIx a1 (N 5)) && (decide (0 ≤ a2)))) N T E1 hg1 ag1 mn1 sd1 tk1 sg1 sn1) (cwV 0 hts gL_law_X7_thrown rfl rfl rfl (by decide +kernel) ⟨Nat.le_of_ble_eq_true rfl, Nat.le_of_ble_eq_true rfl⟩) (z_pv hK (z_apL hP) (ci := 8) (q0 := 0) rfl rfl (z_apL hP)) rfl rfl hl.1 rfl (lv_room (Nat.le_of_ble_eq_true rfl)) dL_law_1817 hrm)) (fun zt hzt => ?_)
    subst hzt
    refine lv_iload hx hb dL_law_1820 (lv_at hl 1 rfl) ?_
    refine lv_icmp_eq (tgt := 1827) hx hb dL_law_1822 (by decide) (fun _ => ?_) (fun h => absurd rfl h)
    refine lv_iload hx hb dL_law_1827 (lv_at hl 1 rfl) ?_
    refine lv_if_ne (tgt := 1844) hx hb dL_law_1829 (by decide) (fun h => absurd hk h) (fun _ => ?_)
    refine lv_aload_n hx hb dL_law_1832 rfl (lv_at hl 6 rfl) ?_
    refine lv_iconst (v := 0) hx hb dL_law_1833 (by decide) ?_
    refine va_lald hx hb hK (z_apR hP) w2.length 1 z_atx rfl (vp_in_nI (n := 0) (by decide) (by decide)) dL_law_1834 ?_
    rw [show f2 (0 : Int32).toNatClampNeg = (rSignAt N T a1 a2 false : Int32).toInt64 from hf2]
    refine lv_iload hx hb dL_law_1835 (lv_at hl 0 rfl) ?_
    refine lv_i2l (v := (rSignAt N T a1 a2 false : Int32).toInt64) hx hb dL_law_1837 rfl ?_
    refine W.lcmp hx hb dL_law_1838 ?_
    rw [zcmp rfl]
    refine lv_if_eq (tgt := 1844) hx hb dL_law_1839 (by decide) (fun _ => ?_) (fun h => absurd rfl h)
    refine lv_goto (tgt := 1915) hx hb dL_law_1844 (by decide) ?_
    exact z_widen (zUp8 (K := K) (N := N) (N2 := N) rfl).1 (zUp8 (K := K) (N := N) (N2 := N) rfl).2 (kk N T _ _ _ _ ⟨_, _, _, _, _, _, _, rfl, hC2, ⟨E1, hg1, ag1, mn1, sd1, tk1, sg1, sn1, rfl, hM1⟩, hGo.up⟩ (z_psw hP) (z_dsw hD) hS (lv_sub hl [2, 3, 4, 5, 6] rfl))
  · skip
    obtain ⟨E1, hg1, ag1, mn1, sd1, tk1, sg1, sn1, rfl, hM1⟩ := hm.2 hk
    obtain ⟨A2, mc2, g2, hC2⟩ := h1 hk
    refine lv_istore (lv' := [(6, .int rb), (5, .int (sK1 ((sIx a1 (N 5)) && (decide (0 ≤ a2))))), (4, .int (nI (6 * K))), (0, .ref b), (1, .ref (r 0)), (2, .ref (q 0)), (3, .ref o)]) hx hb dL_law_1814 hl (by decide) rfl (fun ls hl => ?_)
    refine lv_aload_n hx hb dL_law_1816 rfl (lv_at hl 5 rfl) ?_
    refine z_csi (va_Run.run (va_runV (As := []) (rest := []) ⟨hx, hb, hml, hown, hts⟩ (c_X7_thrown l G q (sK1 ((sIx a1 (N 5)) && (decide (0 ≤ a2)))) N T E1 hg1 ag1 mn1 sd1 tk1 sg1 sn1) (cwV 0 hts gL_law_X7_thrown rfl rfl rfl (by decide +kernel) ⟨Nat.le_of_ble_eq_true rfl, Nat.le_of_ble_eq_true rfl⟩) (z_pv hK (z_apL hP) (ci := 8) (q0 := 0) rfl rfl (z_apL hP)) rfl rfl hl.1 rfl (lv_room (Nat.le_of_ble_eq_true rfl)) dL_law_1817 hrm)) (fun zt hzt => ?_)
    subst hzt
    refine lv_iload hx hb dL_law_1820 (lv_at hl 1 rfl) ?_
    refine lv_icmp_eq (tgt := 1827) hx hb dL_law_1822 (by decide) (fun _ => ?_) (fun h => absurd rfl h)
    refine lv_iload hx hb dL_law_1827 (lv_at hl 1 rfl) ?_
    refine lv_if_ne (tgt := 1844) hx hb dL_law_1829 (by decide) (fun _ => ?_) (fun h => absurd h hk)
    refine lv_goto (tgt := 1915) hx hb dL_law_1844 (by decide) ?_
    exact z_widen (zUp8 (K := K) (N := N) (N2 := N) rfl).1 (zUp8 (K := K) (N := N) (N2 := N) rfl).2 (kk N T _ _ _ _ ⟨_, _, _, _, _, _, _, rfl, hC2, ⟨E1, hg1, ag1, mn1, sd1, tk1, sg1, sn1, rfl, hM1⟩, hGo.up⟩ (z_psw hP) (z_dsw hD) hS (lv_sub hl [2, 3, 4, 5, 6] rfl))

set_option maxHeartbeats 4000000 in
set_option maxRecDepth 100000 in
theorem law_c30 {p : Program} {l : Launch} {e : Env} {s : State} {m : MethodId} {below : List Frame} {meth : Method} {c : Code} {b L : Nat} {xs : Nat → Int32} (hL : L ≤ 3072) (hst : l.stackTraces = false) (C0 : zLA p s m c b L xs) {G : zG} {d : Nat} (hE : zLe G d s) {r q : Nat → Nat} {o K : Nat} {N : Nat → Nat} {T : Nat → Nat → Int32} {wz : va_W} {H : Heap} {locs : List Loc} (hw : zLw G d r q o K N T wz) (hi : 6 * K + 6 ≤ L) (hP : va_P G.1 vwCl wz H) (hD : va_D (fun a => s.heap.size ≤ a) wz) (hS : va_S (fun a => s.heap.size ≤ a) s.heap H locs) {ls : Array Slot} (hl : lv_has ls 7 [(4, .int (nI (6 * K))), (0, .ref b), (1, .ref (r 0)), (2, .ref (q 0)), (3, .ref o)]) (kk : zKK p l e s m below meth c b G d r q o K) : W p l e room_1 s m #[Value.ref b] below meth c H locs (zLc K N) (zLs K N) (lw_Z below #[Value.ref b] s) (F0 m 1847 ls []) := by
  obtain ⟨hx, hb, hml, hown, hts, hXs, hbl⟩ := C0
  obtain ⟨hK, hZ, hLx⟩ := hE
  have hA : ∀ a : Nat, s.heap.size ≤ a → (fun a : Nat => s.heap.size ≤ a) a := fun _ h => h
  have hbA : ¬ (fun a : Nat => s.heap.size ≤ a) b := Nat.not_le.mpr hbl
  obtain ⟨A, mc, g, w, wm, th, f, rfl, hC, hMO, hGo⟩ := hw
  obtain ⟨E, hg, ag, mn, sd, tk, sg, sn, rfl, hM⟩ := hMO
  have hK5 : K ≤ 511 := by omega
  obtain ⟨a1, hz1⟩ : ∃ y, y = xs (6 * K + 1) := ⟨_, rfl⟩
  obtain ⟨a2, hz2⟩ : ∃ y, y = xs (6 * K + 2) := ⟨_, rfl⟩
  have hrm := zRk8 hGo hK5
  refine lv_aload_n hx hb dL_law_1847 rfl (lv_at hl 2 rfl) ?_
  refine z_arg hx hb hXs hbl hbA hS (k := 1) (lv_at hl 1 rfl) (lv_at hl 0 rfl) (by decide) (by omega) hL hz1 dL_law_1848 dL_law_1849 dL_law_1851 dL_law_1852 dL_law_1853 ?_
  refine z_arg hx hb hXs hbl hbA hS (k := 2) (lv_at hl 1 rfl) (lv_at hl 0 rfl) (by decide) (by omega) hL hz2 dL_law_1854 dL_law_1855 dL_law_1857 dL_law_1858 dL_law_1859 ?_
  refine lv_aload_n hx hb dL_law_1860 rfl (lv_at hl 4 rfl) ?_
  refine z_xi (G := G) (w := (w ++ ([(o, zOut G f)] : va_W))) (vx_runSX (hh := [(0, 10, 13, 13)]) (As := [.ref (r 0), .int a1, .int a2, .ref o]) (rest := []) ⟨hx, hb, hml, hown, hts⟩ (h_signBack l hst G d r A mc g N T w K a1 a2 o f H.size hC hGo.1 hK5 ) (vx_cwSW 4 hts gL_law_L_signBack rfl rfl rfl (by decide +kernel) ⟨Nat.le_of_ble_eq_true rfl, Nat.le_of_ble_eq_true rfl⟩) (z_hs hK (z_apL hP) (z_dL hD) hZ hLx hS hA) rfl rfl hl.1 rfl (lv_room (Nat.le_of_ble_eq_true rfl)) dL_law_1861 hrm) hP hD hS hA (fun i E ce q9 Hz Lz hk hE hP hS hce hcv hcl => absurd hE (by simp)) (fun k5 w1 Hz Lz hq hP hD hS => ?_)
  obtain ⟨hk5, w2, f2, rfl, h0, h1⟩ := hq
  subst hk5
  refine lv_istore (lv' := [(5, .int (sK1 ((sIx a1 (N 5)) && (decide (0 ≤ a2))))), (4, .int (nI (6 * K))), (0, .ref b), (1, .ref (r 0)), (2, .ref (q 0)), (3, .ref o)]) hx hb dL_law_1864 hl (by decide) rfl (fun ls hl => ?_)
  refine lv_aload_n hx hb dL_law_1866 rfl (lv_at hl 4 rfl) ?_
  refine z_arg hx hb hXs hbl hbA hS (k := 1) (lv_at hl 2 rfl) (lv_at hl 1 rfl) (by decide) (by omega) hL hz1 dL_law_1867 dL_law_1868 dL_law_1870 dL_law_1871 dL_law_1872 ?_
  refine z_arg hx hb hXs hbl hbA hS (k := 2) (lv_at hl 2 rfl) (lv_at hl 1 rfl) (by decide) (by omega) hL hz2 dL_law_1873 dL_law_1874 dL_law_1876 dL_law_1877 dL_law_1878 ?_
  refine z_li (G := G) (w := mW G q th N T E hg ag mn sd tk sg sn) (wr := w2 ++ ([(o, zOut G f2)] : va_W)) (va_runV (As := [.int a1, .int a2]) (rest := []) ⟨hx, hb, hml, hown, hts⟩ (c_X7_signBack l G q th N T E hg ag mn sd tk sg sn a1 a2 K Hz.size hGo.1 (by omega) hM ) (cwV 2 hts gL_law_X7_signBack rfl rfl rfl (by decide +kernel) ⟨Nat.le_of_ble_eq_true rfl, Nat.le_of_ble_eq_true rfl⟩) (z_uv hK (z_apL (z_psw hP)) (ci := 8) (q0 := 0) rfl rfl (z_apL (z_psw hP)) (z_dL (z_dsw hD))) rfl rfl hl.1 rfl (lv_room (Nat.le_of_ble_eq_true rfl)) dL_law_1879 hrm) (z_psw hP) (z_dsw hD) hS hA (fun rb wm1 Hz Lz hm hP hD hS => ?_)
  by_cases hk : sK1 ((sIx a1 (N 5)) && (decide (0 ≤ a2))) = 0
  · skip
    obtain ⟨hrb, E1, hg1, ag1, mn1, sd1, tk1, sg1, sn1, rfl, hM1⟩ := hm.1 hk
    obtain ⟨hf2, A2, mc2, g2, hC2⟩ := h0 hk
    subst hrb
    refine lv_istore (lv' := [(6, .int (rSignAt N T a1 a2 true)), (5, .int (sK1 ((sIx a1 (N 5)) && (decide (0 ≤ a2))))), (4, .int (nI (6 * K))), (0, .ref b), (1, .ref (r 0)), (2, .ref (q 0)), (3, .ref o)]) hx hb dL_law_1882 hl (by decide) rfl (fun ls hl => ?_)
    refine lv_aload_n hx hb dL_law_1884 rfl (lv_at hl 5 rfl) ?_
    refine z_csi (va_Run.run (va_runV (As := []) (rest := []) ⟨hx, hb, hml, hown, hts⟩ (c_X7_thrown l G q (sK1 ((sIx a1 (N 5)) && (decide (0 ≤ a2)))) N T E1 hg1 ag1 mn1 sd1 tk1 sg1 sn1) (cwV 0 hts gL_law_X7_thrown rfl rfl rfl (by decide +kernel) ⟨Nat.le_of_ble_eq_true rfl, Nat.le_of_ble_eq_true rfl⟩) (z_pv hK (z_apL hP) (ci := 8) (q0 := 0) rfl rfl (z_apL hP)) rfl rfl hl.1 rfl (lv_room (Nat.le_of_ble_eq_true rfl)) dL_law_1885 hrm)) (fun zt hzt => ?_)
    subst hzt
    refine lv_iload hx hb dL_law_1888 (lv_at hl 1 rfl) ?_
    refine lv_icmp_eq (tgt := 1895) hx hb dL_law_1890 (by decide) (fun _ => ?_) (fun h => absurd rfl h)
    refine lv_iload hx hb dL_law_1895 (lv_at hl 1 rfl) ?_
    refine lv_if_ne (tgt := 1912) hx hb dL_law_1897 (by decide) (fun h => absurd hk h) (fun _ => ?_)
    refine lv_aload_n hx hb dL_law_1900 rfl (lv_at hl 6 rfl) ?_
    refine lv_iconst (v := 0) hx hb dL_law_1901 (by decide) ?_
    refine va_lald hx hb hK (z_apR hP) w2.length 1 z_atx rfl (vp_in_nI (n := 0) (by decide) (by decide)) dL_law_1902 ?_
    rw [show f2 (0 : Int32).toNatClampNeg = (rSignAt N T a1 a2 true : Int32).toInt64 from hf2]
    refine lv_iload hx hb dL_law_1903 (lv_at hl 0 rfl) ?_
    refine lv_i2l (v := (rSignAt N T a1 a2 true : Int32).toInt64) hx hb dL_law_1905 rfl ?_
    refine W.lcmp hx hb dL_law_1906 ?_
    rw [zcmp rfl]
    refine lv_if_eq (tgt := 1912) hx hb dL_law_1907 (by decide) (fun _ => ?_) (fun h => absurd rfl h)
    refine lv_goto (tgt := 1915) hx hb dL_law_1912 (by decide) ?_
    exact z_widen (zUp8 (K := K) (N := N) (N2 := N) rfl).1 (zUp8 (K := K) (N := N) (N2 := N) rfl).2 (kk N T _ _ _ _ ⟨_, _, _, _, _, _, _, rfl, hC2, ⟨E1, hg1, ag1, mn1, sd1, tk1, sg1, sn1, rfl, hM1⟩, hGo.up⟩ (z_psw hP) (z_dsw hD) hS (lv_sub hl [2, 3, 4, 5, 6] rfl))
  · skip
    obtain ⟨E1, hg1, ag1, mn1, sd1, tk1, sg1, sn1, rfl, hM1⟩ := hm.2 hk
    obtain ⟨A2, mc2, g2, hC2⟩ := h1 hk
    refine lv_istore (lv' := [(6, .int rb), (5, .int (sK1 ((sIx a1 (N 5)) && (decide (0 ≤ a2))))), (4, .int (nI (6 * K))), (0, .ref b), (1, .ref (r 0)), (2, .ref (q 0)), (3, .ref o)]) hx hb dL_law_1882 hl (by decide) rfl (fun ls hl => ?_)
    refine lv_aload_n hx hb dL_law_1884 rfl (lv_at hl 5 rfl) ?_
    refine z_csi (va_Run.run (va_runV (As := []) (rest := []) ⟨hx, hb, hml, hown, hts⟩ (c_X7_thrown l G q (sK1 ((sIx a1 (N 5)) && (decide (0 ≤ a2)))) N T E1 hg1 ag1 mn1 sd1 tk1 sg1 sn1) (cwV 0 hts gL_law_X7_thrown rfl rfl rfl (by decide +kernel) ⟨Nat.le_of_ble_eq_true rfl, Nat.le_of_ble_eq_true rfl⟩) (z_pv hK (z_apL hP) (ci := 8) (q0 := 0) rfl rfl (z_apL hP)) rfl rfl hl.1 rfl (lv_room (Nat.le_of_ble_eq_true rfl)) dL_law_1885 hrm)) (fun zt hzt => ?_)
    subst hzt
    refine lv_iload hx hb dL_law_1888 (lv_at hl 1 rfl) ?_
    refine lv_icmp_eq (tgt := 1895) hx hb dL_law_1890 (by decide) (fun _ => ?_) (fun h => absurd rfl h)
    refine lv_iload hx hb dL_law_1895 (lv_at hl 1 rfl) ?_
    refine lv_if_ne (tgt := 1912) hx hb dL_law_1897 (by decide) (fun _ => ?_) (fun h => absurd h hk)
    refine lv_goto (tgt := 1915) hx hb dL_law_1912 (by decide) ?_
    exact z_widen (zUp8 (K := K) (N := N) (N2 := N) rfl).1 (zUp8 (K := K) (N := N) (N2 := N) rfl).2 (kk N T _ _ _ _ ⟨_, _, _, _, _, _, _, rfl, hC2, ⟨E1, hg1, ag1, mn1, sd1, tk1, sg1, sn1, rfl, hM1⟩, hGo.up⟩ (z_psw hP) (z_dsw hD) hS (lv_sub hl [2, 3, 4, 5, 6] rfl))
