set_option maxHeartbeats 4000000 in
set_option maxRecDepth 100000 in
theorem law_c8 {p : Program} {l : Launch} {e : Env} {s : State} {m : MethodId} {below : List Frame} {meth : Method} {c : Code} {b L : Nat} {xs : Nat → Int32} (hL : L ≤ 3072) (hst : l.stackTraces = false) (C0 : zLA p s m c b L xs) {G : zG} {d : Nat} (hE : zLe G d s) {r q : Nat → Nat} {o K : Nat} {N : Nat → Nat} {T : Nat → Nat → Int32} {wz : va_W} {H : Heap} {locs : List Loc} (hw : zLw G d r q o K N T wz) (hi : 6 * K + 6 ≤ L) (hP : va_P G.1 vwCl wz H) (hD : va_D (fun a => s.heap.size ≤ a) wz) (hS : va_S (fun a => s.heap.size ≤ a) s.heap H locs) {ls : Array Slot} (hl : lv_has ls 7 [(4, .int (nI (6 * K))), (0, .ref b), (1, .ref (r 0)), (2, .ref (q 0)), (3, .ref o)]) (kk : zKK p l e s m below meth c b G d r q o K) : W p l e room_1 s m #[Value.ref b] below meth c H locs (zLc K N) (zLs K N) (lw_Z below #[Value.ref b] s) (F0 m 694 ls []) := by
  obtain ⟨hx, hb, hml, hown, hts, hXs, hbl⟩ := C0
  obtain ⟨hK, hZ, hLx⟩ := hE
  have hA : ∀ a : Nat, s.heap.size ≤ a → (fun a : Nat => s.heap.size ≤ a) a := fun _ h => h
  have hbA : ¬ (fun a : Nat => s.heap.size ≤ a) b := Nat.not_le.mpr hbl
  obtain ⟨A, mc, g, w, wm, th, f, rfl, hC, hMO, hGo⟩ := hw
  obtain ⟨E, hg, ag, mn, sd, tk, sg, sn, rfl, hM⟩ := hMO
  have hK5 : K ≤ 511 := by omega
  obtain ⟨a1, hz1⟩ : ∃ y, y = xs (6 * K + 1) := ⟨_, rfl⟩
  obtain ⟨a2, hz2⟩ : ∃ y, y = xs (6 * K + 2) := ⟨_, rfl⟩
  have hrm := zRk hGo hK5 (N2 := ((nTake N T a1 a2).1)) (T2 := ((nTake N T a1 a2).2)) (k := sK2 ((sIx a1 9) && (sIx a2 (N 2))) (((decide (T 10 a2.toNatClampNeg = 0)) && (sMay N T a1)) && (decide (a1 = T 7 a2.toNatClampNeg) || !decide (T 2 (T 7 a2.toNatClampNeg).toNatClampNeg = 0)))) (fun hk => (g_take hGo hk))
  refine lv_aload_n hx hb dL_law_694 rfl (lv_at hl 2 rfl) ?_
  refine z_arg hx hb hXs hbl hbA hS (k := 1) (lv_at hl 1 rfl) (lv_at hl 0 rfl) (by decide) (by omega) hL hz1 dL_law_695 dL_law_696 dL_law_698 dL_law_699 dL_law_700 ?_
  refine z_arg hx hb hXs hbl hbA hS (k := 2) (lv_at hl 1 rfl) (lv_at hl 0 rfl) (by decide) (by omega) hL hz2 dL_law_701 dL_law_702 dL_law_704 dL_law_705 dL_law_706 ?_
  refine lv_aload_n hx hb dL_law_707 rfl (lv_at hl 4 rfl) ?_
  refine z_xi (G := G) (w := (w ++ ([(o, zOut G f)] : va_W))) (vx_runSX (hh := [(0, 17, 20, 13), (0, 17, 24, 17)]) (As := [.ref (r 0), .int a1, .int a2, .ref o]) (rest := []) ⟨hx, hb, hml, hown, hts⟩ (h_takeOff l hst G d r A mc g N T w K a1 a2 o f H.size hC hGo.1 hK5 ) (vx_cwSW 4 hts gL_law_L_takeOff rfl rfl rfl (by decide +kernel) ⟨Nat.le_of_ble_eq_true rfl, Nat.le_of_ble_eq_true rfl⟩) (z_hs hK (z_apL hP) (z_dL hD) hZ hLx hS hA) rfl rfl hl.1 rfl (lv_room (Nat.le_of_ble_eq_true rfl)) dL_law_708 hrm) hP hD hS hA (fun i E ce q9 Hz Lz hk hE hP hS hce hcv hcl => absurd hE (by simp)) (fun k5 w1 Hz Lz hq hP hD hS => ?_)
  obtain ⟨hk5, w2, f2, rfl, h0, h1⟩ := hq
  subst hk5
  refine lv_istore (lv' := [(5, .int (sK2 ((sIx a1 9) && (sIx a2 (N 2))) (((decide (T 10 a2.toNatClampNeg = 0)) && (sMay N T a1)) && (decide (a1 = T 7 a2.toNatClampNeg) || !decide (T 2 (T 7 a2.toNatClampNeg).toNatClampNeg = 0))))), (4, .int (nI (6 * K))), (0, .ref b), (1, .ref (r 0)), (2, .ref (q 0)), (3, .ref o)]) hx hb dL_law_711 hl (by decide) rfl (fun ls hl => ?_)
  refine lv_aload_n hx hb dL_law_713 rfl (lv_at hl 4 rfl) ?_
  refine z_arg hx hb hXs hbl hbA hS (k := 1) (lv_at hl 2 rfl) (lv_at hl 1 rfl) (by decide) (by omega) hL hz1 dL_law_714 dL_law_715 dL_law_717 dL_law_718 dL_law_719 ?_
  refine z_arg hx hb hXs hbl hbA hS (k := 2) (lv_at hl 2 rfl) (lv_at hl 1 rfl) (by decide) (by omega) hL hz2 dL_law_720 dL_law_721 dL_law_723 dL_law_724 dL_law_725 ?_
  refine z_li (G := G) (w := mW G q th N T E hg ag mn sd tk sg sn) (wr := w2 ++ ([(o, zOut G f2)] : va_W)) (va_runV (As := [.int a1, .int a2]) (rest := []) ⟨hx, hb, hml, hown, hts⟩ (c_X7_takeOff l G q th N T E hg ag mn sd tk sg sn a1 a2 K Hz.size hGo.1 (by omega) hM ) (cwV 2 hts gL_law_X7_takeOff rfl rfl rfl (by decide +kernel) ⟨Nat.le_of_ble_eq_true rfl, Nat.le_of_ble_eq_true rfl⟩) (z_uv hK (z_apL (z_psw hP)) (ci := 8) (q0 := 0) rfl rfl (z_apL (z_psw hP)) (z_dL (z_dsw hD))) rfl rfl hl.1 rfl (lv_room (Nat.le_of_ble_eq_true rfl)) dL_law_726 hrm) (z_psw hP) (z_dsw hD) hS hA (fun rb wm1 Hz Lz hm hP hD hS => ?_)
  by_cases hk : sK2 ((sIx a1 9) && (sIx a2 (N 2))) (((decide (T 10 a2.toNatClampNeg = 0)) && (sMay N T a1)) && (decide (a1 = T 7 a2.toNatClampNeg) || !decide (T 2 (T 7 a2.toNatClampNeg).toNatClampNeg = 0))) = 0
  · skip
    obtain ⟨hrb, E1, hg1, ag1, mn1, sd1, tk1, sg1, sn1, rfl, hM1⟩ := hm.1 hk
    obtain ⟨hf2, A2, mc2, g2, hC2⟩ := h0 hk
    subst hrb
    refine lv_istore (lv' := [(6, .int (zb (sComes T a1 a2.toNatClampNeg))), (5, .int (sK2 ((sIx a1 9) && (sIx a2 (N 2))) (((decide (T 10 a2.toNatClampNeg = 0)) && (sMay N T a1)) && (decide (a1 = T 7 a2.toNatClampNeg) || !decide (T 2 (T 7 a2.toNatClampNeg).toNatClampNeg = 0))))), (4, .int (nI (6 * K))), (0, .ref b), (1, .ref (r 0)), (2, .ref (q 0)), (3, .ref o)]) hx hb dL_law_729 hl (by decide) rfl (fun ls hl => ?_)
    refine lv_aload_n hx hb dL_law_731 rfl (lv_at hl 5 rfl) ?_
    refine z_csi (va_Run.run (va_runV (As := []) (rest := []) ⟨hx, hb, hml, hown, hts⟩ (c_X7_thrown l G q (sK2 ((sIx a1 9) && (sIx a2 (N 2))) (((decide (T 10 a2.toNatClampNeg = 0)) && (sMay N T a1)) && (decide (a1 = T 7 a2.toNatClampNeg) || !decide (T 2 (T 7 a2.toNatClampNeg).toNatClampNeg = 0)))) ((nTake N T a1 a2).1) ((nTake N T a1 a2).2) E1 hg1 ag1 mn1 sd1 tk1 sg1 sn1) (cwV 0 hts gL_law_X7_thrown rfl rfl rfl (by decide +kernel) ⟨Nat.le_of_ble_eq_true rfl, Nat.le_of_ble_eq_true rfl⟩) (z_pv hK (z_apL hP) (ci := 8) (q0 := 0) rfl rfl (z_apL hP)) rfl rfl hl.1 rfl (lv_room (Nat.le_of_ble_eq_true rfl)) dL_law_732 hrm)) (fun zt hzt => ?_)
    subst hzt
    refine lv_iload hx hb dL_law_735 (lv_at hl 1 rfl) ?_
    refine lv_icmp_eq (tgt := 742) hx hb dL_law_737 (by decide) (fun _ => ?_) (fun h => absurd rfl h)
    refine lv_iload hx hb dL_law_742 (lv_at hl 1 rfl) ?_
    refine lv_if_ne (tgt := 766) hx hb dL_law_744 (by decide) (fun h => absurd hk h) (fun _ => ?_)
    refine lv_aload_n hx hb dL_law_747 rfl (lv_at hl 6 rfl) ?_
    refine lv_iconst (v := 0) hx hb dL_law_748 (by decide) ?_
    refine va_lald hx hb hK (z_apR hP) w2.length 1 z_atx rfl (vp_in_nI (n := 0) (by decide) (by decide)) dL_law_749 ?_
    rw [show f2 (0 : Int32).toNatClampNeg = (zL1 (zb (sComes T a1 a2.toNatClampNeg))) from hf2]
    refine lv_iload hx hb dL_law_750 (lv_at hl 0 rfl) ?_
    refine z_bl hx hb dL_law_752 dL_law_755 dL_law_756 dL_law_759 ?_
    refine W.lcmp hx hb dL_law_760 ?_
    rw [zcmp rfl]
    refine lv_if_eq (tgt := 766) hx hb dL_law_761 (by decide) (fun _ => ?_) (fun h => absurd rfl h)
    refine lv_goto (tgt := 1915) hx hb dL_law_766 (by decide) ?_
    exact z_widen (zUp0 (K := K) (N := N) (N2 := ((nTake N T a1 a2).1)) (k := sK2 ((sIx a1 9) && (sIx a2 (N 2))) (((decide (T 10 a2.toNatClampNeg = 0)) && (sMay N T a1)) && (decide (a1 = T 7 a2.toNatClampNeg) || !decide (T 2 (T 7 a2.toNatClampNeg).toNatClampNeg = 0)))) hk m_take).1 (zUp0 (K := K) (N := N) (N2 := ((nTake N T a1 a2).1)) (k := sK2 ((sIx a1 9) && (sIx a2 (N 2))) (((decide (T 10 a2.toNatClampNeg = 0)) && (sMay N T a1)) && (decide (a1 = T 7 a2.toNatClampNeg) || !decide (T 2 (T 7 a2.toNatClampNeg).toNatClampNeg = 0)))) hk m_take).2 (kk ((nTake N T a1 a2).1) ((nTake N T a1 a2).2) _ _ _ _ ⟨_, _, _, _, _, _, _, rfl, hC2, ⟨E1, hg1, ag1, mn1, sd1, tk1, sg1, sn1, rfl, hM1⟩, (g_take hGo hk)⟩ (z_psw hP) (z_dsw hD) hS (lv_sub hl [2, 3, 4, 5, 6] rfl))
  · skip
    obtain ⟨E1, hg1, ag1, mn1, sd1, tk1, sg1, sn1, rfl, hM1⟩ := hm.2 hk
    obtain ⟨A2, mc2, g2, hC2⟩ := h1 hk
    refine lv_istore (lv' := [(6, .int rb), (5, .int (sK2 ((sIx a1 9) && (sIx a2 (N 2))) (((decide (T 10 a2.toNatClampNeg = 0)) && (sMay N T a1)) && (decide (a1 = T 7 a2.toNatClampNeg) || !decide (T 2 (T 7 a2.toNatClampNeg).toNatClampNeg = 0))))), (4, .int (nI (6 * K))), (0, .ref b), (1, .ref (r 0)), (2, .ref (q 0)), (3, .ref o)]) hx hb dL_law_729 hl (by decide) rfl (fun ls hl => ?_)
    refine lv_aload_n hx hb dL_law_731 rfl (lv_at hl 5 rfl) ?_
    refine z_csi (va_Run.run (va_runV (As := []) (rest := []) ⟨hx, hb, hml, hown, hts⟩ (c_X7_thrown l G q (sK2 ((sIx a1 9) && (sIx a2 (N 2))) (((decide (T 10 a2.toNatClampNeg = 0)) && (sMay N T a1)) && (decide (a1 = T 7 a2.toNatClampNeg) || !decide (T 2 (T 7 a2.toNatClampNeg).toNatClampNeg = 0)))) N T E1 hg1 ag1 mn1 sd1 tk1 sg1 sn1) (cwV 0 hts gL_law_X7_thrown rfl rfl rfl (by decide +kernel) ⟨Nat.le_of_ble_eq_true rfl, Nat.le_of_ble_eq_true rfl⟩) (z_pv hK (z_apL hP) (ci := 8) (q0 := 0) rfl rfl (z_apL hP)) rfl rfl hl.1 rfl (lv_room (Nat.le_of_ble_eq_true rfl)) dL_law_732 hrm)) (fun zt hzt => ?_)
    subst hzt
    refine lv_iload hx hb dL_law_735 (lv_at hl 1 rfl) ?_
    refine lv_icmp_eq (tgt := 742) hx hb dL_law_737 (by decide) (fun _ => ?_) (fun h => absurd rfl h)
    refine lv_iload hx hb dL_law_742 (lv_at hl 1 rfl) ?_
    refine lv_if_ne (tgt := 766) hx hb dL_law_744 (by decide) (fun _ => ?_) (fun h => absurd h hk)
    refine lv_goto (tgt := 1915) hx hb dL_law_766 (by decide) ?_
    exact z_widen (zUpn (K := K) (N := N) (a := N 1) (b := ((nTake N T a1 a2).1) 1) (k := sK2 ((sIx a1 9) && (sIx a2 (N 2))) (((decide (T 10 a2.toNatClampNeg = 0)) && (sMay N T a1)) && (decide (a1 = T 7 a2.toNatClampNeg) || !decide (T 2 (T 7 a2.toNatClampNeg).toNatClampNeg = 0)))) hk).1 (zUpn (K := K) (N := N) (a := N 1) (b := ((nTake N T a1 a2).1) 1) (k := sK2 ((sIx a1 9) && (sIx a2 (N 2))) (((decide (T 10 a2.toNatClampNeg = 0)) && (sMay N T a1)) && (decide (a1 = T 7 a2.toNatClampNeg) || !decide (T 2 (T 7 a2.toNatClampNeg).toNatClampNeg = 0)))) hk).2 (kk N T _ _ _ _ ⟨_, _, _, _, _, _, _, rfl, hC2, ⟨E1, hg1, ag1, mn1, sd1, tk1, sg1, sn1, rfl, hM1⟩, hGo.up⟩ (z_psw hP) (z_dsw hD) hS (lv_sub hl [2, 3, 4, 5, 6] rfl))

set_option maxHeartbeats 4000000 in
set_option maxRecDepth 100000 in
theorem law_c9 {p : Program} {l : Launch} {e : Env} {s : State} {m : MethodId} {below : List Frame} {meth : Method} {c : Code} {b L : Nat} {xs : Nat → Int32} (hL : L ≤ 3072) (hst : l.stackTraces = false) (C0 : zLA p s m c b L xs) {G : zG} {d : Nat} (hE : zLe G d s) {r q : Nat → Nat} {o K : Nat} {N : Nat → Nat} {T : Nat → Nat → Int32} {wz : va_W} {H : Heap} {locs : List Loc} (hw : zLw G d r q o K N T wz) (hi : 6 * K + 6 ≤ L) (hP : va_P G.1 vwCl wz H) (hD : va_D (fun a => s.heap.size ≤ a) wz) (hS : va_S (fun a => s.heap.size ≤ a) s.heap H locs) {ls : Array Slot} (hl : lv_has ls 7 [(4, .int (nI (6 * K))), (0, .ref b), (1, .ref (r 0)), (2, .ref (q 0)), (3, .ref o)]) (kk : zKK p l e s m below meth c b G d r q o K) : W p l e room_1 s m #[Value.ref b] below meth c H locs (zLc K N) (zLs K N) (lw_Z below #[Value.ref b] s) (F0 m 769 ls []) := by
  obtain ⟨hx, hb, hml, hown, hts, hXs, hbl⟩ := C0
  obtain ⟨hK, hZ, hLx⟩ := hE
  have hA : ∀ a : Nat, s.heap.size ≤ a → (fun a : Nat => s.heap.size ≤ a) a := fun _ h => h
  have hbA : ¬ (fun a : Nat => s.heap.size ≤ a) b := Nat.not_le.mpr hbl
  obtain ⟨A, mc, g, w, wm, th, f, rfl, hC, hMO, hGo⟩ := hw
  obtain ⟨E, hg, ag, mn, sd, tk, sg, sn, rfl, hM⟩ := hMO
  have hK5 : K ≤ 511 := by omega
  obtain ⟨a1, hz1⟩ : ∃ y, y = xs (6 * K + 1) := ⟨_, rfl⟩
  have hrm := zRk8 hGo hK5
  refine lv_aload_n hx hb dL_law_769 rfl (lv_at hl 2 rfl) ?_
  refine z_arg hx hb hXs hbl hbA hS (k := 1) (lv_at hl 1 rfl) (lv_at hl 0 rfl) (by decide) (by omega) hL hz1 dL_law_770 dL_law_771 dL_law_773 dL_law_774 dL_law_775 ?_
  refine lv_aload_n hx hb dL_law_776 rfl (lv_at hl 4 rfl) ?_
  refine z_xi (G := G) (w := (w ++ ([(o, zOut G f)] : va_W))) (vx_runSX (hh := [(0, 9, 12, 13)]) (As := [.ref (r 0), .int a1, .ref o]) (rest := []) ⟨hx, hb, hml, hown, hts⟩ (h_valveOf l hst G d r A mc g N T w K a1 o f H.size hC hGo.1 hK5 ) (vx_cwSW 3 hts gL_law_L_valveOf rfl rfl rfl (by decide +kernel) ⟨Nat.le_of_ble_eq_true rfl, Nat.le_of_ble_eq_true rfl⟩) (z_hs hK (z_apL hP) (z_dL hD) hZ hLx hS hA) rfl rfl hl.1 rfl (lv_room (Nat.le_of_ble_eq_true rfl)) dL_law_777 hrm) hP hD hS hA (fun i E ce q9 Hz Lz hk hE hP hS hce hcv hcl => absurd hE (by simp)) (fun k5 w1 Hz Lz hq hP hD hS => ?_)
  obtain ⟨hk5, w2, f2, rfl, h0, h1⟩ := hq
  subst hk5
  refine lv_istore (lv' := [(5, .int (sK1 (sIx a1 (N 2)))), (4, .int (nI (6 * K))), (0, .ref b), (1, .ref (r 0)), (2, .ref (q 0)), (3, .ref o)]) hx hb dL_law_780 hl (by decide) rfl (fun ls hl => ?_)
  refine lv_aload_n hx hb dL_law_782 rfl (lv_at hl 4 rfl) ?_
  refine z_arg hx hb hXs hbl hbA hS (k := 1) (lv_at hl 2 rfl) (lv_at hl 1 rfl) (by decide) (by omega) hL hz1 dL_law_783 dL_law_784 dL_law_786 dL_law_787 dL_law_788 ?_
  refine z_li (G := G) (w := mW G q th N T E hg ag mn sd tk sg sn) (wr := w2 ++ ([(o, zOut G f2)] : va_W)) (va_runV (As := [.int a1]) (rest := []) ⟨hx, hb, hml, hown, hts⟩ (c_X7_valveOf l G q th N T E hg ag mn sd tk sg sn a1 K Hz.size hGo.1 (by omega) hM ) (cwV 1 hts gL_law_X7_valveOf rfl rfl rfl (by decide +kernel) ⟨Nat.le_of_ble_eq_true rfl, Nat.le_of_ble_eq_true rfl⟩) (z_uv hK (z_apL (z_psw hP)) (ci := 8) (q0 := 0) rfl rfl (z_apL (z_psw hP)) (z_dL (z_dsw hD))) rfl rfl hl.1 rfl (lv_room (Nat.le_of_ble_eq_true rfl)) dL_law_789 hrm) (z_psw hP) (z_dsw hD) hS hA (fun rb wm1 Hz Lz hm hP hD hS => ?_)
  by_cases hk : sK1 (sIx a1 (N 2)) = 0
  · skip
    obtain ⟨hrb, E1, hg1, ag1, mn1, sd1, tk1, sg1, sn1, rfl, hM1⟩ := hm.1 hk
    obtain ⟨hf2, A2, mc2, g2, hC2⟩ := h0 hk
    subst hrb
    refine lv_istore (lv' := [(6, .int (rValveOf T a1)), (5, .int (sK1 (sIx a1 (N 2)))), (4, .int (nI (6 * K))), (0, .ref b), (1, .ref (r 0)), (2, .ref (q 0)), (3, .ref o)]) hx hb dL_law_792 hl (by decide) rfl (fun ls hl => ?_)
    refine lv_aload_n hx hb dL_law_794 rfl (lv_at hl 5 rfl) ?_
    refine z_csi (va_Run.run (va_runV (As := []) (rest := []) ⟨hx, hb, hml, hown, hts⟩ (c_X7_thrown l G q (sK1 (sIx a1 (N 2))) N T E1 hg1 ag1 mn1 sd1 tk1 sg1 sn1) (cwV 0 hts gL_law_X7_thrown rfl rfl rfl (by decide +kernel) ⟨Nat.le_of_ble_eq_true rfl, Nat.le_of_ble_eq_true rfl⟩) (z_pv hK (z_apL hP) (ci := 8) (q0 := 0) rfl rfl (z_apL hP)) rfl rfl hl.1 rfl (lv_room (Nat.le_of_ble_eq_true rfl)) dL_law_795 hrm)) (fun zt hzt => ?_)
    subst hzt
    refine lv_iload hx hb dL_law_798 (lv_at hl 1 rfl) ?_
    refine lv_icmp_eq (tgt := 805) hx hb dL_law_800 (by decide) (fun _ => ?_) (fun h => absurd rfl h)
    refine lv_iload hx hb dL_law_805 (lv_at hl 1 rfl) ?_
    refine lv_if_ne (tgt := 822) hx hb dL_law_807 (by decide) (fun h => absurd hk h) (fun _ => ?_)
    refine lv_aload_n hx hb dL_law_810 rfl (lv_at hl 6 rfl) ?_
    refine lv_iconst (v := 0) hx hb dL_law_811 (by decide) ?_
    refine va_lald hx hb hK (z_apR hP) w2.length 1 z_atx rfl (vp_in_nI (n := 0) (by decide) (by decide)) dL_law_812 ?_
    rw [show f2 (0 : Int32).toNatClampNeg = (rValveOf T a1 : Int32).toInt64 from hf2]
    refine lv_iload hx hb dL_law_813 (lv_at hl 0 rfl) ?_
    refine lv_i2l (v := (rValveOf T a1 : Int32).toInt64) hx hb dL_law_815 rfl ?_
    refine W.lcmp hx hb dL_law_816 ?_
    rw [zcmp rfl]
    refine lv_if_eq (tgt := 822) hx hb dL_law_817 (by decide) (fun _ => ?_) (fun h => absurd rfl h)
    refine lv_goto (tgt := 1915) hx hb dL_law_822 (by decide) ?_
    exact z_widen (zUp8 (K := K) (N := N) (N2 := N) rfl).1 (zUp8 (K := K) (N := N) (N2 := N) rfl).2 (kk N T _ _ _ _ ⟨_, _, _, _, _, _, _, rfl, hC2, ⟨E1, hg1, ag1, mn1, sd1, tk1, sg1, sn1, rfl, hM1⟩, hGo.up⟩ (z_psw hP) (z_dsw hD) hS (lv_sub hl [2, 3, 4, 5, 6] rfl))
  · skip
    obtain ⟨E1, hg1, ag1, mn1, sd1, tk1, sg1, sn1, rfl, hM1⟩ := hm.2 hk
    obtain ⟨A2, mc2, g2, hC2⟩ := h1 hk
    refine lv_istore (lv' := [(6, .int rb), (5, .int (sK1 (sIx a1 (N 2)))), (4, .int (nI (6 * K))), (0, .ref b), (1, .ref (r 0)), (2, .ref (q 0)), (3, .ref o)]) hx hb dL_law_792 hl (by decide) rfl (fun ls hl => ?_)
    refine lv_aload_n hx hb dL_law_794 rfl (lv_at hl 5 rfl) ?_
    refine z_csi (va_Run.run (va_runV (As := []) (rest := []) ⟨hx, hb, hml, hown, hts⟩ (c_X7_thrown l G q (sK1 (sIx a1 (N 2))) N T E1 hg1 ag1 mn1 sd1 tk1 sg1 sn1) (cwV 0 hts gL_law_X7_thrown rfl rfl rfl (by decide +kernel) ⟨Nat.le_of_ble_eq_true rfl, Nat.le_of_ble_eq_true rfl⟩) (z_pv hK (z_apL hP) (ci := 8) (q0 := 0) rfl rfl (z_apL hP)) rfl rfl hl.1 rfl (lv_room (Nat.le_of_ble_eq_true rfl)) dL_law_795 hrm)) (fun zt hzt => ?_)
    subst hzt
    refine lv_iload hx hb dL_law_798 (lv_at hl 1 rfl) ?_
    refine lv_icmp_eq (tgt := 805) hx hb dL_law_800 (by decide) (fun _ => ?_) (fun h => absurd rfl h)
    refine lv_iload hx hb dL_law_805 (lv_at hl 1 rfl) ?_
    refine lv_if_ne (tgt := 822) hx hb dL_law_807 (by decide) (fun _ => ?_) (fun h => absurd h hk)
    refine lv_goto (tgt := 1915) hx hb dL_law_822 (by decide) ?_
    exact z_widen (zUp8 (K := K) (N := N) (N2 := N) rfl).1 (zUp8 (K := K) (N := N) (N2 := N) rfl).2 (kk N T _ _ _ _ ⟨_, _, _, _, _, _, _, rfl, hC2, ⟨E1, hg1, ag1, mn1, sd1, tk1, sg1, sn1, rfl, hM1⟩, hGo.up⟩ (z_psw hP) (z_dsw hD) hS (lv_sub hl [2, 3, 4, 5, 6] rfl))

set_option maxHeartbeats 4000000 in
set_option maxRecDepth 100000 in
theorem law_c10 {p : Program} {l : Launch} {e : Env} {s : State} {m : MethodId} {below : List Frame} {meth : Method} {c : Code} {b L : Nat} {xs : Nat → Int32} (hL : L ≤ 3072) (hst : l.stackTraces = false) (C0 : zLA p s m c b L xs) {G : zG} {d : Nat} (hE : zLe G d s) {r q : Nat → Nat} {o K : Nat} {N : Nat → Nat} {T : Nat → Nat → Int32} {wz : va_W} {H : Heap} {locs : List Loc} (hw : zLw G d r q o K N T wz) (hi : 6 * K + 6 ≤ L) (hP : va_P G.1 vwCl wz H) (hD : va_D (fun a => s.heap.size ≤ a) wz) (hS : va_S (fun a => s.heap.size ≤ a) s.heap H locs) {ls : Array Slot} (hl : lv_has ls 7 [(4, .int (nI (6 * K))), (0, .ref b), (1, .ref (r 0)), (2, .ref (q 0)), (3, .ref o)]) (kk : zKK p l e s m below meth c b G d r q o K) : W p l e room_1 s m #[Value.ref b] below meth c H locs (zLc K N) (zLs K N) (lw_Z below #[Value.ref b] s) (F0 m 825 ls []) := by
  obtain ⟨hx, hb, hml, hown, hts, hXs, hbl⟩ := C0
  obtain ⟨hK, hZ, hLx⟩ := hE
  have hA : ∀ a : Nat, s.heap.size ≤ a → (fun a : Nat => s.heap.size ≤ a) a := fun _ h => h
  have hbA : ¬ (fun a : Nat => s.heap.size ≤ a) b := Nat.not_le.mpr hbl
  obtain ⟨A, mc, g, w, wm, th, f, rfl, hC, hMO, hGo⟩ := hw
  obtain ⟨E, hg, ag, mn, sd, tk, sg, sn, rfl, hM⟩ := hMO
  have hK5 : K ≤ 511 := by omega
  obtain ⟨a1, hz1⟩ : ∃ y, y = xs (6 * K + 1) := ⟨_, rfl⟩
  have hrm := zRk8 hGo hK5
  refine lv_aload_n hx hb dL_law_825 rfl (lv_at hl 2 rfl) ?_
  refine z_arg hx hb hXs hbl hbA hS (k := 1) (lv_at hl 1 rfl) (lv_at hl 0 rfl) (by decide) (by omega) hL hz1 dL_law_826 dL_law_827 dL_law_829 dL_law_830 dL_law_831 ?_
  refine lv_aload_n hx hb dL_law_832 rfl (lv_at hl 4 rfl) ?_
  refine z_xi (G := G) (w := (w ++ ([(o, zOut G f)] : va_W))) (vx_runSX (hh := [(0, 9, 12, 13)]) (As := [.ref (r 0), .int a1, .ref o]) (rest := []) ⟨hx, hb, hml, hown, hts⟩ (h_ownerOf l hst G d r A mc g N T w K a1 o f H.size hC hGo.1 hK5 ) (vx_cwSW 3 hts gL_law_L_ownerOf rfl rfl rfl (by decide +kernel) ⟨Nat.le_of_ble_eq_true rfl, Nat.le_of_ble_eq_true rfl⟩) (z_hs hK (z_apL hP) (z_dL hD) hZ hLx hS hA) rfl rfl hl.1 rfl (lv_room (Nat.le_of_ble_eq_true rfl)) dL_law_833 hrm) hP hD hS hA (fun i E ce q9 Hz Lz hk hE hP hS hce hcv hcl => absurd hE (by simp)) (fun k5 w1 Hz Lz hq hP hD hS => ?_)
  obtain ⟨hk5, w2, f2, rfl, h0, h1⟩ := hq
  subst hk5
  refine lv_istore (lv' := [(5, .int (sK1 (sIx a1 (N 2)))), (4, .int (nI (6 * K))), (0, .ref b), (1, .ref (r 0)), (2, .ref (q 0)), (3, .ref o)]) hx hb dL_law_836 hl (by decide) rfl (fun ls hl => ?_)
  refine lv_aload_n hx hb dL_law_838 rfl (lv_at hl 4 rfl) ?_
  refine z_arg hx hb hXs hbl hbA hS (k := 1) (lv_at hl 2 rfl) (lv_at hl 1 rfl) (by decide) (by omega) hL hz1 dL_law_839 dL_law_840 dL_law_842 dL_law_843 dL_law_844 ?_
  refine z_li (G := G) (w := mW G q th N T E hg ag mn sd tk sg sn) (wr := w2 ++ ([(o, zOut G f2)] : va_W)) (va_runV (As := [.int a1]) (rest := []) ⟨hx, hb, hml, hown, hts⟩ (c_X7_ownerOf l G q th N T E hg ag mn sd tk sg sn a1 K Hz.size hGo.1 (by omega) hM ) (cwV 1 hts gL_law_X7_ownerOf rfl rfl rfl (by decide +kernel) ⟨Nat.le_of_ble_eq_true rfl, Nat.le_of_ble_eq_true rfl⟩) (z_uv hK (z_apL (z_psw hP)) (ci := 8) (q0 := 0) rfl rfl (z_apL (z_psw hP)) (z_dL (z_dsw hD))) rfl rfl hl.1 rfl (lv_room (Nat.le_of_ble_eq_true rfl)) dL_law_845 hrm) (z_psw hP) (z_dsw hD) hS hA (fun rb wm1 Hz Lz hm hP hD hS => ?_)
  by_cases hk : sK1 (sIx a1 (N 2)) = 0
  · skip
    obtain ⟨hrb, E1, hg1, ag1, mn1, sd1, tk1, sg1, sn1, rfl, hM1⟩ := hm.1 hk
    obtain ⟨hf2, A2, mc2, g2, hC2⟩ := h0 hk
    subst hrb
    refine lv_istore (lv' := [(6, .int (T 7 a1.toNatClampNeg)), (5, .int (sK1 (sIx a1 (N 2)))), (4, .int (nI (6 * K))), (0, .ref b), (1, .ref (r 0)), (2, .ref (q 0)), (3, .ref o)]) hx hb dL_law_848 hl (by decide) rfl (fun ls hl => ?_)
    refine lv_aload_n hx hb dL_law_850 rfl (lv_at hl 5 rfl) ?_
    refine z_csi (va_Run.run (va_runV (As := []) (rest := []) ⟨hx, hb, hml, hown, hts⟩ (c_X7_thrown l G q (sK1 (sIx a1 (N 2))) N T E1 hg1 ag1 mn1 sd1 tk1 sg1 sn1) (cwV 0 hts gL_law_X7_thrown rfl rfl rfl (by decide +kernel) ⟨Nat.le_of_ble_eq_true rfl, Nat.le_of_ble_eq_true rfl⟩) (z_pv hK (z_apL hP) (ci := 8) (q0 := 0) rfl rfl (z_apL hP)) rfl rfl hl.1 rfl (lv_room (Nat.le_of_ble_eq_true rfl)) dL_law_851 hrm)) (fun zt hzt => ?_)
    subst hzt
    refine lv_iload hx hb dL_law_854 (lv_at hl 1 rfl) ?_
    refine lv_icmp_eq (tgt := 861) hx hb dL_law_856 (by decide) (fun _ => ?_) (fun h => absurd rfl h)
    refine lv_iload hx hb dL_law_861 (lv_at hl 1 rfl) ?_
    refine lv_if_ne (tgt := 878) hx hb dL_law_863 (by decide) (fun h => absurd hk h) (fun _ => ?_)
    refine lv_aload_n hx hb dL_law_866 rfl (lv_at hl 6 rfl) ?_
    refine lv_iconst (v := 0) hx hb dL_law_867 (by decide) ?_
    refine va_lald hx hb hK (z_apR hP) w2.length 1 z_atx rfl (vp_in_nI (n := 0) (by decide) (by decide)) dL_law_868 ?_
    rw [show f2 (0 : Int32).toNatClampNeg = (T 7 a1.toNatClampNeg : Int32).toInt64 from hf2]
    refine lv_iload hx hb dL_law_869 (lv_at hl 0 rfl) ?_
    refine lv_i2l (v := (T 7 a1.toNatClampNeg : Int32).toInt64) hx hb dL_law_871 rfl ?_
    refine W.lcmp hx hb dL_law_872 ?_
    rw [zcmp rfl]
    refine lv_if_eq (tgt := 878) hx hb dL_law_873 (by decide) (fun _ => ?_) (fun h => absurd rfl h)
    refine lv_goto (tgt := 1915) hx hb dL_law_878 (by decide) ?_
    exact z_widen (zUp8 (K := K) (N := N) (N2 := N) rfl).1 (zUp8 (K := K) (N := N) (N2 := N) rfl).2 (kk N T _ _ _ _ ⟨_, _, _, _, _, _, _, rfl, hC2, ⟨E1, hg1, ag1, mn1, sd1, tk1, sg1, sn1, rfl, hM1⟩, hGo.up⟩ (z_psw hP) (z_dsw hD) hS (lv_sub hl [2, 3, 4, 5, 6] rfl))
  · skip
    obtain ⟨E1, hg1, ag1, mn1, sd1, tk1, sg1, sn1, rfl, hM1⟩ := hm.2 hk
    obtain ⟨A2, mc2, g2, hC2⟩ := h1 hk
    refine lv_istore (lv' := [(6, .int rb), (5, .int (sK1 (sIx a1 (N 2)))), (4, .int (nI (6 * K))), (0, .ref b), (1, .ref (r 0)), (2, .ref (q 0)), (3, .ref o)]) hx hb dL_law_848 hl (by decide) rfl (fun ls hl => ?_)
    refine lv_aload_n hx hb dL_law_850 rfl (lv_at hl 5 rfl) ?_
    refine z_csi (va_Run.run (va_runV (As := []) (rest := []) ⟨hx, hb, hml, hown, hts⟩ (c_X7_thrown l G q (sK1 (sIx a1 (N 2))) N T E1 hg1 ag1 mn1 sd1 tk1 sg1 sn1) (cwV 0 hts gL_law_X7_thrown rfl rfl rfl (by decide +kernel) ⟨Nat.le_of_ble_eq_true rfl, Nat.le_of_ble_eq_true rfl⟩) (z_pv hK (z_apL hP) (ci := 8) (q0 := 0) rfl rfl (z_apL hP)) rfl rfl hl.1 rfl (lv_room (Nat.le_of_ble_eq_true rfl)) dL_law_851 hrm)) (fun zt hzt => ?_)
    subst hzt
    refine lv_iload hx hb dL_law_854 (lv_at hl 1 rfl) ?_
    refine lv_icmp_eq (tgt := 861) hx hb dL_law_856 (by decide) (fun _ => ?_) (fun h => absurd rfl h)
    refine lv_iload hx hb dL_law_861 (lv_at hl 1 rfl) ?_
    refine lv_if_ne (tgt := 878) hx hb dL_law_863 (by decide) (fun _ => ?_) (fun h => absurd h hk)
    refine lv_goto (tgt := 1915) hx hb dL_law_878 (by decide) ?_
    exact z_widen (zUp8 (K := K) (N := N) (N2 := N) rfl).1 (zUp8 (K := K) (N := N) (N2 := N) rfl).2 (kk N T _ _ _ _ ⟨_, _, _, _, _, _, _, rfl, hC2, ⟨E1, hg1, ag1, mn1, sd1, tk1, sg1, sn1, rfl, hM1⟩, hGo.up⟩ (z_psw hP) (z_dsw hD) hS (lv_sub hl [2, 3, 4, 5, 6] rfl))

set_option maxHeartbeats 4000000 in
set_option maxRecDepth 100000 in
theorem law_c11 {p : Program} {l : Launch} {e : Env} {s : State} {m : MethodId} {below : List Frame} {meth : Method} {c : Code} {b L : Nat} {xs : Nat → Int32} (hL : L ≤ 3072) (hst : l.stackTraces = false) (C0 : zLA p s m c b L xs) {G : zG} {d : Nat} (hE : zLe G d s) {r q : Nat → Nat} {o K : Nat} {N : Nat → Nat} {T : Nat → Nat → Int32} {wz : va_W} {H : Heap} {locs : List Loc} (hw : zLw G d r q o K N T wz) (hi : 6 * K + 6 ≤ L) (hP : va_P G.1 vwCl wz H) (hD : va_D (fun a => s.heap.size ≤ a) wz) (hS : va_S (fun a => s.heap.size ≤ a) s.heap H locs) {ls : Array Slot} (hl : lv_has ls 7 [(4, .int (nI (6 * K))), (0, .ref b), (1, .ref (r 0)), (2, .ref (q 0)), (3, .ref o)]) (kk : zKK p l e s m below meth c b G d r q o K) : W p l e room_1 s m #[Value.ref b] below meth c H locs (zLc K N) (zLs K N) (lw_Z below #[Value.ref b] s) (F0 m 881 ls []) := by
  obtain ⟨hx, hb, hml, hown, hts, hXs, hbl⟩ := C0
  obtain ⟨hK, hZ, hLx⟩ := hE
  have hA : ∀ a : Nat, s.heap.size ≤ a → (fun a : Nat => s.heap.size ≤ a) a := fun _ h => h
  have hbA : ¬ (fun a : Nat => s.heap.size ≤ a) b := Nat.not_le.mpr hbl
  obtain ⟨A, mc, g, w, wm, th, f, rfl, hC, hMO, hGo⟩ := hw
  obtain ⟨E, hg, ag, mn, sd, tk, sg, sn, rfl, hM⟩ := hMO
  have hK5 : K ≤ 511 := by omega
  obtain ⟨a1, hz1⟩ : ∃ y, y = xs (6 * K + 1) := ⟨_, rfl⟩
  have hrm := zRk8 hGo hK5
  refine lv_aload_n hx hb dL_law_881 rfl (lv_at hl 2 rfl) ?_
  refine z_arg hx hb hXs hbl hbA hS (k := 1) (lv_at hl 1 rfl) (lv_at hl 0 rfl) (by decide) (by omega) hL hz1 dL_law_882 dL_law_883 dL_law_885 dL_law_886 dL_law_887 ?_
  refine lv_aload_n hx hb dL_law_888 rfl (lv_at hl 4 rfl) ?_
  refine z_xi (G := G) (w := (w ++ ([(o, zOut G f)] : va_W))) (vx_runSX (hh := [(0, 9, 12, 13)]) (As := [.ref (r 0), .int a1, .ref o]) (rest := []) ⟨hx, hb, hml, hown, hts⟩ (h_tagsByLog l hst G d r A mc g N T w K a1 o f H.size hC hGo.1 hK5 hGo.2) (vx_cwSW 3 hts gL_law_L_tagsByLog rfl rfl rfl (by decide +kernel) ⟨Nat.le_of_ble_eq_true rfl, Nat.le_of_ble_eq_true rfl⟩) (z_hs hK (z_apL hP) (z_dL hD) hZ hLx hS hA) rfl rfl hl.1 rfl (lv_room (Nat.le_of_ble_eq_true rfl)) dL_law_889 hrm) hP hD hS hA (fun i E ce q9 Hz Lz hk hE hP hS hce hcv hcl => absurd hE (by simp)) (fun k5 w1 Hz Lz hq hP hD hS => ?_)
  obtain ⟨hk5, w2, f2, rfl, h0, h1⟩ := hq
  subst hk5
  refine lv_istore (lv' := [(5, .int (sK1 (sIx a1 8))), (4, .int (nI (6 * K))), (0, .ref b), (1, .ref (r 0)), (2, .ref (q 0)), (3, .ref o)]) hx hb dL_law_892 hl (by decide) rfl (fun ls hl => ?_)
  refine lv_aload_n hx hb dL_law_894 rfl (lv_at hl 4 rfl) ?_
  refine z_arg hx hb hXs hbl hbA hS (k := 1) (lv_at hl 2 rfl) (lv_at hl 1 rfl) (by decide) (by omega) hL hz1 dL_law_895 dL_law_896 dL_law_898 dL_law_899 dL_law_900 ?_
  refine z_li (G := G) (w := mW G q th N T E hg ag mn sd tk sg sn) (wr := w2 ++ ([(o, zOut G f2)] : va_W)) (va_runV (As := [.int a1]) (rest := []) ⟨hx, hb, hml, hown, hts⟩ (c_X7_tagsByLog l G q th N T E hg ag mn sd tk sg sn a1 K Hz.size hGo.1 (by omega) hM ) (cwV 1 hts gL_law_X7_tagsByLog rfl rfl rfl (by decide +kernel) ⟨Nat.le_of_ble_eq_true rfl, Nat.le_of_ble_eq_true rfl⟩) (z_uv hK (z_apL (z_psw hP)) (ci := 8) (q0 := 0) rfl rfl (z_apL (z_psw hP)) (z_dL (z_dsw hD))) rfl rfl hl.1 rfl (lv_room (Nat.le_of_ble_eq_true rfl)) dL_law_901 hrm) (z_psw hP) (z_dsw hD) hS hA (fun rb wm1 Hz Lz hm hP hD hS => ?_)
  by_cases hk : sK1 (sIx a1 8) = 0
  · skip
    obtain ⟨hrb, E1, hg1, ag1, mn1, sd1, tk1, sg1, sn1, rfl, hM1⟩ := hm.1 hk
    obtain ⟨hf2, A2, mc2, g2, hC2⟩ := h0 hk
    subst hrb
    refine lv_istore (lv' := [(6, .int (nI (sOn N T a1))), (5, .int (sK1 (sIx a1 8))), (4, .int (nI (6 * K))), (0, .ref b), (1, .ref (r 0)), (2, .ref (q 0)), (3, .ref o)]) hx hb dL_law_904 hl (by decide) rfl (fun ls hl => ?_)
    refine lv_aload_n hx hb dL_law_906 rfl (lv_at hl 5 rfl) ?_
    refine z_csi (va_Run.run (va_runV (As := []) (rest := []) ⟨hx, hb, hml, hown, hts⟩ (c_X7_thrown l G q (sK1 (sIx a1 8)) N T E1 hg1 ag1 mn1 sd1 tk1 sg1 sn1) (cwV 0 hts gL_law_X7_thrown rfl rfl rfl (by decide +kernel) ⟨Nat.le_of_ble_eq_true rfl, Nat.le_of_ble_eq_true rfl⟩) (z_pv hK (z_apL hP) (ci := 8) (q0 := 0) rfl rfl (z_apL hP)) rfl rfl hl.1 rfl (lv_room (Nat.le_of_ble_eq_true rfl)) dL_law_907 hrm)) (fun zt hzt => ?_)
    subst hzt
    refine lv_iload hx hb dL_law_910 (lv_at hl 1 rfl) ?_
    refine lv_icmp_eq (tgt := 917) hx hb dL_law_912 (by decide) (fun _ => ?_) (fun h => absurd rfl h)
    refine lv_iload hx hb dL_law_917 (lv_at hl 1 rfl) ?_
    refine lv_if_ne (tgt := 934) hx hb dL_law_919 (by decide) (fun h => absurd hk h) (fun _ => ?_)
    refine lv_aload_n hx hb dL_law_922 rfl (lv_at hl 6 rfl) ?_
    refine lv_iconst (v := 0) hx hb dL_law_923 (by decide) ?_
    refine va_lald hx hb hK (z_apR hP) w2.length 1 z_atx rfl (vp_in_nI (n := 0) (by decide) (by decide)) dL_law_924 ?_
    rw [show f2 (0 : Int32).toNatClampNeg = (nI (sOn N T a1) : Int32).toInt64 from hf2]
    refine lv_iload hx hb dL_law_925 (lv_at hl 0 rfl) ?_
    refine lv_i2l (v := (nI (sOn N T a1) : Int32).toInt64) hx hb dL_law_927 rfl ?_
    refine W.lcmp hx hb dL_law_928 ?_
    rw [zcmp rfl]
    refine lv_if_eq (tgt := 934) hx hb dL_law_929 (by decide) (fun _ => ?_) (fun h => absurd rfl h)
    refine lv_goto (tgt := 1915) hx hb dL_law_934 (by decide) ?_
    exact z_widen (zUp8 (K := K) (N := N) (N2 := N) rfl).1 (zUp8 (K := K) (N := N) (N2 := N) rfl).2 (kk N T _ _ _ _ ⟨_, _, _, _, _, _, _, rfl, hC2, ⟨E1, hg1, ag1, mn1, sd1, tk1, sg1, sn1, rfl, hM1⟩, hGo.up⟩ (z_psw hP) (z_dsw hD) hS (lv_sub hl [2, 3, 4, 5, 6] rfl))
  · skip
    obtain ⟨E1, hg1, ag1, mn1, sd1, tk1, sg1, sn1, rfl, hM1⟩ := hm.2 hk
    obtain ⟨A2, mc2, g2, hC2⟩ := h1 hk
    refine lv_istore (lv' := [(6, .int rb), (5, .int (sK1 (sIx a1 8))), (4, .int (nI (6 * K))), (0, .ref b), (1, .ref (r 0)), (2, .ref (q 0)), (3, .ref o)]) hx hb dL_law_904 hl (by decide) rfl (fun ls hl => ?_)
    refine lv_aload_n hx hb dL_law_906 rfl (lv_at hl 5 rfl) ?_
    refine z_csi (va_Run.run (va_runV (As := []) (rest := []) ⟨hx, hb, hml, hown, hts⟩ (c_X7_thrown l G q (sK1 (sIx a1 8)) N T E1 hg1 ag1 mn1 sd1 tk1 sg1 sn1) (cwV 0 hts gL_law_X7_thrown rfl rfl rfl (by decide +kernel) ⟨Nat.le_of_ble_eq_true rfl, Nat.le_of_ble_eq_true rfl⟩) (z_pv hK (z_apL hP) (ci := 8) (q0 := 0) rfl rfl (z_apL hP)) rfl rfl hl.1 rfl (lv_room (Nat.le_of_ble_eq_true rfl)) dL_law_907 hrm)) (fun zt hzt => ?_)
    subst hzt
    refine lv_iload hx hb dL_law_910 (lv_at hl 1 rfl) ?_
    refine lv_icmp_eq (tgt := 917) hx hb dL_law_912 (by decide) (fun _ => ?_) (fun h => absurd rfl h)
    refine lv_iload hx hb dL_law_917 (lv_at hl 1 rfl) ?_
    refine lv_if_ne (tgt := 934) hx hb dL_law_919 (by decide) (fun _ => ?_) (fun h => absurd h hk)
    refine lv_goto (tgt := 1915) hx hb dL_law_934 (by decide) ?_
    exact z_widen (zUp8 (K := K) (N := N) (N2 := N) rfl).1 (zUp8 (K := K) (N := N) (N2 := N) rfl).2 (kk N T _ _ _ _ ⟨_, _, _, _, _, _, _, rfl, hC2, ⟨E1, hg1, ag1, mn1, sd1, tk1, sg1, sn1, rfl, hM1⟩, hGo.up⟩ (z_psw hP) (z_dsw hD) hS (lv_sub hl [2, 3, 4, 5, 6] rfl))

set_option maxHeartbeats 4000000 in
set_option maxRecDepth 100000 in
theorem law_c12 {p : Program} {l : Launch} {e : Env} {s : State} {m : MethodId} {below : List Frame} {meth : Method} {c : Code} {b L : Nat} {xs : Nat → Int32} (hL : L ≤ 3072) (hst : l.stackTraces = false) (C0 : zLA p s m c b L xs) {G : zG} {d : Nat} (hE : zLe G d s) {r q : Nat → Nat} {o K : Nat} {N : Nat → Nat} {T : Nat → Nat → Int32} {wz : va_W} {H : Heap} {locs : List Loc} (hw : zLw G d r q o K N T wz) (hi : 6 * K + 6 ≤ L) (hP : va_P G.1 vwCl wz H) (hD : va_D (fun a => s.heap.size ≤ a) wz) (hS : va_S (fun a => s.heap.size ≤ a) s.heap H locs) {ls : Array Slot} (hl : lv_has ls 7 [(4, .int (nI (6 * K))), (0, .ref b), (1, .ref (r 0)), (2, .ref (q 0)), (3, .ref o)]) (kk : zKK p l e s m below meth c b G d r q o K) : W p l e room_1 s m #[Value.ref b] below meth c H locs (zLc K N) (zLs K N) (lw_Z below #[Value.ref b] s) (F0 m 937 ls []) := by
  obtain ⟨hx, hb, hml, hown, hts, hXs, hbl⟩ := C0
  obtain ⟨hK, hZ, hLx⟩ := hE
  have hA : ∀ a : Nat, s.heap.size ≤ a → (fun a : Nat => s.heap.size ≤ a) a := fun _ h => h
  have hbA : ¬ (fun a : Nat => s.heap.size ≤ a) b := Nat.not_le.mpr hbl
  obtain ⟨A, mc, g, w, wm, th, f, rfl, hC, hMO, hGo⟩ := hw
  obtain ⟨E, hg, ag, mn, sd, tk, sg, sn, rfl, hM⟩ := hMO
  have hK5 : K ≤ 511 := by omega
  obtain ⟨a1, hz1⟩ : ∃ y, y = xs (6 * K + 1) := ⟨_, rfl⟩
  have hrm := zRk8 hGo hK5
  refine lv_aload_n hx hb dL_law_937 rfl (lv_at hl 2 rfl) ?_
  refine z_arg hx hb hXs hbl hbA hS (k := 1) (lv_at hl 1 rfl) (lv_at hl 0 rfl) (by decide) (by omega) hL hz1 dL_law_938 dL_law_939 dL_law_941 dL_law_942 dL_law_943 ?_
  refine lv_aload_n hx hb dL_law_944 rfl (lv_at hl 4 rfl) ?_
  refine z_xi (G := G) (w := (w ++ ([(o, zOut G f)] : va_W))) (vx_runSX (hh := [(0, 9, 12, 13), (0, 9, 15, 17)]) (As := [.ref (r 0), .int a1, .ref o]) (rest := []) ⟨hx, hb, hml, hown, hts⟩ (h_read l hst G d r A mc g N T w K a1 o f H.size hC hGo.1 hK5 ) (vx_cwSW 3 hts gL_law_L_read rfl rfl rfl (by decide +kernel) ⟨Nat.le_of_ble_eq_true rfl, Nat.le_of_ble_eq_true rfl⟩) (z_hs hK (z_apL hP) (z_dL hD) hZ hLx hS hA) rfl rfl hl.1 rfl (lv_room (Nat.le_of_ble_eq_true rfl)) dL_law_945 hrm) hP hD hS hA (fun i E ce q9 Hz Lz hk hE hP hS hce hcv hcl => absurd hE (by simp)) (fun k5 w1 Hz Lz hq hP hD hS => ?_)
  obtain ⟨hk5, w2, f2, rfl, h0, h1⟩ := hq
  subst hk5
  refine lv_istore (lv' := [(5, .int (sK2 (sIx a1 9) (decide (T 2 a1.toNatClampNeg = 0)))), (4, .int (nI (6 * K))), (0, .ref b), (1, .ref (r 0)), (2, .ref (q 0)), (3, .ref o)]) hx hb dL_law_948 hl (by decide) rfl (fun ls hl => ?_)
  refine lv_aload_n hx hb dL_law_950 rfl (lv_at hl 4 rfl) ?_
  refine z_arg hx hb hXs hbl hbA hS (k := 1) (lv_at hl 2 rfl) (lv_at hl 1 rfl) (by decide) (by omega) hL hz1 dL_law_951 dL_law_952 dL_law_954 dL_law_955 dL_law_956 ?_
  refine z_li (G := G) (w := mW G q th N T E hg ag mn sd tk sg sn) (wr := w2 ++ ([(o, zOut G f2)] : va_W)) (va_runV (As := [.int a1]) (rest := []) ⟨hx, hb, hml, hown, hts⟩ (c_X7_read l G q th N T E hg ag mn sd tk sg sn a1 K Hz.size hGo.1 (by omega) hM ) (cwV 1 hts gL_law_X7_read rfl rfl rfl (by decide +kernel) ⟨Nat.le_of_ble_eq_true rfl, Nat.le_of_ble_eq_true rfl⟩) (z_uv hK (z_apL (z_psw hP)) (ci := 8) (q0 := 0) rfl rfl (z_apL (z_psw hP)) (z_dL (z_dsw hD))) rfl rfl hl.1 rfl (lv_room (Nat.le_of_ble_eq_true rfl)) dL_law_957 hrm) (z_psw hP) (z_dsw hD) hS hA (fun rb wm1 Hz Lz hm hP hD hS => ?_)
  by_cases hk : sK2 (sIx a1 9) (decide (T 2 a1.toNatClampNeg = 0)) = 0
  · skip
    obtain ⟨hrb, E1, hg1, ag1, mn1, sd1, tk1, sg1, sn1, rfl, hM1⟩ := hm.1 hk
    obtain ⟨hf2, A2, mc2, g2, hC2⟩ := h0 hk
    subst hrb
    refine lv_istore (lv' := [(6, .int (nI (N 1) - T 1 a1.toNatClampNeg)), (5, .int (sK2 (sIx a1 9) (decide (T 2 a1.toNatClampNeg = 0)))), (4, .int (nI (6 * K))), (0, .ref b), (1, .ref (r 0)), (2, .ref (q 0)), (3, .ref o)]) hx hb dL_law_960 hl (by decide) rfl (fun ls hl => ?_)
    refine lv_aload_n hx hb dL_law_962 rfl (lv_at hl 5 rfl) ?_
    refine z_csi (va_Run.run (va_runV (As := []) (rest := []) ⟨hx, hb, hml, hown, hts⟩ (c_X7_thrown l G q (sK2 (sIx a1 9) (decide (T 2 a1.toNatClampNeg = 0))) N ((nRead N T a1).2) E1 hg1 ag1 mn1 sd1 tk1 sg1 sn1) (cwV 0 hts gL_law_X7_thrown rfl rfl rfl (by decide +kernel) ⟨Nat.le_of_ble_eq_true rfl, Nat.le_of_ble_eq_true rfl⟩) (z_pv hK (z_apL hP) (ci := 8) (q0 := 0) rfl rfl (z_apL hP)) rfl rfl hl.1 rfl (lv_room (Nat.le_of_ble_eq_true rfl)) dL_law_963 hrm)) (fun zt hzt => ?_)
    subst hzt
    refine lv_iload hx hb dL_law_966 (lv_at hl 1 rfl) ?_
    refine lv_icmp_eq (tgt := 973) hx hb dL_law_968 (by decide) (fun _ => ?_) (fun h => absurd rfl h)
    refine lv_iload hx hb dL_law_973 (lv_at hl 1 rfl) ?_
    refine lv_if_ne (tgt := 990) hx hb dL_law_975 (by decide) (fun h => absurd hk h) (fun _ => ?_)
    refine lv_aload_n hx hb dL_law_978 rfl (lv_at hl 6 rfl) ?_
    refine lv_iconst (v := 0) hx hb dL_law_979 (by decide) ?_
    refine va_lald hx hb hK (z_apR hP) w2.length 1 z_atx rfl (vp_in_nI (n := 0) (by decide) (by decide)) dL_law_980 ?_
    rw [show f2 (0 : Int32).toNatClampNeg = (nI (N 1) - T 1 a1.toNatClampNeg : Int32).toInt64 from hf2]
    refine lv_iload hx hb dL_law_981 (lv_at hl 0 rfl) ?_
    refine lv_i2l (v := (nI (N 1) - T 1 a1.toNatClampNeg : Int32).toInt64) hx hb dL_law_983 rfl ?_
    refine W.lcmp hx hb dL_law_984 ?_
    rw [zcmp rfl]
    refine lv_if_eq (tgt := 990) hx hb dL_law_985 (by decide) (fun _ => ?_) (fun h => absurd rfl h)
    refine lv_goto (tgt := 1915) hx hb dL_law_990 (by decide) ?_
    exact z_widen (zUp8 (K := K) (N := N) (N2 := N) rfl).1 (zUp8 (K := K) (N := N) (N2 := N) rfl).2 (kk N ((nRead N T a1).2) _ _ _ _ ⟨_, _, _, _, _, _, _, rfl, hC2, ⟨E1, hg1, ag1, mn1, sd1, tk1, sg1, sn1, rfl, hM1⟩, (g_read hGo)⟩ (z_psw hP) (z_dsw hD) hS (lv_sub hl [2, 3, 4, 5, 6] rfl))
  · skip
    obtain ⟨E1, hg1, ag1, mn1, sd1, tk1, sg1, sn1, rfl, hM1⟩ := hm.2 hk
    obtain ⟨A2, mc2, g2, hC2⟩ := h1 hk
    refine lv_istore (lv' := [(6, .int rb), (5, .int (sK2 (sIx a1 9) (decide (T 2 a1.toNatClampNeg = 0)))), (4, .int (nI (6 * K))), (0, .ref b), (1, .ref (r 0)), (2, .ref (q 0)), (3, .ref o)]) hx hb dL_law_960 hl (by decide) rfl (fun ls hl => ?_)
    refine lv_aload_n hx hb dL_law_962 rfl (lv_at hl 5 rfl) ?_
    refine z_csi (va_Run.run (va_runV (As := []) (rest := []) ⟨hx, hb, hml, hown, hts⟩ (c_X7_thrown l G q (sK2 (sIx a1 9) (decide (T 2 a1.toNatClampNeg = 0))) N T E1 hg1 ag1 mn1 sd1 tk1 sg1 sn1) (cwV 0 hts gL_law_X7_thrown rfl rfl rfl (by decide +kernel) ⟨Nat.le_of_ble_eq_true rfl, Nat.le_of_ble_eq_true rfl⟩) (z_pv hK (z_apL hP) (ci := 8) (q0 := 0) rfl rfl (z_apL hP)) rfl rfl hl.1 rfl (lv_room (Nat.le_of_ble_eq_true rfl)) dL_law_963 hrm)) (fun zt hzt => ?_)
    subst hzt
    refine lv_iload hx hb dL_law_966 (lv_at hl 1 rfl) ?_
    refine lv_icmp_eq (tgt := 973) hx hb dL_law_968 (by decide) (fun _ => ?_) (fun h => absurd rfl h)
    refine lv_iload hx hb dL_law_973 (lv_at hl 1 rfl) ?_
    refine lv_if_ne (tgt := 990) hx hb dL_law_975 (by decide) (fun _ => ?_) (fun h => absurd h hk)
    refine lv_goto (tgt := 1915) hx hb dL_law_990 (by decide) ?_
    exact z_widen (zUp8 (K := K) (N := N) (N2 := N) rfl).1 (zUp8 (K := K) (N := N) (N2 := N) rfl).2 (kk N T _ _ _ _ ⟨_, _, _, _, _, _, _, rfl, hC2, ⟨E1, hg1, ag1, mn1, sd1, tk1, sg1, sn1, rfl, hM1⟩, hGo.up⟩ (z_psw hP) (z_dsw hD) hS (lv_sub hl [2, 3, 4, 5, 6] rfl))

set_option maxHeartbeats 4000000 in
set_option maxRecDepth 100000 in
theorem law_c13 {p : Program} {l : Launch} {e : Env} {s : State} {m : MethodId} {below : List Frame} {meth : Method} {c : Code} {b L : Nat} {xs : Nat → Int32} (hL : L ≤ 3072) (hst : l.stackTraces = false) (C0 : zLA p s m c b L xs) {G : zG} {d : Nat} (hE : zLe G d s) {r q : Nat → Nat} {o K : Nat} {N : Nat → Nat} {T : Nat → Nat → Int32} {wz : va_W} {H : Heap} {locs : List Loc} (hw : zLw G d r q o K N T wz) (hi : 6 * K + 6 ≤ L) (hP : va_P G.1 vwCl wz H) (hD : va_D (fun a => s.heap.size ≤ a) wz) (hS : va_S (fun a => s.heap.size ≤ a) s.heap H locs) {ls : Array Slot} (hl : lv_has ls 7 [(4, .int (nI (6 * K))), (0, .ref b), (1, .ref (r 0)), (2, .ref (q 0)), (3, .ref o)]) (kk : zKK p l e s m below meth c b G d r q o K) : W p l e room_1 s m #[Value.ref b] below meth c H locs (zLc K N) (zLs K N) (lw_Z below #[Value.ref b] s) (F0 m 993 ls []) := by
  obtain ⟨hx, hb, hml, hown, hts, hXs, hbl⟩ := C0
  obtain ⟨hK, hZ, hLx⟩ := hE
  have hA : ∀ a : Nat, s.heap.size ≤ a → (fun a : Nat => s.heap.size ≤ a) a := fun _ h => h
  have hbA : ¬ (fun a : Nat => s.heap.size ≤ a) b := Nat.not_le.mpr hbl
  obtain ⟨A, mc, g, w, wm, th, f, rfl, hC, hMO, hGo⟩ := hw
  obtain ⟨E, hg, ag, mn, sd, tk, sg, sn, rfl, hM⟩ := hMO
  have hK5 : K ≤ 511 := by omega
  obtain ⟨a1, hz1⟩ : ∃ y, y = xs (6 * K + 1) := ⟨_, rfl⟩
  have hrm := zRk hGo hK5 (N2 := ((nLeave N T a1).1)) (T2 := ((nLeave N T a1).2)) (k := sK2 (sIx a1 9) (decide (T 2 a1.toNatClampNeg = 0))) (fun hk => (g_leave hGo hk))
  refine lv_aload_n hx hb dL_law_993 rfl (lv_at hl 2 rfl) ?_
  refine z_arg hx hb hXs hbl hbA hS (k := 1) (lv_at hl 1 rfl) (lv_at hl 0 rfl) (by decide) (by omega) hL hz1 dL_law_994 dL_law_995 dL_law_997 dL_law_998 dL_law_999 ?_
  refine lv_aload_n hx hb dL_law_1000 rfl (lv_at hl 4 rfl) ?_
  refine z_xi (G := G) (w := (w ++ ([(o, zOut G f)] : va_W))) (vx_runSX (hh := [(0, 9, 12, 13), (0, 9, 15, 17)]) (As := [.ref (r 0), .int a1, .ref o]) (rest := []) ⟨hx, hb, hml, hown, hts⟩ (h_leave l hst G d r A mc g N T w K a1 o f H.size hC hGo.1 hK5 ) (vx_cwSW 3 hts gL_law_L_leave rfl rfl rfl (by decide +kernel) ⟨Nat.le_of_ble_eq_true rfl, Nat.le_of_ble_eq_true rfl⟩) (z_hs hK (z_apL hP) (z_dL hD) hZ hLx hS hA) rfl rfl hl.1 rfl (lv_room (Nat.le_of_ble_eq_true rfl)) dL_law_1001 hrm) hP hD hS hA (fun i E ce q9 Hz Lz hk hE hP hS hce hcv hcl => absurd hE (by simp)) (fun k5 w1 Hz Lz hq hP hD hS => ?_)
  obtain ⟨hk5, w2, f2, rfl, h0, h1⟩ := hq
  subst hk5
  refine lv_istore (lv' := [(5, .int (sK2 (sIx a1 9) (decide (T 2 a1.toNatClampNeg = 0)))), (4, .int (nI (6 * K))), (0, .ref b), (1, .ref (r 0)), (2, .ref (q 0)), (3, .ref o)]) hx hb dL_law_1004 hl (by decide) rfl (fun ls hl => ?_)
  refine lv_aload_n hx hb dL_law_1006 rfl (lv_at hl 4 rfl) ?_
  refine z_arg hx hb hXs hbl hbA hS (k := 1) (lv_at hl 2 rfl) (lv_at hl 1 rfl) (by decide) (by omega) hL hz1 dL_law_1007 dL_law_1008 dL_law_1010 dL_law_1011 dL_law_1012 ?_
  refine z_li (G := G) (w := mW G q th N T E hg ag mn sd tk sg sn) (wr := w2 ++ ([(o, zOut G f2)] : va_W)) (va_runV (As := [.int a1]) (rest := []) ⟨hx, hb, hml, hown, hts⟩ (c_X7_leave l G q th N T E hg ag mn sd tk sg sn a1 K Hz.size hGo.1 (by omega) hM ) (cwV 1 hts gL_law_X7_leave rfl rfl rfl (by decide +kernel) ⟨Nat.le_of_ble_eq_true rfl, Nat.le_of_ble_eq_true rfl⟩) (z_uv hK (z_apL (z_psw hP)) (ci := 8) (q0 := 0) rfl rfl (z_apL (z_psw hP)) (z_dL (z_dsw hD))) rfl rfl hl.1 rfl (lv_room (Nat.le_of_ble_eq_true rfl)) dL_law_1013 hrm) (z_psw hP) (z_dsw hD) hS hA (fun rb wm1 Hz Lz hm hP hD hS => ?_)
  by_cases hk : sK2 (sIx a1 9) (decide (T 2 a1.toNatClampNeg = 0)) = 0
  · skip
    obtain ⟨hrb, E1, hg1, ag1, mn1, sd1, tk1, sg1, sn1, rfl, hM1⟩ := hm.1 hk
    obtain ⟨hf2, A2, mc2, g2, hC2⟩ := h0 hk
    subst hrb
    refine lv_istore (lv' := [(6, .int (rLeave N T a1)), (5, .int (sK2 (sIx a1 9) (decide (T 2 a1.toNatClampNeg = 0)))), (4, .int (nI (6 * K))), (0, .ref b), (1, .ref (r 0)), (2, .ref (q 0)), (3, .ref o)]) hx hb dL_law_1016 hl (by decide) rfl (fun ls hl => ?_)
    refine lv_aload_n hx hb dL_law_1018 rfl (lv_at hl 5 rfl) ?_
    refine z_csi (va_Run.run (va_runV (As := []) (rest := []) ⟨hx, hb, hml, hown, hts⟩ (c_X7_thrown l G q (sK2 (sIx a1 9) (decide (T 2 a1.toNatClampNeg = 0))) ((nLeave N T a1).1) ((nLeave N T a1).2) E1 hg1 ag1 mn1 sd1 tk1 sg1 sn1) (cwV 0 hts gL_law_X7_thrown rfl rfl rfl (by decide +kernel) ⟨Nat.le_of_ble_eq_true rfl, Nat.le_of_ble_eq_true rfl⟩) (z_pv hK (z_apL hP) (ci := 8) (q0 := 0) rfl rfl (z_apL hP)) rfl rfl hl.1 rfl (lv_room (Nat.le_of_ble_eq_true rfl)) dL_law_1019 hrm)) (fun zt hzt => ?_)
    subst hzt
    refine lv_iload hx hb dL_law_1022 (lv_at hl 1 rfl) ?_
    refine lv_icmp_eq (tgt := 1029) hx hb dL_law_1024 (by decide) (fun _ => ?_) (fun h => absurd rfl h)
    refine lv_iload hx hb dL_law_1029 (lv_at hl 1 rfl) ?_
    refine lv_if_ne (tgt := 1046) hx hb dL_law_1031 (by decide) (fun h => absurd hk h) (fun _ => ?_)
    refine lv_aload_n hx hb dL_law_1034 rfl (lv_at hl 6 rfl) ?_
    refine lv_iconst (v := 0) hx hb dL_law_1035 (by decide) ?_
    refine va_lald hx hb hK (z_apR hP) w2.length 1 z_atx rfl (vp_in_nI (n := 0) (by decide) (by decide)) dL_law_1036 ?_
    rw [show f2 (0 : Int32).toNatClampNeg = (rLeave N T a1 : Int32).toInt64 from hf2]
    refine lv_iload hx hb dL_law_1037 (lv_at hl 0 rfl) ?_
    refine lv_i2l (v := (rLeave N T a1 : Int32).toInt64) hx hb dL_law_1039 rfl ?_
    refine W.lcmp hx hb dL_law_1040 ?_
    rw [zcmp rfl]
    refine lv_if_eq (tgt := 1046) hx hb dL_law_1041 (by decide) (fun _ => ?_) (fun h => absurd rfl h)
    refine lv_goto (tgt := 1915) hx hb dL_law_1046 (by decide) ?_
    exact z_widen (zUp0 (K := K) (N := N) (N2 := ((nLeave N T a1).1)) (k := sK2 (sIx a1 9) (decide (T 2 a1.toNatClampNeg = 0))) hk (Nat.le_succ _)).1 (zUp0 (K := K) (N := N) (N2 := ((nLeave N T a1).1)) (k := sK2 (sIx a1 9) (decide (T 2 a1.toNatClampNeg = 0))) hk (Nat.le_succ _)).2 (kk ((nLeave N T a1).1) ((nLeave N T a1).2) _ _ _ _ ⟨_, _, _, _, _, _, _, rfl, hC2, ⟨E1, hg1, ag1, mn1, sd1, tk1, sg1, sn1, rfl, hM1⟩, (g_leave hGo hk)⟩ (z_psw hP) (z_dsw hD) hS (lv_sub hl [2, 3, 4, 5, 6] rfl))
  · skip
    obtain ⟨E1, hg1, ag1, mn1, sd1, tk1, sg1, sn1, rfl, hM1⟩ := hm.2 hk
    obtain ⟨A2, mc2, g2, hC2⟩ := h1 hk
    refine lv_istore (lv' := [(6, .int rb), (5, .int (sK2 (sIx a1 9) (decide (T 2 a1.toNatClampNeg = 0)))), (4, .int (nI (6 * K))), (0, .ref b), (1, .ref (r 0)), (2, .ref (q 0)), (3, .ref o)]) hx hb dL_law_1016 hl (by decide) rfl (fun ls hl => ?_)
    refine lv_aload_n hx hb dL_law_1018 rfl (lv_at hl 5 rfl) ?_
    refine z_csi (va_Run.run (va_runV (As := []) (rest := []) ⟨hx, hb, hml, hown, hts⟩ (c_X7_thrown l G q (sK2 (sIx a1 9) (decide (T 2 a1.toNatClampNeg = 0))) N T E1 hg1 ag1 mn1 sd1 tk1 sg1 sn1) (cwV 0 hts gL_law_X7_thrown rfl rfl rfl (by decide +kernel) ⟨Nat.le_of_ble_eq_true rfl, Nat.le_of_ble_eq_true rfl⟩) (z_pv hK (z_apL hP) (ci := 8) (q0 := 0) rfl rfl (z_apL hP)) rfl rfl hl.1 rfl (lv_room (Nat.le_of_ble_eq_true rfl)) dL_law_1019 hrm)) (fun zt hzt => ?_)
    subst hzt
    refine lv_iload hx hb dL_law_1022 (lv_at hl 1 rfl) ?_
    refine lv_icmp_eq (tgt := 1029) hx hb dL_law_1024 (by decide) (fun _ => ?_) (fun h => absurd rfl h)
    refine lv_iload hx hb dL_law_1029 (lv_at hl 1 rfl) ?_
    refine lv_if_ne (tgt := 1046) hx hb dL_law_1031 (by decide) (fun _ => ?_) (fun h => absurd h hk)
    refine lv_goto (tgt := 1915) hx hb dL_law_1046 (by decide) ?_
    exact z_widen (zUpn (K := K) (N := N) (a := N 1) (b := ((nLeave N T a1).1) 1) (k := sK2 (sIx a1 9) (decide (T 2 a1.toNatClampNeg = 0))) hk).1 (zUpn (K := K) (N := N) (a := N 1) (b := ((nLeave N T a1).1) 1) (k := sK2 (sIx a1 9) (decide (T 2 a1.toNatClampNeg = 0))) hk).2 (kk N T _ _ _ _ ⟨_, _, _, _, _, _, _, rfl, hC2, ⟨E1, hg1, ag1, mn1, sd1, tk1, sg1, sn1, rfl, hM1⟩, hGo.up⟩ (z_psw hP) (z_dsw hD) hS (lv_sub hl [2, 3, 4, 5, 6] rfl))

set_option maxHeartbeats 4000000 in
set_option maxRecDepth 100000 in
theorem law_c14 {p : Program} {l : Launch} {e : Env} {s : State} {m : MethodId} {below : List Frame} {meth : Method} {c : Code} {b L : Nat} {xs : Nat → Int32} (hL : L ≤ 3072) (hst : l.stackTraces = false) (C0 : zLA p s m c b L xs) {G : zG} {d : Nat} (hE : zLe G d s) {r q : Nat → Nat} {o K : Nat} {N : Nat → Nat} {T : Nat → Nat → Int32} {wz : va_W} {H : Heap} {locs : List Loc} (hw : zLw G d r q o K N T wz) (hi : 6 * K + 6 ≤ L) (hP : va_P G.1 vwCl wz H) (hD : va_D (fun a => s.heap.size ≤ a) wz) (hS : va_S (fun a => s.heap.size ≤ a) s.heap H locs) {ls : Array Slot} (hl : lv_has ls 7 [(4, .int (nI (6 * K))), (0, .ref b), (1, .ref (r 0)), (2, .ref (q 0)), (3, .ref o)]) (kk : zKK p l e s m below meth c b G d r q o K) : W p l e room_1 s m #[Value.ref b] below meth c H locs (zLc K N) (zLs K N) (lw_Z below #[Value.ref b] s) (F0 m 1049 ls []) := by
  obtain ⟨hx, hb, hml, hown, hts, hXs, hbl⟩ := C0
  obtain ⟨hK, hZ, hLx⟩ := hE
  have hA : ∀ a : Nat, s.heap.size ≤ a → (fun a : Nat => s.heap.size ≤ a) a := fun _ h => h
  have hbA : ¬ (fun a : Nat => s.heap.size ≤ a) b := Nat.not_le.mpr hbl
  obtain ⟨A, mc, g, w, wm, th, f, rfl, hC, hMO, hGo⟩ := hw
  obtain ⟨E, hg, ag, mn, sd, tk, sg, sn, rfl, hM⟩ := hMO
  have hK5 : K ≤ 511 := by omega
  obtain ⟨a1, hz1⟩ : ∃ y, y = xs (6 * K + 1) := ⟨_, rfl⟩
  have hrm := zRk8 hGo hK5
  refine lv_aload_n hx hb dL_law_1049 rfl (lv_at hl 2 rfl) ?_
  refine z_arg hx hb hXs hbl hbA hS (k := 1) (lv_at hl 1 rfl) (lv_at hl 0 rfl) (by decide) (by omega) hL hz1 dL_law_1050 dL_law_1051 dL_law_1053 dL_law_1054 dL_law_1055 ?_
  refine lv_aload_n hx hb dL_law_1056 rfl (lv_at hl 4 rfl) ?_
  refine z_xi (G := G) (w := (w ++ ([(o, zOut G f)] : va_W))) (vx_runSX (hh := [(0, 16, 19, 13)]) (As := [.ref (r 0), .int a1, .ref o]) (rest := []) ⟨hx, hb, hml, hown, hts⟩ (h_canAct l hst G d r A mc g N T w K a1 o f H.size hC hGo.1 hK5 ) (vx_cwSW 3 hts gL_law_L_canAct rfl rfl rfl (by decide +kernel) ⟨Nat.le_of_ble_eq_true rfl, Nat.le_of_ble_eq_true rfl⟩) (z_hs hK (z_apL hP) (z_dL hD) hZ hLx hS hA) rfl rfl hl.1 rfl (lv_room (Nat.le_of_ble_eq_true rfl)) dL_law_1057 hrm) hP hD hS hA (fun i E ce q9 Hz Lz hk hE hP hS hce hcv hcl => absurd hE (by simp)) (fun k5 w1 Hz Lz hq hP hD hS => ?_)
  obtain ⟨hk5, w2, f2, rfl, h0, h1⟩ := hq
  subst hk5
  refine lv_istore (lv' := [(5, .int (sK1 (sIx a1 9))), (4, .int (nI (6 * K))), (0, .ref b), (1, .ref (r 0)), (2, .ref (q 0)), (3, .ref o)]) hx hb dL_law_1060 hl (by decide) rfl (fun ls hl => ?_)
  refine lv_aload_n hx hb dL_law_1062 rfl (lv_at hl 4 rfl) ?_
  refine z_arg hx hb hXs hbl hbA hS (k := 1) (lv_at hl 2 rfl) (lv_at hl 1 rfl) (by decide) (by omega) hL hz1 dL_law_1063 dL_law_1064 dL_law_1066 dL_law_1067 dL_law_1068 ?_
  refine z_li (G := G) (w := mW G q th N T E hg ag mn sd tk sg sn) (wr := w2 ++ ([(o, zOut G f2)] : va_W)) (va_runV (As := [.int a1]) (rest := []) ⟨hx, hb, hml, hown, hts⟩ (c_X7_canAct l G q th N T E hg ag mn sd tk sg sn a1 K Hz.size hGo.1 (by omega) hM ) (cwV 1 hts gL_law_X7_canAct rfl rfl rfl (by decide +kernel) ⟨Nat.le_of_ble_eq_true rfl, Nat.le_of_ble_eq_true rfl⟩) (z_uv hK (z_apL (z_psw hP)) (ci := 8) (q0 := 0) rfl rfl (z_apL (z_psw hP)) (z_dL (z_dsw hD))) rfl rfl hl.1 rfl (lv_room (Nat.le_of_ble_eq_true rfl)) dL_law_1069 hrm) (z_psw hP) (z_dsw hD) hS hA (fun rb wm1 Hz Lz hm hP hD hS => ?_)
  by_cases hk : sK1 (sIx a1 9) = 0
  · skip
    obtain ⟨hrb, E1, hg1, ag1, mn1, sd1, tk1, sg1, sn1, rfl, hM1⟩ := hm.1 hk
    obtain ⟨hf2, A2, mc2, g2, hC2⟩ := h0 hk
    subst hrb
    refine lv_istore (lv' := [(6, .int (zb (sMay N T a1))), (5, .int (sK1 (sIx a1 9))), (4, .int (nI (6 * K))), (0, .ref b), (1, .ref (r 0)), (2, .ref (q 0)), (3, .ref o)]) hx hb dL_law_1072 hl (by decide) rfl (fun ls hl => ?_)
    refine lv_aload_n hx hb dL_law_1074 rfl (lv_at hl 5 rfl) ?_
    refine z_csi (va_Run.run (va_runV (As := []) (rest := []) ⟨hx, hb, hml, hown, hts⟩ (c_X7_thrown l G q (sK1 (sIx a1 9)) N T E1 hg1 ag1 mn1 sd1 tk1 sg1 sn1) (cwV 0 hts gL_law_X7_thrown rfl rfl rfl (by decide +kernel) ⟨Nat.le_of_ble_eq_true rfl, Nat.le_of_ble_eq_true rfl⟩) (z_pv hK (z_apL hP) (ci := 8) (q0 := 0) rfl rfl (z_apL hP)) rfl rfl hl.1 rfl (lv_room (Nat.le_of_ble_eq_true rfl)) dL_law_1075 hrm)) (fun zt hzt => ?_)
    subst hzt
    refine lv_iload hx hb dL_law_1078 (lv_at hl 1 rfl) ?_
    refine lv_icmp_eq (tgt := 1085) hx hb dL_law_1080 (by decide) (fun _ => ?_) (fun h => absurd rfl h)
    refine lv_iload hx hb dL_law_1085 (lv_at hl 1 rfl) ?_
    refine lv_if_ne (tgt := 1109) hx hb dL_law_1087 (by decide) (fun h => absurd hk h) (fun _ => ?_)
    refine lv_aload_n hx hb dL_law_1090 rfl (lv_at hl 6 rfl) ?_
    refine lv_iconst (v := 0) hx hb dL_law_1091 (by decide) ?_
    refine va_lald hx hb hK (z_apR hP) w2.length 1 z_atx rfl (vp_in_nI (n := 0) (by decide) (by decide)) dL_law_1092 ?_
    rw [show f2 (0 : Int32).toNatClampNeg = (zL1 (zb (sMay N T a1))) from hf2]
    refine lv_iload hx hb dL_law_1093 (lv_at hl 0 rfl) ?_
    refine z_bl hx hb dL_law_1095 dL_law_1098 dL_law_1099 dL_law_1102 ?_
    refine W.lcmp hx hb dL_law_1103 ?_
    rw [zcmp rfl]
    refine lv_if_eq (tgt := 1109) hx hb dL_law_1104 (by decide) (fun _ => ?_) (fun h => absurd rfl h)
    refine lv_goto (tgt := 1915) hx hb dL_law_1109 (by decide) ?_
    exact z_widen (zUp8 (K := K) (N := N) (N2 := N) rfl).1 (zUp8 (K := K) (N := N) (N2 := N) rfl).2 (kk N T _ _ _ _ ⟨_, _, _, _, _, _, _, rfl, hC2, ⟨E1, hg1, ag1, mn1, sd1, tk1, sg1, sn1, rfl, hM1⟩, hGo.up⟩ (z_psw hP) (z_dsw hD) hS (lv_sub hl [2, 3, 4, 5, 6] rfl))
  · skip
    obtain ⟨E1, hg1, ag1, mn1, sd1, tk1, sg1, sn1, rfl, hM1⟩ := hm.2 hk
    obtain ⟨A2, mc2, g2, hC2⟩ := h1 hk
    refine lv_istore (lv' := [(6, .int rb), (5, .int (sK1 (sIx a1 9))), (4, .int (nI (6 * K))), (0, .ref b), (1, .ref (r 0)), (2, .ref (q 0)), (3, .ref o)]) hx hb dL_law_1072 hl (by decide) rfl (fun ls hl => ?_)
    refine lv_aload_n hx hb dL_law_1074 rfl (lv_at hl 5 rfl) ?_
    refine z_csi (va_Run.run (va_runV (As := []) (rest := []) ⟨hx, hb, hml, hown, hts⟩ (c_X7_thrown l G q (sK1 (sIx a1 9)) N T E1 hg1 ag1 mn1 sd1 tk1 sg1 sn1) (cwV 0 hts gL_law_X7_thrown rfl rfl rfl (by decide +kernel) ⟨Nat.le_of_ble_eq_true rfl, Nat.le_of_ble_eq_true rfl⟩) (z_pv hK (z_apL hP) (ci := 8) (q0 := 0) rfl rfl (z_apL hP)) rfl rfl hl.1 rfl (lv_room (Nat.le_of_ble_eq_true rfl)) dL_law_1075 hrm)) (fun zt hzt => ?_)
    subst hzt
    refine lv_iload hx hb dL_law_1078 (lv_at hl 1 rfl) ?_
    refine lv_icmp_eq (tgt := 1085) hx hb dL_law_1080 (by decide) (fun _ => ?_) (fun h => absurd rfl h)
    refine lv_iload hx hb dL_law_1085 (lv_at hl 1 rfl) ?_
    refine lv_if_ne (tgt := 1109) hx hb dL_law_1087 (by decide) (fun _ => ?_) (fun h => absurd h hk)
    refine lv_goto (tgt := 1915) hx hb dL_law_1109 (by decide) ?_
    exact z_widen (zUp8 (K := K) (N := N) (N2 := N) rfl).1 (zUp8 (K := K) (N := N) (N2 := N) rfl).2 (kk N T _ _ _ _ ⟨_, _, _, _, _, _, _, rfl, hC2, ⟨E1, hg1, ag1, mn1, sd1, tk1, sg1, sn1, rfl, hM1⟩, hGo.up⟩ (z_psw hP) (z_dsw hD) hS (lv_sub hl [2, 3, 4, 5, 6] rfl))

set_option maxHeartbeats 4000000 in
set_option maxRecDepth 100000 in
theorem law_c15 {p : Program} {l : Launch} {e : Env} {s : State} {m : MethodId} {below : List Frame} {meth : Method} {c : Code} {b L : Nat} {xs : Nat → Int32} (hL : L ≤ 3072) (hst : l.stackTraces = false) (C0 : zLA p s m c b L xs) {G : zG} {d : Nat} (hE : zLe G d s) {r q : Nat → Nat} {o K : Nat} {N : Nat → Nat} {T : Nat → Nat → Int32} {wz : va_W} {H : Heap} {locs : List Loc} (hw : zLw G d r q o K N T wz) (hi : 6 * K + 6 ≤ L) (hP : va_P G.1 vwCl wz H) (hD : va_D (fun a => s.heap.size ≤ a) wz) (hS : va_S (fun a => s.heap.size ≤ a) s.heap H locs) {ls : Array Slot} (hl : lv_has ls 7 [(4, .int (nI (6 * K))), (0, .ref b), (1, .ref (r 0)), (2, .ref (q 0)), (3, .ref o)]) (kk : zKK p l e s m below meth c b G d r q o K) : W p l e room_1 s m #[Value.ref b] below meth c H locs (zLc K N) (zLs K N) (lw_Z below #[Value.ref b] s) (F0 m 1112 ls []) := by
  obtain ⟨hx, hb, hml, hown, hts, hXs, hbl⟩ := C0
  obtain ⟨hK, hZ, hLx⟩ := hE
  have hA : ∀ a : Nat, s.heap.size ≤ a → (fun a : Nat => s.heap.size ≤ a) a := fun _ h => h
  have hbA : ¬ (fun a : Nat => s.heap.size ≤ a) b := Nat.not_le.mpr hbl
  obtain ⟨A, mc, g, w, wm, th, f, rfl, hC, hMO, hGo⟩ := hw
  obtain ⟨E, hg, ag, mn, sd, tk, sg, sn, rfl, hM⟩ := hMO
  have hK5 : K ≤ 511 := by omega
  obtain ⟨a1, hz1⟩ : ∃ y, y = xs (6 * K + 1) := ⟨_, rfl⟩
  have hrm := zRk hGo hK5 (N2 := ((sHours a1.toNatClampNeg N T).1)) (T2 := ((sHours a1.toNatClampNeg N T).2)) (k := sK2 (sIn a1 1 100) (decide (nI (N 0) + a1 ≤ 2000))) (fun hk => (g_adv hGo hk))
  refine lv_aload_n hx hb dL_law_1112 rfl (lv_at hl 2 rfl) ?_
  refine z_arg hx hb hXs hbl hbA hS (k := 1) (lv_at hl 1 rfl) (lv_at hl 0 rfl) (by decide) (by omega) hL hz1 dL_law_1113 dL_law_1114 dL_law_1116 dL_law_1117 dL_law_1118 ?_
  refine lv_aload_n hx hb dL_law_1119 rfl (lv_at hl 4 rfl) ?_
  refine z_xi (G := G) (w := (w ++ ([(o, zOut G f)] : va_W))) (vx_runSX (hh := [(0, 9, 12, 15), (0, 9, 15, 17)]) (As := [.ref (r 0), .int a1, .ref o]) (rest := []) ⟨hx, hb, hml, hown, hts⟩ (h_advance l hst G d r A mc g N T w K a1 o f H.size hC hGo.1 hK5 ) (vx_cwSW 3 hts gL_law_L_advance rfl rfl rfl (by decide +kernel) ⟨Nat.le_of_ble_eq_true rfl, Nat.le_of_ble_eq_true rfl⟩) (z_hs hK (z_apL hP) (z_dL hD) hZ hLx hS hA) rfl rfl hl.1 rfl (lv_room (Nat.le_of_ble_eq_true rfl)) dL_law_1120 hrm) hP hD hS hA (fun i E ce q9 Hz Lz hk hE hP hS hce hcv hcl => absurd hE (by simp)) (fun k5 w1 Hz Lz hq hP hD hS => ?_)
  obtain ⟨hk5, w2, f2, rfl, h0, h1⟩ := hq
  subst hk5
  refine lv_istore (lv' := [(5, .int (sK2 (sIn a1 1 100) (decide (nI (N 0) + a1 ≤ 2000)))), (4, .int (nI (6 * K))), (0, .ref b), (1, .ref (r 0)), (2, .ref (q 0)), (3, .ref o)]) hx hb dL_law_1123 hl (by decide) rfl (fun ls hl => ?_)
  refine lv_aload_n hx hb dL_law_1125 rfl (lv_at hl 4 rfl) ?_
  refine z_arg hx hb hXs hbl hbA hS (k := 1) (lv_at hl 2 rfl) (lv_at hl 1 rfl) (by decide) (by omega) hL hz1 dL_law_1126 dL_law_1127 dL_law_1129 dL_law_1130 dL_law_1131 ?_
  refine z_li (G := G) (w := mW G q th N T E hg ag mn sd tk sg sn) (wr := w2 ++ ([(o, zOut G f2)] : va_W)) (va_runV (As := [.int a1]) (rest := []) ⟨hx, hb, hml, hown, hts⟩ (c_X7_advance l G q th N T E hg ag mn sd tk sg sn a1 K Hz.size hGo.1 (by omega) hM ) (cwV 1 hts gL_law_X7_advance rfl rfl rfl (by decide +kernel) ⟨Nat.le_of_ble_eq_true rfl, Nat.le_of_ble_eq_true rfl⟩) (z_uv hK (z_apL (z_psw hP)) (ci := 8) (q0 := 0) rfl rfl (z_apL (z_psw hP)) (z_dL (z_dsw hD))) rfl rfl hl.1 rfl (lv_room (Nat.le_of_ble_eq_true rfl)) dL_law_1132 hrm) (z_psw hP) (z_dsw hD) hS hA (fun rb wm1 Hz Lz hm hP hD hS => ?_)
  by_cases hk : sK2 (sIn a1 1 100) (decide (nI (N 0) + a1 ≤ 2000)) = 0
  · skip
    obtain ⟨hrb, E1, hg1, ag1, mn1, sd1, tk1, sg1, sn1, rfl, hM1⟩ := hm.1 hk
    obtain ⟨hf2, A2, mc2, g2, hC2⟩ := h0 hk
    subst hrb
    refine lv_istore (lv' := [(6, .int (nI ((sHours a1.toNatClampNeg N T).1 0))), (5, .int (sK2 (sIn a1 1 100) (decide (nI (N 0) + a1 ≤ 2000)))), (4, .int (nI (6 * K))), (0, .ref b), (1, .ref (r 0)), (2, .ref (q 0)), (3, .ref o)]) hx hb dL_law_1135 hl (by decide) rfl (fun ls hl => ?_)
    refine lv_aload_n hx hb dL_law_1137 rfl (lv_at hl 5 rfl) ?_
    refine z_csi (va_Run.run (va_runV (As := []) (rest := []) ⟨hx, hb, hml, hown, hts⟩ (c_X7_thrown l G q (sK2 (sIn a1 1 100) (decide (nI (N 0) + a1 ≤ 2000))) ((sHours a1.toNatClampNeg N T).1) ((sHours a1.toNatClampNeg N T).2) E1 hg1 ag1 mn1 sd1 tk1 sg1 sn1) (cwV 0 hts gL_law_X7_thrown rfl rfl rfl (by decide +kernel) ⟨Nat.le_of_ble_eq_true rfl, Nat.le_of_ble_eq_true rfl⟩) (z_pv hK (z_apL hP) (ci := 8) (q0 := 0) rfl rfl (z_apL hP)) rfl rfl hl.1 rfl (lv_room (Nat.le_of_ble_eq_true rfl)) dL_law_1138 hrm)) (fun zt hzt => ?_)
    subst hzt
    refine lv_iload hx hb dL_law_1141 (lv_at hl 1 rfl) ?_
    refine lv_icmp_eq (tgt := 1148) hx hb dL_law_1143 (by decide) (fun _ => ?_) (fun h => absurd rfl h)
    refine lv_iload hx hb dL_law_1148 (lv_at hl 1 rfl) ?_
    refine lv_if_ne (tgt := 1165) hx hb dL_law_1150 (by decide) (fun h => absurd hk h) (fun _ => ?_)
    refine lv_aload_n hx hb dL_law_1153 rfl (lv_at hl 6 rfl) ?_
    refine lv_iconst (v := 0) hx hb dL_law_1154 (by decide) ?_
    refine va_lald hx hb hK (z_apR hP) w2.length 1 z_atx rfl (vp_in_nI (n := 0) (by decide) (by decide)) dL_law_1155 ?_
    rw [show f2 (0 : Int32).toNatClampNeg = (nI ((sHours a1.toNatClampNeg N T).1 0) : Int32).toInt64 from hf2]
    refine lv_iload hx hb dL_law_1156 (lv_at hl 0 rfl) ?_
    refine lv_i2l (v := (nI ((sHours a1.toNatClampNeg N T).1 0) : Int32).toInt64) hx hb dL_law_1158 rfl ?_
    refine W.lcmp hx hb dL_law_1159 ?_
    rw [zcmp rfl]
    refine lv_if_eq (tgt := 1165) hx hb dL_law_1160 (by decide) (fun _ => ?_) (fun h => absurd rfl h)
    refine lv_goto (tgt := 1915) hx hb dL_law_1165 (by decide) ?_
    exact z_widen (zUp0 (K := K) (N := N) (N2 := ((sHours a1.toNatClampNeg N T).1)) (k := sK2 (sIn a1 1 100) (decide (nI (N 0) + a1 ≤ 2000))) hk m_hours).1 (zUp0 (K := K) (N := N) (N2 := ((sHours a1.toNatClampNeg N T).1)) (k := sK2 (sIn a1 1 100) (decide (nI (N 0) + a1 ≤ 2000))) hk m_hours).2 (kk ((sHours a1.toNatClampNeg N T).1) ((sHours a1.toNatClampNeg N T).2) _ _ _ _ ⟨_, _, _, _, _, _, _, rfl, hC2, ⟨E1, hg1, ag1, mn1, sd1, tk1, sg1, sn1, rfl, hM1⟩, (g_adv hGo hk)⟩ (z_psw hP) (z_dsw hD) hS (lv_sub hl [2, 3, 4, 5, 6] rfl))
  · skip
    obtain ⟨E1, hg1, ag1, mn1, sd1, tk1, sg1, sn1, rfl, hM1⟩ := hm.2 hk
    obtain ⟨A2, mc2, g2, hC2⟩ := h1 hk
    refine lv_istore (lv' := [(6, .int rb), (5, .int (sK2 (sIn a1 1 100) (decide (nI (N 0) + a1 ≤ 2000)))), (4, .int (nI (6 * K))), (0, .ref b), (1, .ref (r 0)), (2, .ref (q 0)), (3, .ref o)]) hx hb dL_law_1135 hl (by decide) rfl (fun ls hl => ?_)
    refine lv_aload_n hx hb dL_law_1137 rfl (lv_at hl 5 rfl) ?_
    refine z_csi (va_Run.run (va_runV (As := []) (rest := []) ⟨hx, hb, hml, hown, hts⟩ (c_X7_thrown l G q (sK2 (sIn a1 1 100) (decide (nI (N 0) + a1 ≤ 2000))) N T E1 hg1 ag1 mn1 sd1 tk1 sg1 sn1) (cwV 0 hts gL_law_X7_thrown rfl rfl rfl (by decide +kernel) ⟨Nat.le_of_ble_eq_true rfl, Nat.le_of_ble_eq_true rfl⟩) (z_pv hK (z_apL hP) (ci := 8) (q0 := 0) rfl rfl (z_apL hP)) rfl rfl hl.1 rfl (lv_room (Nat.le_of_ble_eq_true rfl)) dL_law_1138 hrm)) (fun zt hzt => ?_)
    subst hzt
    refine lv_iload hx hb dL_law_1141 (lv_at hl 1 rfl) ?_
    refine lv_icmp_eq (tgt := 1148) hx hb dL_law_1143 (by decide) (fun _ => ?_) (fun h => absurd rfl h)
    refine lv_iload hx hb dL_law_1148 (lv_at hl 1 rfl) ?_
    refine lv_if_ne (tgt := 1165) hx hb dL_law_1150 (by decide) (fun _ => ?_) (fun h => absurd h hk)
    refine lv_goto (tgt := 1915) hx hb dL_law_1165 (by decide) ?_
    exact z_widen (zUpn (K := K) (N := N) (a := N 1) (b := ((sHours a1.toNatClampNeg N T).1) 1) (k := sK2 (sIn a1 1 100) (decide (nI (N 0) + a1 ≤ 2000))) hk).1 (zUpn (K := K) (N := N) (a := N 1) (b := ((sHours a1.toNatClampNeg N T).1) 1) (k := sK2 (sIn a1 1 100) (decide (nI (N 0) + a1 ≤ 2000))) hk).2 (kk N T _ _ _ _ ⟨_, _, _, _, _, _, _, rfl, hC2, ⟨E1, hg1, ag1, mn1, sd1, tk1, sg1, sn1, rfl, hM1⟩, hGo.up⟩ (z_psw hP) (z_dsw hD) hS (lv_sub hl [2, 3, 4, 5, 6] rfl))
