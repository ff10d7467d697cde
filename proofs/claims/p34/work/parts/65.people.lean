set_option maxHeartbeats 4000000 in
set_option maxRecDepth 100000 in
theorem vpeople_60 {p : Program} {l : Launch} {e : Env} {s : State} {m : MethodId} {below : List Frame} {meth : Method} {c : Code} {G : zG} {d : Nat} {r u : Nat → Nat} {act x y : Int32} {Aw : Nat → Prop} (hst : l.stackTraces = false) (hx : p.tables.exec = Jvm.exec) (hb : c.code = cL_people) (hr : meth.sig.returnType = some .boolean) (hml : c.maxLocals = 14) (hown : s.vm.findClass RL = some m.cls) (hts : ∀ w ∈ wsL_people, w.before ([.ref (r 0), .int act, .int x, .int y, .ref (u 0), .ref (u 1), .ref (u 2), .ref (u 3), .ref (u 4), .ref (u 6), .ref (u 9)] : List Value).toArray s = true) (hlocks : meth.locks = false) (hK : va_K G.1 vwCl (zT G.2) s) (hZ : zCe Aw d s s.heap) (hLx : zLx s) (hA : ∀ q : Nat, s.heap.size ≤ q → Aw q) {A : Nat → Nat} {mc : Nat → Int32} {g : Nat → Nat → Int32} {N : Nat → Nat} {T : Nat → Nat → Int32} {w : va_W} {E : Nat → Int64} {F : Nat → Nat → Int32} {K : Nat} (hC : sCQ G d r A mc g N T w) (hR : sLR N T E F) (hJ : sLJ N T K) (hK5 : K ≤ 400) (hh9 : N 1 ≤ 90 ∧ N 0 ≤ 1900) {jp : Nat} (hjp : jp < 9) {H : Heap} {locs : List Loc} (hP : va_P G.1 vwCl (([(u 0, .inl (G.2 1, 64, .inr (.inl E))), (u 1, .inl (G.2 0, 8, .inl (F 1))), (u 2, .inl (G.2 0, 3, .inl (F 2))), (u 3, .inl (G.2 0, 3, .inl (F 3))), (u 4, .inl (G.2 0, 40, .inl (F 4))), (u 5, .inl (G.2 0, 40, .inl (F 5))), (u 6, .inl (G.2 0, 9, .inl (F 6))), (u 7, .inl (G.2 0, 12, .inl (F 7))), (u 8, .inl (G.2 0, 12, .inl (F 8))), (u 9, .inl (G.2 0, 10, .inl (F 9)))] : va_W) ++ w) H) (hD : va_D Aw (([(u 0, .inl (G.2 1, 64, .inr (.inl E))), (u 1, .inl (G.2 0, 8, .inl (F 1))), (u 2, .inl (G.2 0, 3, .inl (F 2))), (u 3, .inl (G.2 0, 3, .inl (F 3))), (u 4, .inl (G.2 0, 40, .inl (F 4))), (u 5, .inl (G.2 0, 40, .inl (F 5))), (u 6, .inl (G.2 0, 9, .inl (F 6))), (u 7, .inl (G.2 0, 12, .inl (F 7))), (u 8, .inl (G.2 0, 12, .inl (F 8))), (u 9, .inl (G.2 0, 10, .inl (F 9)))] : va_W) ++ w)) (hS : va_S Aw s.heap H locs) {ls : Array Slot} (hl : lv_has ls 14 [(0, .ref (r 0)), (1, .int act), (2, .int x), (3, .int y), (4, .ref (u 0)), (5, .ref (u 1)), (6, .ref (u 2)), (7, .ref (u 3)), (8, .ref (u 4)), (9, .ref (u 6)), (10, .ref (u 9)), (11, .int (nI jp))]) : W p l e (headSpec wsL_people ({ frames := 9, cells := 400, slots := 2400, locals := 222 })).room s m ([.ref (r 0), .int act, .int x, .int y, .ref (u 0), .ref (u 1), .ref (u 2), .ref (u 3), .ref (u 4), .ref (u 6), .ref (u 9)] : List Value).toArray below meth c H locs 0 0 (MQ below (va_Qi (fun (r1 : Int32) (wz : va_W) => r1 = 1 ∧ ∃ (N2 : Nat → Nat) (T2 : Nat → Nat → Int32) (E2 : Nat → Int64) (F2 : Nat → Nat → Int32) (w2 : va_W), wz = LW G u E2 F2 ++ w2 ∧ sCO G d r N2 T2 w2 ∧ sLR N2 T2 E2 F2 ∧ sLJ N2 T2 (K + 2)) (zB G Aw) Aw) ([.ref (r 0), .int act, .int x, .int y, .ref (u 0), .ref (u 1), .ref (u 2), .ref (u 3), .ref (u 4), .ref (u 6), .ref (u 9)] : List Value).toArray s 400 2400 Aw) (F0 m 60 ls []) := by
  have hQ := hR.q hJ
  obtain ⟨hg0, hg1, hg2, hg3, hg4, hg5, hg6, hg7, hg8⟩ := hR.2.2.2.2.2.2.2.2.2
  obtain ⟨⟨hb1, hb0, hb3, hb4, hb5⟩, hlv, hlm, hLH⟩ := id hJ.2
  obtain ⟨⟨hi0, hi2, hi3, hi4, hi5, hi6, hi1⟩, hiB, hiE, hiT, hiA, hiA0, hiM, hiK, hiK0, hiX⟩ := id hJ.1.1
  have hLG := hJ.1.2
  have hS0z : va_S Aw s.heap s.heap [] := va_S.rf
  refine lv_aload_n hx hb dL_people_60 rfl (lv_at hl 0 rfl) ?_
  refine lv_bipush (v := 9) hx hb dL_people_61 (by decide) ?_
  have hkz_63 : sK2 (sIx (9 : Int32) 9) (decide (T 2 (9 : Int32).toNatClampNeg = 0)) = 1 := (sK2_1' (show sIx (9 : Int32) 9 = false from by decide))
  refine z_xR (G := G) (w := w) (c2 := 2) (s2 := 12) (vx_runSX (hh := [(0, 6, 9, 14), (0, 6, 14, 18)]) (As := [.ref (r 0), .int 9]) (rest := []) ⟨hx, hb, hml, hown, hts⟩ (h_read l hst G d r A mc g N T w K (9 : Int32) H.size hC hJ.1.1 (by omega) ) (vx_cwSW 2 hts gL_people_L_read rfl rfl rfl (by decide +kernel) ⟨Nat.le_of_ble_eq_true rfl, Nat.le_of_ble_eq_true rfl⟩) (z_hs hK (z_apR hP) (z_dR hD) hZ hLx hS hA) rfl rfl hl.1 rfl (lv_room (Nat.le_of_ble_eq_true rfl)) dL_people_63 ⟨(show 0 + 2 ≤ 400 by omega), (show 0 + 12 ≤ 2400 by omega)⟩) hP hD hS hA (show 0 + 2 ≤ 2 by omega) (show 0 + 12 ≤ 12 by omega) (fun rz_1 zw_1 Hz Lz hq hP hD hS => ?_)
  obtain ⟨hr9, hw9⟩ := hq.2 (by rw [hkz_63]; decide)
  rw [hw9] at hP hD
  rw [hr9, show zCx [-7100, -7300] (sK2 (sIx (9 : Int32) 9) (decide (T 2 (9 : Int32).toNatClampNeg = 0))) = (-7100) from by rw [hkz_63]; rfl]
  refine lv_sipush (v := (-7100)) hx hb dL_people_66 (by decide) ?_
  refine lv_icmp_ne (tgt := 83) hx hb dL_people_69 (by decide) (fun zc_2 => absurd zc_2 (by decide)) (fun _ => ?_)
  refine lv_aload_n hx hb dL_people_72 rfl (lv_at hl 0 rfl) ?_
  refine lv_iconst (v := (-1)) hx hb dL_people_73 (by decide) ?_
  have hkz_74 : sK2 (sIx (-1 : Int32) 9) (decide (T 2 (-1 : Int32).toNatClampNeg = 0)) = 1 := (sK2_1' (show sIx (-1 : Int32) 9 = false from by decide))
  refine z_xR (G := G) (w := w) (c2 := 4) (s2 := 24) (vx_runSX (hh := [(0, 6, 9, 14), (0, 6, 14, 18)]) (As := [.ref (r 0), .int (-1)]) (rest := []) ⟨hx, hb, hml, hown, hts⟩ (h_read l hst G d r A mc g N T w K (-1 : Int32) Hz.size hC hJ.1.1 (by omega) ) (vx_cwSW 2 hts gL_people_L_read rfl rfl rfl (by decide +kernel) ⟨Nat.le_of_ble_eq_true rfl, Nat.le_of_ble_eq_true rfl⟩) (z_hs hK (z_apR hP) (z_dR hD) hZ hLx hS hA) rfl rfl hl.1 rfl (lv_room (Nat.le_of_ble_eq_true rfl)) dL_people_74 ⟨(show 2 + 2 ≤ 400 by omega), (show 12 + 12 ≤ 2400 by omega)⟩) hP hD hS hA (show 2 + 2 ≤ 4 by omega) (show 12 + 12 ≤ 24 by omega) (fun rz_3 zw_3 Hz Lz hq hP hD hS => ?_)
  obtain ⟨hr9, hw9⟩ := hq.2 (by rw [hkz_74]; decide)
  rw [hw9] at hP hD
  rw [hr9, show zCx [-7100, -7300] (sK2 (sIx (-1 : Int32) 9) (decide (T 2 (-1 : Int32).toNatClampNeg = 0))) = (-7100) from by rw [hkz_74]; rfl]
  refine lv_sipush (v := (-7100)) hx hb dL_people_77 (by decide) ?_
  refine lv_icmp_eq (tgt := 85) hx hb dL_people_80 (by decide) (fun _ => ?_) (fun zc_4 => absurd zc_4 (by decide))
  refine lv_aload hx hb dL_people_85 (lv_at hl 4 rfl) ?_
  refine lv_aload hx hb dL_people_87 (lv_at hl 10 rfl) ?_
  refine lv_iload hx hb dL_people_89 (lv_at hl 11 rfl) ?_
  refine z_csi (va_Run.run (va_runS (As := [.ref (u 0), .ref (u 9), .int (nI jp)]) (rest := []) ⟨hx, hb, hml, hown, hts⟩ (c_L_hasLeft l G u E F N T (nI jp) hQ (vp_in_nI hjp (by omega))) (va_cwS 3 hts gL_people_L_hasLeft rfl rfl rfl (by decide +kernel) ⟨Nat.le_of_ble_eq_true rfl, Nat.le_of_ble_eq_true rfl⟩) (z_ps hK (z_apL hP)) rfl rfl hl.1 rfl (lv_room (Nat.le_of_ble_eq_true rfl)) dL_people_91 ⟨(show 4 + 0 ≤ 400 by omega), (show 24 + 0 ≤ 2400 by omega)⟩)) (fun zr_5 hzr_5 => ?_)
  subst hzr_5
  refine lv_if_eq (tgt := 115) hx hb dL_people_94 (by decide) (fun zc_6 => ?_) (fun zc_6 => ?_)
  · skip
    have hlf := zc_6
    refine lv_aload hx hb dL_people_115 (lv_at hl 9 rfl) ?_
    refine lv_iload hx hb dL_people_117 (lv_at hl 11 rfl) ?_
    refine va_iald hx hb hK (z_apL hP) 6 0 rfl rfl (vp_in_nI hjp (by omega)) dL_people_119 ?_
    refine W.eq (g2 := F0 m 120 ls [.int (T 1 (nI jp).toNatClampNeg)]) (by first | (rw [hR.2.2.2.2.2.2.1 _ (by rw [nI_clamp (by omega)]; exact hjp)]; done) | (rw [hR.2.2.2.2.2.2.1 _ (by rw [nI_clamp (by omega)]; exact hjp)]; rfl)) ?_
    refine lv_istore (lv' := [(12, .int (T 1 (nI jp).toNatClampNeg)), (0, .ref (r 0)), (1, .int act), (2, .int x), (3, .int y), (4, .ref (u 0)), (5, .ref (u 1)), (6, .ref (u 2)), (7, .ref (u 3)), (8, .ref (u 4)), (9, .ref (u 6)), (10, .ref (u 9)), (11, .int (nI jp))]) hx hb dL_people_120 hl (by decide) rfl (fun ls hl => ?_)
    refine lv_aload hx hb dL_people_122 (lv_at hl 10 rfl) ?_
    refine lv_iload hx hb dL_people_124 (lv_at hl 12 rfl) ?_
    refine lv_aload hx hb dL_people_126 (lv_at hl 11 rfl) ?_
    refine lv_iconst (v := 1) hx hb dL_people_128 (by decide) ?_
    refine va_iald hx hb hK (z_apL hP) 9 0 rfl rfl (vp_in_nI (n := 1) (by decide) (by decide)) dL_people_129 ?_
    refine W.eq (g2 := F0 m 130 ls [.int (nI (N 1)), .int (nI jp), .ref (u 6)]) (by rw [show (F 9) (1 : Int32).toNatClampNeg = nI (N 1) from hg1]) ?_
    refine va_iast hx hb hK hP hD hS 6 0 rfl rfl (vp_in_nI hjp (by omega)) dL_people_130 (fun Hz Lz hP hD hS => ?_)
    rw [nI_clamp (by omega)] at hP hD
    have hP : va_P G.1 vwCl (([(u 0, .inl (G.2 1, 64, .inr (.inl E))), (u 1, .inl (G.2 0, 8, .inl (F 1))), (u 2, .inl (G.2 0, 3, .inl (F 2))), (u 3, .inl (G.2 0, 3, .inl (F 3))), (u 4, .inl (G.2 0, 40, .inl (F 4))), (u 5, .inl (G.2 0, 40, .inl (F 5))), (u 6, .inl (G.2 0, 9, .inl (upd (F 6) jp (nI (N 1))))), (u 7, .inl (G.2 0, 12, .inl (F 7))), (u 8, .inl (G.2 0, 12, .inl (F 8))), (u 9, .inl (G.2 0, 10, .inl (F 9)))] : va_W) ++ w) Hz := hP
    have hD : va_D Aw (([(u 0, .inl (G.2 1, 64, .inr (.inl E))), (u 1, .inl (G.2 0, 8, .inl (F 1))), (u 2, .inl (G.2 0, 3, .inl (F 2))), (u 3, .inl (G.2 0, 3, .inl (F 3))), (u 4, .inl (G.2 0, 40, .inl (F 4))), (u 5, .inl (G.2 0, 40, .inl (F 5))), (u 6, .inl (G.2 0, 9, .inl (upd (F 6) jp (nI (N 1))))), (u 7, .inl (G.2 0, 12, .inl (F 7))), (u 8, .inl (G.2 0, 12, .inl (F 8))), (u 9, .inl (G.2 0, 10, .inl (F 9)))] : va_W) ++ w) := hD
    have hRn : sLR N (nRead N T (nI jp)).2 E (va_up F 6 (upd (F 6) jp (nI (N 1)))) := by
      have h9 := sLR_read (p := nI jp) hR
      rw [nI_clamp (by omega)] at h9
      exact h9
    have hP : va_P G.1 vwCl (([(u 0, .inl (G.2 1, 64, .inr (.inl E))), (u 1, .inl (G.2 0, 8, .inl (F 1))), (u 2, .inl (G.2 0, 3, .inl (F 2))), (u 3, .inl (G.2 0, 3, .inl (F 3))), (u 4, .inl (G.2 0, 40, .inl (F 4))), (u 5, .inl (G.2 0, 40, .inl (F 5))), (u 6, .inl (G.2 0, 9, .inl (upd (F 6) jp (nI (N 1))))), (u 7, .inl (G.2 0, 12, .inl (F 7))), (u 8, .inl (G.2 0, 12, .inl (F 8))), (u 9, .inl (G.2 0, 10, .inl (F 9)))] : va_W) ++ w) Hz := hP
    have hD : va_D Aw (([(u 0, .inl (G.2 1, 64, .inr (.inl E))), (u 1, .inl (G.2 0, 8, .inl (F 1))), (u 2, .inl (G.2 0, 3, .inl (F 2))), (u 3, .inl (G.2 0, 3, .inl (F 3))), (u 4, .inl (G.2 0, 40, .inl (F 4))), (u 5, .inl (G.2 0, 40, .inl (F 5))), (u 6, .inl (G.2 0, 9, .inl (upd (F 6) jp (nI (N 1))))), (u 7, .inl (G.2 0, 12, .inl (F 7))), (u 8, .inl (G.2 0, 12, .inl (F 8))), (u 9, .inl (G.2 0, 10, .inl (F 9)))] : va_W) ++ w) := hD
    refine lv_aload_n hx hb dL_people_131 rfl (lv_at hl 1 rfl) ?_
    refine lv_iload hx hb dL_people_132 (lv_at hl 12 rfl) ?_
    have hkz_134 : sK2 (sIx (nI jp) 9) (decide (T 2 (nI jp).toNatClampNeg = 0)) = 0 := (sK2_ok (sIx_y hjp (by omega)) (decide_eq_true hlf))
    refine z_xR (G := G) (w := w) (c2 := 6) (s2 := 36) (vx_runSX (hh := [(0, 6, 9, 14), (0, 6, 14, 18)]) (As := [.ref (r 0), .int (nI jp)]) (rest := []) ⟨hx, hb, hml, hown, hts⟩ (h_read l hst G d r A mc g N T w K (nI jp) Hz.size hC hJ.1.1 (by omega) ) (vx_cwSW 2 hts gL_people_L_read rfl rfl rfl (by decide +kernel) ⟨Nat.le_of_ble_eq_true rfl, Nat.le_of_ble_eq_true rfl⟩) (z_hs hK (z_apR hP) (z_dR hD) hZ hLx hS hA) rfl rfl hl.1 rfl (lv_room (Nat.le_of_ble_eq_true rfl)) dL_people_134 ⟨(show 4 + 2 ≤ 400 by omega), (show 24 + 12 ≤ 2400 by omega)⟩) hP hD hS hA (show 4 + 2 ≤ 6 by omega) (show 24 + 12 ≤ 36 by omega) (fun rz_7 zw_7 Hz Lz hq hP hD hS => ?_)
    obtain ⟨hr9, A, mc, g, hC⟩ := hq.1 hkz_134
    rw [hr9]
    refine lv_aload hx hb dL_people_137 (lv_at hl 11 rfl) ?_
    refine lv_iconst (v := 1) hx hb dL_people_139 (by decide) ?_
    refine va_iald hx hb hK (z_apL hP) 9 0 rfl rfl (vp_in_nI (n := 1) (by decide) (by decide)) dL_people_140 ?_
    refine W.eq (g2 := F0 m 141 ls [.int (nI (N 1)), .int (nI (N 1) - T 1 (nI jp).toNatClampNeg)]) (by rw [show (F 9) (1 : Int32).toNatClampNeg = nI (N 1) from hg1]) ?_
    refine lv_iload hx hb dL_people_141 (lv_at hl 0 rfl) ?_
    refine lv_isub hx hb dL_people_143 ?_
    refine W.eq (g2 := F0 m 144 ls [.int (nI (N 1) - T 1 (nI jp).toNatClampNeg), .int (nI (N 1) - T 1 (nI jp).toNatClampNeg)]) (by first | (rfl; done) | (rfl; rfl)) ?_
    refine lv_icmp_ne (tgt := 151) hx hb dL_people_144 (by decide) (fun zc_8 => absurd rfl zc_8) (fun _ => ?_)
    refine lv_iconst (v := 1) hx hb dL_people_147 (by decide) ?_
    refine lv_goto (tgt := 152) hx hb dL_people_148 (by decide) ?_
    exact z_widen (k := 400) (n := 2400) (show 6 ≤ 400 by omega) (show 36 ≤ 2400 by omega) (W.zret (v := 1) hx hb hr rfl (fun t ht hW => ⟨⟨1, (([(u 0, .inl (G.2 1, 64, .inr (.inl E))), (u 1, .inl (G.2 0, 8, .inl (F 1))), (u 2, .inl (G.2 0, 3, .inl (F 2))), (u 3, .inl (G.2 0, 3, .inl (F 3))), (u 4, .inl (G.2 0, 40, .inl (F 4))), (u 5, .inl (G.2 0, 40, .inl (F 5))), (u 6, .inl (G.2 0, 9, .inl (upd (F 6) jp (nI (N 1))))), (u 7, .inl (G.2 0, 12, .inl (F 7))), (u 8, .inl (G.2 0, 12, .inl (F 8))), (u 9, .inl (G.2 0, 10, .inl (F 9)))] : va_W) ++ zw_7), rfl, ⟨rfl, N, ((nRead N T (nI jp)).2), E, (va_up F 6 (upd (F 6) jp (nI (N 1)))), zw_7, rfl, ⟨A, mc, g, hC⟩, hRn, ((sLJ_read hJ).mono (by omega))⟩, ⟨by rw [ht]; exact hP, hD⟩⟩, hS.F ht⟩) hS.2.2 dL_people_152 hlocks)
  · skip
    have hlf := zc_6
    refine lv_aload_n hx hb dL_people_97 rfl (lv_at hl 0 rfl) ?_
    refine lv_iload hx hb dL_people_98 (lv_at hl 11 rfl) ?_
    have hkz_100 : sK2 (sIx (nI jp) 9) (decide (T 2 (nI jp).toNatClampNeg = 0)) = 2 := (sK2_2' (sIx_y hjp (by omega)) (decide_eq_false hlf))
    refine z_xR (G := G) (w := w) (c2 := 6) (s2 := 36) (vx_runSX (hh := [(0, 6, 9, 14), (0, 6, 14, 18)]) (As := [.ref (r 0), .int (nI jp)]) (rest := []) ⟨hx, hb, hml, hown, hts⟩ (h_read l hst G d r A mc g N T w K (nI jp) Hz.size hC hJ.1.1 (by omega) ) (vx_cwSW 2 hts gL_people_L_read rfl rfl rfl (by decide +kernel) ⟨Nat.le_of_ble_eq_true rfl, Nat.le_of_ble_eq_true rfl⟩) (z_hs hK (z_apR hP) (z_dR hD) hZ hLx hS hA) rfl rfl hl.1 rfl (lv_room (Nat.le_of_ble_eq_true rfl)) dL_people_100 ⟨(show 4 + 2 ≤ 400 by omega), (show 24 + 12 ≤ 2400 by omega)⟩) hP hD hS hA (show 4 + 2 ≤ 6 by omega) (show 24 + 12 ≤ 36 by omega) (fun rz_9 zw_9 Hz Lz hq hP hD hS => ?_)
    obtain ⟨hr9, hw9⟩ := hq.2 (by rw [hkz_100]; decide)
    rw [hw9] at hP hD
    rw [hr9, show zCx [-7100, -7300] (sK2 (sIx (nI jp) 9) (decide (T 2 (nI jp).toNatClampNeg = 0))) = (-7300) from by rw [hkz_100]; rfl]
    refine lv_sipush (v := (-7300)) hx hb dL_people_103 (by decide) ?_
    refine lv_icmp_ne (tgt := 113) hx hb dL_people_106 (by decide) (fun zc_10 => absurd zc_10 (by decide)) (fun _ => ?_)
    refine lv_iconst (v := 1) hx hb dL_people_109 (by decide) ?_
    refine lv_goto (tgt := 114) hx hb dL_people_110 (by decide) ?_
    exact z_widen (k := 400) (n := 2400) (show 6 ≤ 400 by omega) (show 36 ≤ 2400 by omega) (W.zret (v := 1) hx hb hr rfl (fun t ht hW => ⟨⟨1, (([(u 0, .inl (G.2 1, 64, .inr (.inl E))), (u 1, .inl (G.2 0, 8, .inl (F 1))), (u 2, .inl (G.2 0, 3, .inl (F 2))), (u 3, .inl (G.2 0, 3, .inl (F 3))), (u 4, .inl (G.2 0, 40, .inl (F 4))), (u 5, .inl (G.2 0, 40, .inl (F 5))), (u 6, .inl (G.2 0, 9, .inl (F 6))), (u 7, .inl (G.2 0, 12, .inl (F 7))), (u 8, .inl (G.2 0, 12, .inl (F 8))), (u 9, .inl (G.2 0, 10, .inl (F 9)))] : va_W) ++ w), rfl, ⟨rfl, N, T, E, F, w, rfl, ⟨A, mc, g, hC⟩, hR, (hJ.mono (by omega))⟩, ⟨by rw [ht]; exact hP, hD⟩⟩, hS.F ht⟩) hS.2.2 dL_people_114 hlocks)

set_option maxHeartbeats 4000000 in
set_option maxRecDepth 100000 in
theorem vpeople_13 {p : Program} {l : Launch} {e : Env} {s : State} {m : MethodId} {below : List Frame} {meth : Method} {c : Code} {G : zG} {d : Nat} {r u : Nat → Nat} {act x y : Int32} {Aw : Nat → Prop} (hst : l.stackTraces = false) (hx : p.tables.exec = Jvm.exec) (hb : c.code = cL_people) (hr : meth.sig.returnType = some .boolean) (hml : c.maxLocals = 14) (hown : s.vm.findClass RL = some m.cls) (hts : ∀ w ∈ wsL_people, w.before ([.ref (r 0), .int act, .int x, .int y, .ref (u 0), .ref (u 1), .ref (u 2), .ref (u 3), .ref (u 4), .ref (u 6), .ref (u 9)] : List Value).toArray s = true) (hlocks : meth.locks = false) (hK : va_K G.1 vwCl (zT G.2) s) (hZ : zCe Aw d s s.heap) (hLx : zLx s) (hA : ∀ q : Nat, s.heap.size ≤ q → Aw q) {A : Nat → Nat} {mc : Nat → Int32} {g : Nat → Nat → Int32} {N : Nat → Nat} {T : Nat → Nat → Int32} {w : va_W} {E : Nat → Int64} {F : Nat → Nat → Int32} {K : Nat} (hC : sCQ G d r A mc g N T w) (hR : sLR N T E F) (hJ : sLJ N T K) (hK5 : K ≤ 400) (hh9 : N 1 ≤ 90 ∧ N 0 ≤ 1900) {jp : Nat} (hjp : jp < 9) {H : Heap} {locs : List Loc} (hP : va_P G.1 vwCl (([(u 0, .inl (G.2 1, 64, .inr (.inl E))), (u 1, .inl (G.2 0, 8, .inl (F 1))), (u 2, .inl (G.2 0, 3, .inl (F 2))), (u 3, .inl (G.2 0, 3, .inl (F 3))), (u 4, .inl (G.2 0, 40, .inl (F 4))), (u 5, .inl (G.2 0, 40, .inl (F 5))), (u 6, .inl (G.2 0, 9, .inl (F 6))), (u 7, .inl (G.2 0, 12, .inl (F 7))), (u 8, .inl (G.2 0, 12, .inl (F 8))), (u 9, .inl (G.2 0, 10, .inl (F 9)))] : va_W) ++ w) H) (hD : va_D Aw (([(u 0, .inl (G.2 1, 64, .inr (.inl E))), (u 1, .inl (G.2 0, 8, .inl (F 1))), (u 2, .inl (G.2 0, 3, .inl (F 2))), (u 3, .inl (G.2 0, 3, .inl (F 3))), (u 4, .inl (G.2 0, 40, .inl (F 4))), (u 5, .inl (G.2 0, 40, .inl (F 5))), (u 6, .inl (G.2 0, 9, .inl (F 6))), (u 7, .inl (G.2 0, 12, .inl (F 7))), (u 8, .inl (G.2 0, 12, .inl (F 8))), (u 9, .inl (G.2 0, 10, .inl (F 9)))] : va_W) ++ w)) (hS : va_S Aw s.heap H locs) {ls : Array Slot} (hl : lv_has ls 14 [(0, .ref (r 0)), (1, .int act), (2, .int x), (3, .int y), (4, .ref (u 0)), (5, .ref (u 1)), (6, .ref (u 2)), (7, .ref (u 3)), (8, .ref (u 4)), (9, .ref (u 6)), (10, .ref (u 9)), (11, .int (nI jp))]) : W p l e (headSpec wsL_people ({ frames := 9, cells := 400, slots := 2400, locals := 222 })).room s m ([.ref (r 0), .int act, .int x, .int y, .ref (u 0), .ref (u 1), .ref (u 2), .ref (u 3), .ref (u 4), .ref (u 6), .ref (u 9)] : List Value).toArray below meth c H locs 0 0 (MQ below (va_Qi (fun (r1 : Int32) (wz : va_W) => r1 = 1 ∧ ∃ (N2 : Nat → Nat) (T2 : Nat → Nat → Int32) (E2 : Nat → Int64) (F2 : Nat → Nat → Int32) (w2 : va_W), wz = LW G u E2 F2 ++ w2 ∧ sCO G d r N2 T2 w2 ∧ sLR N2 T2 E2 F2 ∧ sLJ N2 T2 (K + 2)) (zB G Aw) Aw) ([.ref (r 0), .int act, .int x, .int y, .ref (u 0), .ref (u 1), .ref (u 2), .ref (u 3), .ref (u 4), .ref (u 6), .ref (u 9)] : List Value).toArray s 400 2400 Aw) (F0 m 13 ls []) := by
  have hQ := hR.q hJ
  obtain ⟨hg0, hg1, hg2, hg3, hg4, hg5, hg6, hg7, hg8⟩ := hR.2.2.2.2.2.2.2.2.2
  obtain ⟨⟨hb1, hb0, hb3, hb4, hb5⟩, hlv, hlm, hLH⟩ := id hJ.2
  obtain ⟨⟨hi0, hi2, hi3, hi4, hi5, hi6, hi1⟩, hiB, hiE, hiT, hiA, hiA0, hiM, hiK, hiK0, hiX⟩ := id hJ.1.1
  have hLG := hJ.1.2
  have hS0z : va_S Aw s.heap s.heap [] := va_S.rf
  refine lv_iconst (v := 0) hx hb dL_people_13 (by decide) ?_
  refine lv_istore (lv' := [(12, .int 0), (0, .ref (r 0)), (1, .int act), (2, .int x), (3, .int y), (4, .ref (u 0)), (5, .ref (u 1)), (6, .ref (u 2)), (7, .ref (u 3)), (8, .ref (u 4)), (9, .ref (u 6)), (10, .ref (u 9)), (11, .int (nI jp))]) hx hb dL_people_14 hl (by decide) rfl (fun ls hl => ?_)
  have key_16 : ∀ (n i : Nat), i ≤ 9 → 9 < i + n → ∀ (jp : Nat), jp < 9 → ∀ (Hz : Heap) (Lz : List Loc), va_P G.1 vwCl (([(u 0, .inl (G.2 1, 64, .inr (.inl E))), (u 1, .inl (G.2 0, 8, .inl (F 1))), (u 2, .inl (G.2 0, 3, .inl (F 2))), (u 3, .inl (G.2 0, 3, .inl (F 3))), (u 4, .inl (G.2 0, 40, .inl (F 4))), (u 5, .inl (G.2 0, 40, .inl (F 5))), (u 6, .inl (G.2 0, 9, .inl (F 6))), (u 7, .inl (G.2 0, 12, .inl (F 7))), (u 8, .inl (G.2 0, 12, .inl (F 8))), (u 9, .inl (G.2 0, 10, .inl (F 9)))] : va_W) ++ w) Hz → va_D Aw (([(u 0, .inl (G.2 1, 64, .inr (.inl E))), (u 1, .inl (G.2 0, 8, .inl (F 1))), (u 2, .inl (G.2 0, 3, .inl (F 2))), (u 3, .inl (G.2 0, 3, .inl (F 3))), (u 4, .inl (G.2 0, 40, .inl (F 4))), (u 5, .inl (G.2 0, 40, .inl (F 5))), (u 6, .inl (G.2 0, 9, .inl (F 6))), (u 7, .inl (G.2 0, 12, .inl (F 7))), (u 8, .inl (G.2 0, 12, .inl (F 8))), (u 9, .inl (G.2 0, 10, .inl (F 9)))] : va_W) ++ w) → va_S Aw s.heap Hz Lz → ∀ ls : Array Slot, lv_has ls 14 [(0, .ref (r 0)), (1, .int act), (2, .int x), (3, .int y), (4, .ref (u 0)), (5, .ref (u 1)), (6, .ref (u 2)), (7, .ref (u 3)), (8, .ref (u 4)), (9, .ref (u 6)), (10, .ref (u 9)), (11, .int (nI jp)), (12, .int (nI i))] → W p l e (headSpec wsL_people ({ frames := 9, cells := 400, slots := 2400, locals := 222 })).room s m ([.ref (r 0), .int act, .int x, .int y, .ref (u 0), .ref (u 1), .ref (u 2), .ref (u 3), .ref (u 4), .ref (u 6), .ref (u 9)] : List Value).toArray below meth c Hz Lz (0) (0) (MQ below (va_Qi (fun (r1 : Int32) (wz : va_W) => r1 = 1 ∧ ∃ (N2 : Nat → Nat) (T2 : Nat → Nat → Int32) (E2 : Nat → Int64) (F2 : Nat → Nat → Int32) (w2 : va_W), wz = LW G u E2 F2 ++ w2 ∧ sCO G d r N2 T2 w2 ∧ sLR N2 T2 E2 F2 ∧ sLJ N2 T2 (K + 2)) (zB G Aw) Aw) ([.ref (r 0), .int act, .int x, .int y, .ref (u 0), .ref (u 1), .ref (u 2), .ref (u 3), .ref (u 4), .ref (u 6), .ref (u 9)] : List Value).toArray s 400 2400 Aw) (F0 m 16 ls []) := by
    intro n
    induction n with
    | zero => intro i hi_a hi_b; exact absurd hi_b (by omega)
    | succ n ih =>
      intro i hil hin jp  hjp  Hz Lz hP hD hS ls hl
      refine lv_iload hx hb dL_people_16 (lv_at hl 12 rfl) ?_
      refine lv_bipush (v := 9) hx hb dL_people_18 (by decide) ?_
      refine lv_icmp_ge (tgt := 60) hx hb dL_people_20 (by decide) (fun zc_1 => ?_) (fun zc_1 => ?_)
      · skip
        have zd_1 := Int32.not_lt.mpr zc_1
        skip
        exact z_widen (show 0 ≤ 0 by omega) (show 0 ≤ 0 by omega) (vpeople_60 hst hx hb hr hml hown hts hlocks hK hZ hLx hA hC hR hJ hK5 hh9 hjp hP hD hS (lv_sub hl [0, 1, 2, 3, 4, 5, 6, 7, 8, 9, 10, 11] rfl))
      · skip
        have zd_1 := Int32.not_le.mp zc_1
        have hlt9 : i < 9 := Nat.lt_of_not_le (fun z => zc_1 ((nI_leI (a := 9) (b := i) (by omega) (by omega)).mpr z))
        refine lv_iload_n hx hb dL_people_23 rfl (lv_at hl 3 rfl) ?_
        refine lv_bipush (v := 6) hx hb dL_people_24 (by decide) ?_
        refine lv_iand hx hb dL_people_26 ?_
        refine lv_if_le (tgt := 60) hx hb dL_people_27 (by decide) (fun zc_2 => ?_) (fun zc_2 => ?_)
        · skip
          have zd_2 := Int32.not_lt.mpr zc_2
          exact z_widen (show 0 ≤ 0 by omega) (show 0 ≤ 0 by omega) (vpeople_60 hst hx hb hr hml hown hts hlocks hK hZ hLx hA hC hR hJ hK5 hh9 hjp hP hD hS (lv_sub hl [0, 1, 2, 3, 4, 5, 6, 7, 8, 9, 10, 11] rfl))
        · skip
          have zd_2 := Int32.not_le.mp zc_2
          refine lv_aload hx hb dL_people_30 (lv_at hl 10 rfl) ?_
          refine lv_iconst (v := 0) hx hb dL_people_32 (by decide) ?_
          refine va_iald hx hb hK (z_apL hP) 9 0 rfl rfl (vp_in_nI (n := 0) (by decide) (by decide)) dL_people_33 ?_
          refine W.eq (g2 := F0 m 34 ls [.int (nI (N 0))]) (by rw [show (F 9) (0 : Int32).toNatClampNeg = nI (N 0) from hg0]) ?_
          refine lv_bipush (v := 8) hx hb dL_people_34 (by decide) ?_
          refine lv_idiv hx hb dL_people_36 (by decide) ?_
          refine lv_iload hx hb dL_people_37 (lv_at hl 11 rfl) ?_
          refine lv_isub hx hb dL_people_39 ?_
          refine lv_iconst (v := 3) hx hb dL_people_40 (by decide) ?_
          refine lv_irem hx hb dL_people_41 (by decide) ?_
          refine lv_if_eq (tgt := 60) hx hb dL_people_42 (by decide) (fun zc_3 => ?_) (fun zc_3 => ?_)
          · skip
            exact z_widen (show 0 ≤ 0 by omega) (show 0 ≤ 0 by omega) (vpeople_60 hst hx hb hr hml hown hts hlocks hK hZ hLx hA hC hR hJ hK5 hh9 hjp hP hD hS (lv_sub hl [0, 1, 2, 3, 4, 5, 6, 7, 8, 9, 10, 11] rfl))
          · skip
            refine lv_iload hx hb dL_people_45 (lv_at hl 11 rfl) ?_
            refine lv_iconst (v := 1) hx hb dL_people_47 (by decide) ?_
            refine lv_iadd hx hb dL_people_48 ?_
            refine lv_bipush (v := 9) hx hb dL_people_49 (by decide) ?_
            refine lv_irem hx hb dL_people_51 (by decide) ?_
            refine W.eq (g2 := F0 m 52 ls [.int (nI ((jp + 1) % 9))]) (by first | (rw [nI_rem9 hjp]; done) | (rw [nI_rem9 hjp]; rfl)) ?_
            refine lv_istore (lv' := [(11, .int (nI ((jp + 1) % 9))), (0, .ref (r 0)), (1, .int act), (2, .int x), (3, .int y), (4, .ref (u 0)), (5, .ref (u 1)), (6, .ref (u 2)), (7, .ref (u 3)), (8, .ref (u 4)), (9, .ref (u 6)), (10, .ref (u 9)), (12, .int (nI i))]) hx hb dL_people_52 hl (by decide) rfl (fun ls hl => ?_)
            refine lv_iinc (v := (nI (i + 1))) (lv' := [(12, .int (nI (i + 1))), (11, .int (nI ((jp + 1) % 9))), (0, .ref (r 0)), (1, .int act), (2, .int x), (3, .int y), (4, .ref (u 0)), (5, .ref (u 1)), (6, .ref (u 2)), (7, .ref (u 3)), (8, .ref (u 4)), (9, .ref (u 6)), (10, .ref (u 9))]) hx hb dL_people_54 hl (k := 12) rfl (by first | exact nI_1 _ | rfl) (by decide) rfl (fun ls hl => ?_)
            refine lv_goto (tgt := 16) hx hb dL_people_57 (by decide) ?_
            have hl2 := lv_sub (l' := [(0, .ref (r 0)), (1, .int act), (2, .int x), (3, .int y), (4, .ref (u 0)), (5, .ref (u 1)), (6, .ref (u 2)), (7, .ref (u 3)), (8, .ref (u 4)), (9, .ref (u 6)), (10, .ref (u 9)), (11, .int (nI ((jp + 1) % 9))), (12, .int (nI (i + 1)))]) hl [2, 3, 4, 5, 6, 7, 8, 9, 10, 11, 12, 1, 0] rfl
            exact z_widen (show 0 ≤ 0 by omega) (show 0 ≤ 0 by omega) (ih (i + 1) (by omega) (by omega) _ (by omega)  _ _ hP hD hS ls hl2)
  exact z_widen (show 0 ≤ 0 by omega) (show 0 ≤ 0 by omega) (key_16 (9 + 1) 0 (Nat.zero_le _) (by omega) jp hjp  _ _ hP hD hS ls (lv_sub hl [1, 2, 3, 4, 5, 6, 7, 8, 9, 10, 11, 12, 0] rfl))

set_option maxHeartbeats 4000000 in
set_option maxRecDepth 100000 in
theorem vpeople_158 {p : Program} {l : Launch} {e : Env} {s : State} {m : MethodId} {below : List Frame} {meth : Method} {c : Code} {G : zG} {d : Nat} {r u : Nat → Nat} {act x y : Int32} {Aw : Nat → Prop} (hst : l.stackTraces = false) (hx : p.tables.exec = Jvm.exec) (hb : c.code = cL_people) (hr : meth.sig.returnType = some .boolean) (hml : c.maxLocals = 14) (hown : s.vm.findClass RL = some m.cls) (hts : ∀ w ∈ wsL_people, w.before ([.ref (r 0), .int act, .int x, .int y, .ref (u 0), .ref (u 1), .ref (u 2), .ref (u 3), .ref (u 4), .ref (u 6), .ref (u 9)] : List Value).toArray s = true) (hlocks : meth.locks = false) (hK : va_K G.1 vwCl (zT G.2) s) (hZ : zCe Aw d s s.heap) (hLx : zLx s) (hA : ∀ q : Nat, s.heap.size ≤ q → Aw q) {A : Nat → Nat} {mc : Nat → Int32} {g : Nat → Nat → Int32} {N : Nat → Nat} {T : Nat → Nat → Int32} {w : va_W} {E : Nat → Int64} {F : Nat → Nat → Int32} {K : Nat} (hC : sCQ G d r A mc g N T w) (hR : sLR N T E F) (hJ : sLJ N T K) (hK5 : K ≤ 400) (hh9 : N 1 ≤ 90 ∧ N 0 ≤ 1900) {jp : Nat} (hjp : jp < 9) {H : Heap} {locs : List Loc} (hP : va_P G.1 vwCl (([(u 0, .inl (G.2 1, 64, .inr (.inl E))), (u 1, .inl (G.2 0, 8, .inl (F 1))), (u 2, .inl (G.2 0, 3, .inl (F 2))), (u 3, .inl (G.2 0, 3, .inl (F 3))), (u 4, .inl (G.2 0, 40, .inl (F 4))), (u 5, .inl (G.2 0, 40, .inl (F 5))), (u 6, .inl (G.2 0, 9, .inl (F 6))), (u 7, .inl (G.2 0, 12, .inl (F 7))), (u 8, .inl (G.2 0, 12, .inl (F 8))), (u 9, .inl (G.2 0, 10, .inl (F 9)))] : va_W) ++ w) H) (hD : va_D Aw (([(u 0, .inl (G.2 1, 64, .inr (.inl E))), (u 1, .inl (G.2 0, 8, .inl (F 1))), (u 2, .inl (G.2 0, 3, .inl (F 2))), (u 3, .inl (G.2 0, 3, .inl (F 3))), (u 4, .inl (G.2 0, 40, .inl (F 4))), (u 5, .inl (G.2 0, 40, .inl (F 5))), (u 6, .inl (G.2 0, 9, .inl (F 6))), (u 7, .inl (G.2 0, 12, .inl (F 7))), (u 8, .inl (G.2 0, 12, .inl (F 8))), (u 9, .inl (G.2 0, 10, .inl (F 9)))] : va_W) ++ w)) (hS : va_S Aw s.heap H locs) {ls : Array Slot} (hl : lv_has ls 14 [(0, .ref (r 0)), (1, .int act), (2, .int x), (3, .int y), (4, .ref (u 0)), (5, .ref (u 1)), (6, .ref (u 2)), (7, .ref (u 3)), (8, .ref (u 4)), (9, .ref (u 6)), (10, .ref (u 9)), (11, .int (nI jp))]) : W p l e (headSpec wsL_people ({ frames := 9, cells := 400, slots := 2400, locals := 222 })).room s m ([.ref (r 0), .int act, .int x, .int y, .ref (u 0), .ref (u 1), .ref (u 2), .ref (u 3), .ref (u 4), .ref (u 6), .ref (u 9)] : List Value).toArray below meth c H locs 0 0 (MQ below (va_Qi (fun (r1 : Int32) (wz : va_W) => r1 = 1 ∧ ∃ (N2 : Nat → Nat) (T2 : Nat → Nat → Int32) (E2 : Nat → Int64) (F2 : Nat → Nat → Int32) (w2 : va_W), wz = LW G u E2 F2 ++ w2 ∧ sCO G d r N2 T2 w2 ∧ sLR N2 T2 E2 F2 ∧ sLJ N2 T2 (K + 2)) (zB G Aw) Aw) ([.ref (r 0), .int act, .int x, .int y, .ref (u 0), .ref (u 1), .ref (u 2), .ref (u 3), .ref (u 4), .ref (u 6), .ref (u 9)] : List Value).toArray s 400 2400 Aw) (F0 m 158 ls []) := by
  have hQ := hR.q hJ
  obtain ⟨hg0, hg1, hg2, hg3, hg4, hg5, hg6, hg7, hg8⟩ := hR.2.2.2.2.2.2.2.2.2
  obtain ⟨⟨hb1, hb0, hb3, hb4, hb5⟩, hlv, hlm, hLH⟩ := id hJ.2
  obtain ⟨⟨hi0, hi2, hi3, hi4, hi5, hi6, hi1⟩, hiB, hiE, hiT, hiA, hiA0, hiM, hiK, hiK0, hiX⟩ := id hJ.1.1
  have hLG := hJ.1.2
  have hS0z : va_S Aw s.heap s.heap [] := va_S.rf
  refine lv_aload_n hx hb dL_people_158 rfl (lv_at hl 0 rfl) ?_
  refine lv_bipush (v := 9) hx hb dL_people_159 (by decide) ?_
  have hkz_161 : sK2 (sIx (9 : Int32) 9) (decide (T 2 (9 : Int32).toNatClampNeg = 0)) = 1 := (sK2_1' (show sIx (9 : Int32) 9 = false from by decide))
  have hzb_161 : (8 + zmc (sK2 (sIx (9 : Int32) 9) (decide (T 2 (9 : Int32).toNatClampNeg = 0))) (N 1) (N 1 + 1)) ≤ 8 ∧ (200 + zms (sK2 (sIx (9 : Int32) 9) (decide (T 2 (9 : Int32).toNatClampNeg = 0))) (N 1) (N 1 + 1)) ≤ 200 := zmc_n8 (by rw [hkz_161]; decide)
  refine z_xR (G := G) (w := w) (c2 := 8) (s2 := 200) (vx_runSX (hh := [(0, 6, 9, 14), (0, 6, 14, 18)]) (As := [.ref (r 0), .int 9]) (rest := []) ⟨hx, hb, hml, hown, hts⟩ (h_leave l hst G d r A mc g N T w K (9 : Int32) H.size hC hJ.1.1 (by omega) ) (vx_cwSW 2 hts gL_people_L_leave rfl rfl rfl (by decide +kernel) ⟨Nat.le_of_ble_eq_true rfl, Nat.le_of_ble_eq_true rfl⟩) (z_hs hK (z_apR hP) (z_dR hD) hZ hLx hS hA) rfl rfl hl.1 rfl (lv_room (Nat.le_of_ble_eq_true rfl)) dL_people_161 ⟨(show 0 + (8 + zmc (sK2 (sIx (9 : Int32) 9) (decide (T 2 (9 : Int32).toNatClampNeg = 0))) (N 1) (N 1 + 1)) ≤ 400 by omega), (show 0 + (200 + zms (sK2 (sIx (9 : Int32) 9) (decide (T 2 (9 : Int32).toNatClampNeg = 0))) (N 1) (N 1 + 1)) ≤ 2400 by omega)⟩) hP hD hS hA (show 0 + (8 + zmc (sK2 (sIx (9 : Int32) 9) (decide (T 2 (9 : Int32).toNatClampNeg = 0))) (N 1) (N 1 + 1)) ≤ 8 by omega) (show 0 + (200 + zms (sK2 (sIx (9 : Int32) 9) (decide (T 2 (9 : Int32).toNatClampNeg = 0))) (N 1) (N 1 + 1)) ≤ 200 by omega) (fun rz_1 zw_1 Hz Lz hq hP hD hS => ?_)
  obtain ⟨hr9, hw9⟩ := hq.2 (by rw [hkz_161]; decide)
  rw [hw9] at hP hD
  rw [hr9, show zCx [-7100, -7300] (sK2 (sIx (9 : Int32) 9) (decide (T 2 (9 : Int32).toNatClampNeg = 0))) = (-7100) from by rw [hkz_161]; rfl]
  refine lv_sipush (v := (-7100)) hx hb dL_people_164 (by decide) ?_
  refine lv_icmp_eq (tgt := 172) hx hb dL_people_167 (by decide) (fun _ => ?_) (fun zc_2 => absurd zc_2 (by decide))
  refine lv_aload hx hb dL_people_172 (lv_at hl 4 rfl) ?_
  refine lv_aload hx hb dL_people_174 (lv_at hl 10 rfl) ?_
  refine lv_iload hx hb dL_people_176 (lv_at hl 11 rfl) ?_
  refine z_csi (va_Run.run (va_runS (As := [.ref (u 0), .ref (u 9), .int (nI jp)]) (rest := []) ⟨hx, hb, hml, hown, hts⟩ (c_L_hasLeft l G u E F N T (nI jp) hQ (vp_in_nI hjp (by omega))) (va_cwS 3 hts gL_people_L_hasLeft rfl rfl rfl (by decide +kernel) ⟨Nat.le_of_ble_eq_true rfl, Nat.le_of_ble_eq_true rfl⟩) (z_ps hK (z_apL hP)) rfl rfl hl.1 rfl (lv_room (Nat.le_of_ble_eq_true rfl)) dL_people_178 ⟨(show 8 + 0 ≤ 400 by omega), (show 200 + 0 ≤ 2400 by omega)⟩)) (fun zr_3 hzr_3 => ?_)
  subst hzr_3
  refine lv_if_eq (tgt := 202) hx hb dL_people_181 (by decide) (fun zc_4 => ?_) (fun zc_4 => ?_)
  · skip
    have hlf := zc_4
    refine lv_iconst (v := 0) hx hb dL_people_202 (by decide) ?_
    refine lv_istore (lv' := [(12, .int 0), (0, .ref (r 0)), (1, .int act), (2, .int x), (3, .int y), (4, .ref (u 0)), (5, .ref (u 1)), (6, .ref (u 2)), (7, .ref (u 3)), (8, .ref (u 4)), (9, .ref (u 6)), (10, .ref (u 9)), (11, .int (nI jp))]) hx hb dL_people_203 hl (by decide) rfl (fun ls hl => ?_)
    refine lv_iconst (v := 0) hx hb dL_people_205 (by decide) ?_
    refine lv_istore (lv' := [(13, .int 0), (12, .int 0), (0, .ref (r 0)), (1, .int act), (2, .int x), (3, .int y), (4, .ref (u 0)), (5, .ref (u 1)), (6, .ref (u 2)), (7, .ref (u 3)), (8, .ref (u 4)), (9, .ref (u 6)), (10, .ref (u 9)), (11, .int (nI jp))]) hx hb dL_people_206 hl (by decide) rfl (fun ls hl => ?_)
    have key_208 : ∀ (n i : Nat), i ≤ N 2 → N 2 < i + n → ∀ (Hz : Heap) (Lz : List Loc), va_P G.1 vwCl (([(u 0, .inl (G.2 1, 64, .inr (.inl E))), (u 1, .inl (G.2 0, 8, .inl (F 1))), (u 2, .inl (G.2 0, 3, .inl (F 2))), (u 3, .inl (G.2 0, 3, .inl (F 3))), (u 4, .inl (G.2 0, 40, .inl (F 4))), (u 5, .inl (G.2 0, 40, .inl (F 5))), (u 6, .inl (G.2 0, 9, .inl (F 6))), (u 7, .inl (G.2 0, 12, .inl (F 7))), (u 8, .inl (G.2 0, 12, .inl (F 8))), (u 9, .inl (G.2 0, 10, .inl (F 9)))] : va_W) ++ w) Hz → va_D Aw (([(u 0, .inl (G.2 1, 64, .inr (.inl E))), (u 1, .inl (G.2 0, 8, .inl (F 1))), (u 2, .inl (G.2 0, 3, .inl (F 2))), (u 3, .inl (G.2 0, 3, .inl (F 3))), (u 4, .inl (G.2 0, 40, .inl (F 4))), (u 5, .inl (G.2 0, 40, .inl (F 5))), (u 6, .inl (G.2 0, 9, .inl (F 6))), (u 7, .inl (G.2 0, 12, .inl (F 7))), (u 8, .inl (G.2 0, 12, .inl (F 8))), (u 9, .inl (G.2 0, 10, .inl (F 9)))] : va_W) ++ w) → va_S Aw s.heap Hz Lz → ∀ ls : Array Slot, lv_has ls 14 [(0, .ref (r 0)), (1, .int act), (2, .int x), (3, .int y), (4, .ref (u 0)), (5, .ref (u 1)), (6, .ref (u 2)), (7, .ref (u 3)), (8, .ref (u 4)), (9, .ref (u 6)), (10, .ref (u 9)), (11, .int (nI jp)), (12, .int (nI (sCnt (fun t => decide (T 10 t = 0) && decide (T 7 t = nI jp)) i))), (13, .int (nI i))] → W p l e (headSpec wsL_people ({ frames := 9, cells := 400, slots := 2400, locals := 222 })).room s m ([.ref (r 0), .int act, .int x, .int y, .ref (u 0), .ref (u 1), .ref (u 2), .ref (u 3), .ref (u 4), .ref (u 6), .ref (u 9)] : List Value).toArray below meth c Hz Lz (20) (220) (MQ below (va_Qi (fun (r1 : Int32) (wz : va_W) => r1 = 1 ∧ ∃ (N2 : Nat → Nat) (T2 : Nat → Nat → Int32) (E2 : Nat → Int64) (F2 : Nat → Nat → Int32) (w2 : va_W), wz = LW G u E2 F2 ++ w2 ∧ sCO G d r N2 T2 w2 ∧ sLR N2 T2 E2 F2 ∧ sLJ N2 T2 (K + 2)) (zB G Aw) Aw) ([.ref (r 0), .int act, .int x, .int y, .ref (u 0), .ref (u 1), .ref (u 2), .ref (u 3), .ref (u 4), .ref (u 6), .ref (u 9)] : List Value).toArray s 400 2400 Aw) (F0 m 208 ls []) := by
      intro n
      induction n with
      | zero => intro i hi_a hi_b; exact absurd hi_b (by omega)
      | succ n ih =>
        intro i hil hin    Hz Lz hP hD hS ls hl
        refine lv_iload hx hb dL_people_208 (lv_at hl 13 rfl) ?_
        refine lv_aload hx hb dL_people_210 (lv_at hl 10 rfl) ?_
        refine lv_iconst (v := 5) hx hb dL_people_212 (by decide) ?_
        refine va_iald hx hb hK (z_apL hP) 9 0 rfl rfl (vp_in_nI (n := 5) (by decide) (by decide)) dL_people_213 ?_
        refine W.eq (g2 := F0 m 214 ls [.int (nI (N 2)), .int (nI i)]) (by rw [show (F 9) (5 : Int32).toNatClampNeg = nI (N 2) from hg5]) ?_
        refine lv_icmp_ge (tgt := 247) hx hb dL_people_214 (by decide) (fun zc_5 => ?_) (fun zc_5 => ?_)
        · skip
          have zd_5 := Int32.not_lt.mpr zc_5
          have zhc := (nI_leI (by omega) (by omega)).mp zc_5
          have zie := Nat.le_antisymm hil zhc
          subst zie
          refine lv_aload hx hb dL_people_247 (lv_at hl 4 rfl) ?_
          refine lv_aload hx hb dL_people_249 (lv_at hl 10 rfl) ?_
          refine lv_iconst (v := 4) hx hb dL_people_251 (by decide) ?_
          refine lv_iload hx hb dL_people_252 (lv_at hl 11 rfl) ?_
          refine lv_iconst (v := 0) hx hb dL_people_254 (by decide) ?_
          refine z_lv (G := G) (w := (LW G u E F)) (wr := w) (va_runS (As := [.ref (u 0), .ref (u 9), .int 4, .int (nI jp), .int 0]) (rest := []) ⟨hx, hb, hml, hown, hts⟩ (c_L_note l G u E F (T 0) (N 1) (N 0) 4 (nI jp) 0 Hz.size hR.1 (by omega) hg0 hg1 hi0 ⟨4, by decide, rfl⟩ ⟨jp + 1, by omega, nI_1 jp⟩ ⟨0, by omega, rfl⟩) (va_cwS 5 hts gL_people_L_note rfl rfl rfl (by decide +kernel) ⟨Nat.le_of_ble_eq_true rfl, Nat.le_of_ble_eq_true rfl⟩) (z_us hK (z_apL hP) (z_dL hD)) rfl rfl hl.1 rfl (lv_room (Nat.le_of_ble_eq_true rfl)) dL_people_255 ⟨(show 20 + 0 ≤ 400 by omega), (show 220 + 0 ≤ 2400 by omega)⟩) hP hD hS hA (fun w1 Hz Lz hw hP hD hS => ?_)
          obtain ⟨zE_6, rfl, hzE_6⟩ := hw
          have hP : va_P G.1 vwCl (([(u 0, .inl (G.2 1, 64, .inr (.inl zE_6))), (u 1, .inl (G.2 0, 8, .inl (F 1))), (u 2, .inl (G.2 0, 3, .inl (F 2))), (u 3, .inl (G.2 0, 3, .inl (F 3))), (u 4, .inl (G.2 0, 40, .inl (F 4))), (u 5, .inl (G.2 0, 40, .inl (F 5))), (u 6, .inl (G.2 0, 9, .inl (F 6))), (u 7, .inl (G.2 0, 12, .inl (F 7))), (u 8, .inl (G.2 0, 12, .inl (F 8))), (u 9, .inl (G.2 0, 10, .inl (upd (F 9) 1 (nI (N 1 + 1)))))] : va_W) ++ w) Hz := hP
          have hD : va_D Aw (([(u 0, .inl (G.2 1, 64, .inr (.inl zE_6))), (u 1, .inl (G.2 0, 8, .inl (F 1))), (u 2, .inl (G.2 0, 3, .inl (F 2))), (u 3, .inl (G.2 0, 3, .inl (F 3))), (u 4, .inl (G.2 0, 40, .inl (F 4))), (u 5, .inl (G.2 0, 40, .inl (F 5))), (u 6, .inl (G.2 0, 9, .inl (F 6))), (u 7, .inl (G.2 0, 12, .inl (F 7))), (u 8, .inl (G.2 0, 12, .inl (F 8))), (u 9, .inl (G.2 0, 10, .inl (upd (F 9) 1 (nI (N 1 + 1)))))] : va_W) ++ w) := hD
          have hRn := sLR_leave (p := nI jp) hR hzE_6
          refine lv_aload_n hx hb dL_people_258 rfl (lv_at hl 0 rfl) ?_
          refine lv_iload hx hb dL_people_259 (lv_at hl 11 rfl) ?_
          have hkz_261 : sK2 (sIx (nI jp) 9) (decide (T 2 (nI jp).toNatClampNeg = 0)) = 0 := (sK2_ok (sIx_y hjp (by omega)) (decide_eq_true hlf))
          have hzb_261 : (8 + zmc (sK2 (sIx (nI jp) 9) (decide (T 2 (nI jp).toNatClampNeg = 0))) (N 1) (N 1 + 1)) ≤ 136 ∧ (200 + zms (sK2 (sIx (nI jp) 9) (decide (T 2 (nI jp).toNatClampNeg = 0))) (N 1) (N 1 + 1)) ≤ 744 := zmc_b8 (show N 1 + 1 ≤ 128 by omega)
          refine z_xR (G := G) (w := w) (c2 := 156) (s2 := 964) (vx_runSX (hh := [(0, 6, 9, 14), (0, 6, 14, 18)]) (As := [.ref (r 0), .int (nI jp)]) (rest := []) ⟨hx, hb, hml, hown, hts⟩ (h_leave l hst G d r A mc g N T w K (nI jp) Hz.size hC hJ.1.1 (by omega) ) (vx_cwSW 2 hts gL_people_L_leave rfl rfl rfl (by decide +kernel) ⟨Nat.le_of_ble_eq_true rfl, Nat.le_of_ble_eq_true rfl⟩) (z_hs hK (z_apR hP) (z_dR hD) hZ hLx hS hA) rfl rfl hl.1 rfl (lv_room (Nat.le_of_ble_eq_true rfl)) dL_people_261 ⟨(show 20 + (8 + zmc (sK2 (sIx (nI jp) 9) (decide (T 2 (nI jp).toNatClampNeg = 0))) (N 1) (N 1 + 1)) ≤ 400 by omega), (show 220 + (200 + zms (sK2 (sIx (nI jp) 9) (decide (T 2 (nI jp).toNatClampNeg = 0))) (N 1) (N 1 + 1)) ≤ 2400 by omega)⟩) hP hD hS hA (show 20 + (8 + zmc (sK2 (sIx (nI jp) 9) (decide (T 2 (nI jp).toNatClampNeg = 0))) (N 1) (N 1 + 1)) ≤ 156 by omega) (show 220 + (200 + zms (sK2 (sIx (nI jp) 9) (decide (T 2 (nI jp).toNatClampNeg = 0))) (N 1) (N 1 + 1)) ≤ 964 by omega) (fun rz_7 zw_7 Hz Lz hq hP hD hS => ?_)
          obtain ⟨hr9, A, mc, g, hC⟩ := hq.1 hkz_261
          rw [hr9]
          refine W.eq (g2 := F0 m 264 ls [.int (nI (sCnt (fun t => decide (T 10 t = 0) && decide (T 7 t = nI jp)) (N 2)))]) (by first | (rfl; done) | (rfl; rfl)) ?_
          refine lv_iload hx hb dL_people_264 (lv_at hl 12 rfl) ?_
          refine lv_icmp_ne (tgt := 273) hx hb dL_people_266 (by decide) (fun zc_8 => absurd rfl zc_8) (fun _ => ?_)
          refine lv_iconst (v := 1) hx hb dL_people_269 (by decide) ?_
          refine lv_goto (tgt := 274) hx hb dL_people_270 (by decide) ?_
          exact z_widen (k := 400) (n := 2400) (show 156 ≤ 400 by omega) (show 964 ≤ 2400 by omega) (W.zret (v := 1) hx hb hr rfl (fun t ht hW => ⟨⟨1, (([(u 0, .inl (G.2 1, 64, .inr (.inl zE_6))), (u 1, .inl (G.2 0, 8, .inl (F 1))), (u 2, .inl (G.2 0, 3, .inl (F 2))), (u 3, .inl (G.2 0, 3, .inl (F 3))), (u 4, .inl (G.2 0, 40, .inl (F 4))), (u 5, .inl (G.2 0, 40, .inl (F 5))), (u 6, .inl (G.2 0, 9, .inl (F 6))), (u 7, .inl (G.2 0, 12, .inl (F 7))), (u 8, .inl (G.2 0, 12, .inl (F 8))), (u 9, .inl (G.2 0, 10, .inl (upd (F 9) 1 (nI (N 1 + 1)))))] : va_W) ++ zw_7), rfl, ⟨rfl, ((nLeave N T (nI jp)).1), ((nLeave N T (nI jp)).2), zE_6, (va_up F 9 (upd (F 9) 1 (nI (N 1 + 1)))), zw_7, rfl, ⟨A, mc, g, hC⟩, hRn, ((sLJ_leave hJ hh9.1 hkz_261).mono (by omega))⟩, ⟨by rw [ht]; exact hP, hD⟩⟩, hS.F ht⟩) hS.2.2 dL_people_274 hlocks)
        · skip
          have zd_5 := Int32.not_le.mp zc_5
          have zhc := Nat.lt_of_not_le (fun z => zc_5 ((nI_leI (by omega) (by omega)).mpr z))
          have hlt : i < N 2 := zhc
          refine lv_iload hx hb dL_people_217 (lv_at hl 12 rfl) ?_
          refine lv_aload hx hb dL_people_219 (lv_at hl 4 rfl) ?_
          refine lv_aload hx hb dL_people_221 (lv_at hl 10 rfl) ?_
          refine lv_iload hx hb dL_people_223 (lv_at hl 13 rfl) ?_
          refine z_csi (va_Run.run (va_runS (As := [.ref (u 0), .ref (u 9), .int (nI i)]) (rest := [.int (nI (sCnt (fun t => decide (T 10 t = 0) && decide (T 7 t = nI jp)) i))]) ⟨hx, hb, hml, hown, hts⟩ (c_L_hanger l G u E F N T (nI i) hQ (vp_in_nI hlt (by omega))) (va_cwS 3 hts gL_people_L_hanger rfl rfl rfl (by decide +kernel) ⟨Nat.le_of_ble_eq_true rfl, Nat.le_of_ble_eq_true rfl⟩) (z_ps hK (z_apL hP)) rfl rfl hl.1 rfl (lv_room (Nat.le_of_ble_eq_true rfl)) dL_people_225 ⟨(show 20 + 0 ≤ 400 by omega), (show 220 + 0 ≤ 2400 by omega)⟩)) (fun zr_9 hzr_9 => ?_)
          subst hzr_9
          refine lv_iload hx hb dL_people_228 (lv_at hl 11 rfl) ?_
          refine lv_icmp_ne (tgt := 237) hx hb dL_people_230 (by decide) (fun zc_10 => ?_) (fun zc_10 => ?_)
          · skip
            have hiz : ¬ (T 10 i = 0 ∧ T 7 i = nI jp) := fun z => zc_10 ((sHo_is hQ.2.2.2.2.2.2.2.1 hlt hi2 hjp).mpr z)
            refine lv_iconst (v := 0) hx hb dL_people_237 (by decide) ?_
            refine lv_iadd hx hb dL_people_238 ?_
            refine lv_istore (lv' := [(12, .int ((nI (sCnt (fun t => decide (T 10 t = 0) && decide (T 7 t = nI jp)) i)) + 0)), (0, .ref (r 0)), (1, .int act), (2, .int x), (3, .int y), (4, .ref (u 0)), (5, .ref (u 1)), (6, .ref (u 2)), (7, .ref (u 3)), (8, .ref (u 4)), (9, .ref (u 6)), (10, .ref (u 9)), (11, .int (nI jp)), (13, .int (nI i))]) hx hb dL_people_239 hl (by decide) rfl (fun ls hl => ?_)
            refine lv_iinc (v := (nI (i + 1))) (lv' := [(13, .int (nI (i + 1))), (12, .int ((nI (sCnt (fun t => decide (T 10 t = 0) && decide (T 7 t = nI jp)) i)) + 0)), (0, .ref (r 0)), (1, .int act), (2, .int x), (3, .int y), (4, .ref (u 0)), (5, .ref (u 1)), (6, .ref (u 2)), (7, .ref (u 3)), (8, .ref (u 4)), (9, .ref (u 6)), (10, .ref (u 9)), (11, .int (nI jp))]) hx hb dL_people_241 hl (k := 13) rfl (by first | exact nI_1 _ | rfl) (by decide) rfl (fun ls hl => ?_)
            refine lv_goto (tgt := 208) hx hb dL_people_244 (by decide) ?_
            have hl2 := lv_sub (l' := [(0, .ref (r 0)), (1, .int act), (2, .int x), (3, .int y), (4, .ref (u 0)), (5, .ref (u 1)), (6, .ref (u 2)), (7, .ref (u 3)), (8, .ref (u 4)), (9, .ref (u 6)), (10, .ref (u 9)), (11, .int (nI jp)), (12, .int ((nI (sCnt (fun t => decide (T 10 t = 0) && decide (T 7 t = nI jp)) i)) + 0)), (13, .int (nI (i + 1)))]) hl [2, 3, 4, 5, 6, 7, 8, 9, 10, 11, 12, 13, 1, 0] rfl
            have e_12 : (nI (sCnt (fun t => decide (T 10 t = 0) && decide (T 7 t = nI jp)) i)) + 0 = nI (sCnt (fun t => decide (T 10 t = 0) && decide (T 7 t = nI jp)) (i + 1)) := by simp [sCnt, nI_succ, hiz]
            have hl2 : lv_has ls 14 [(0, .ref (r 0)), (1, .int act), (2, .int x), (3, .int y), (4, .ref (u 0)), (5, .ref (u 1)), (6, .ref (u 2)), (7, .ref (u 3)), (8, .ref (u 4)), (9, .ref (u 6)), (10, .ref (u 9)), (11, .int (nI jp)), (12, .int (nI (sCnt (fun t => decide (T 10 t = 0) && decide (T 7 t = nI jp)) (i + 1)))), (13, .int (nI (i + 1)))] := by rw [← e_12]; exact hl2
            exact z_widen (show 20 ≤ 20 by omega) (show 220 ≤ 220 by omega) (ih (i + 1) (by omega) (by omega)   _ _ hP hD hS ls hl2)
          · skip
            have hiz := (sHo_is hQ.2.2.2.2.2.2.2.1 hlt hi2 hjp).mp zc_10
            refine lv_iconst (v := 1) hx hb dL_people_233 (by decide) ?_
            refine lv_goto (tgt := 238) hx hb dL_people_234 (by decide) ?_
            refine lv_iadd hx hb dL_people_238 ?_
            refine lv_istore (lv' := [(12, .int ((nI (sCnt (fun t => decide (T 10 t = 0) && decide (T 7 t = nI jp)) i)) + 1)), (0, .ref (r 0)), (1, .int act), (2, .int x), (3, .int y), (4, .ref (u 0)), (5, .ref (u 1)), (6, .ref (u 2)), (7, .ref (u 3)), (8, .ref (u 4)), (9, .ref (u 6)), (10, .ref (u 9)), (11, .int (nI jp)), (13, .int (nI i))]) hx hb dL_people_239 hl (by decide) rfl (fun ls hl => ?_)
            refine lv_iinc (v := (nI (i + 1))) (lv' := [(13, .int (nI (i + 1))), (12, .int ((nI (sCnt (fun t => decide (T 10 t = 0) && decide (T 7 t = nI jp)) i)) + 1)), (0, .ref (r 0)), (1, .int act), (2, .int x), (3, .int y), (4, .ref (u 0)), (5, .ref (u 1)), (6, .ref (u 2)), (7, .ref (u 3)), (8, .ref (u 4)), (9, .ref (u 6)), (10, .ref (u 9)), (11, .int (nI jp))]) hx hb dL_people_241 hl (k := 13) rfl (by first | exact nI_1 _ | rfl) (by decide) rfl (fun ls hl => ?_)
            refine lv_goto (tgt := 208) hx hb dL_people_244 (by decide) ?_
            have hl2 := lv_sub (l' := [(0, .ref (r 0)), (1, .int act), (2, .int x), (3, .int y), (4, .ref (u 0)), (5, .ref (u 1)), (6, .ref (u 2)), (7, .ref (u 3)), (8, .ref (u 4)), (9, .ref (u 6)), (10, .ref (u 9)), (11, .int (nI jp)), (12, .int ((nI (sCnt (fun t => decide (T 10 t = 0) && decide (T 7 t = nI jp)) i)) + 1)), (13, .int (nI (i + 1)))]) hl [2, 3, 4, 5, 6, 7, 8, 9, 10, 11, 12, 13, 1, 0] rfl
            have e_12 : (nI (sCnt (fun t => decide (T 10 t = 0) && decide (T 7 t = nI jp)) i)) + 1 = nI (sCnt (fun t => decide (T 10 t = 0) && decide (T 7 t = nI jp)) (i + 1)) := by simp [sCnt, nI_succ, hiz.1, hiz.2]
            have hl2 : lv_has ls 14 [(0, .ref (r 0)), (1, .int act), (2, .int x), (3, .int y), (4, .ref (u 0)), (5, .ref (u 1)), (6, .ref (u 2)), (7, .ref (u 3)), (8, .ref (u 4)), (9, .ref (u 6)), (10, .ref (u 9)), (11, .int (nI jp)), (12, .int (nI (sCnt (fun t => decide (T 10 t = 0) && decide (T 7 t = nI jp)) (i + 1)))), (13, .int (nI (i + 1)))] := by rw [← e_12]; exact hl2
            exact z_widen (show 20 ≤ 20 by omega) (show 220 ≤ 220 by omega) (ih (i + 1) (by omega) (by omega)   _ _ hP hD hS ls hl2)
    exact z_widen (show 8 ≤ 20 by omega) (show 200 ≤ 220 by omega) (key_208 (N 2 + 1) 0 (Nat.zero_le _) (by omega)   _ _ hP hD hS ls (lv_sub hl [2, 3, 4, 5, 6, 7, 8, 9, 10, 11, 12, 13, 1, 0] rfl))
  · skip
    have hlf := zc_4
    refine lv_aload_n hx hb dL_people_184 rfl (lv_at hl 0 rfl) ?_
    refine lv_iload hx hb dL_people_185 (lv_at hl 11 rfl) ?_
    have hkz_187 : sK2 (sIx (nI jp) 9) (decide (T 2 (nI jp).toNatClampNeg = 0)) = 2 := (sK2_2' (sIx_y hjp (by omega)) (decide_eq_false hlf))
    have hzb_187 : (8 + zmc (sK2 (sIx (nI jp) 9) (decide (T 2 (nI jp).toNatClampNeg = 0))) (N 1) (N 1 + 1)) ≤ 8 ∧ (200 + zms (sK2 (sIx (nI jp) 9) (decide (T 2 (nI jp).toNatClampNeg = 0))) (N 1) (N 1 + 1)) ≤ 200 := zmc_n8 (by rw [hkz_187]; decide)
    refine z_xR (G := G) (w := w) (c2 := 16) (s2 := 400) (vx_runSX (hh := [(0, 6, 9, 14), (0, 6, 14, 18)]) (As := [.ref (r 0), .int (nI jp)]) (rest := []) ⟨hx, hb, hml, hown, hts⟩ (h_leave l hst G d r A mc g N T w K (nI jp) Hz.size hC hJ.1.1 (by omega) ) (vx_cwSW 2 hts gL_people_L_leave rfl rfl rfl (by decide +kernel) ⟨Nat.le_of_ble_eq_true rfl, Nat.le_of_ble_eq_true rfl⟩) (z_hs hK (z_apR hP) (z_dR hD) hZ hLx hS hA) rfl rfl hl.1 rfl (lv_room (Nat.le_of_ble_eq_true rfl)) dL_people_187 ⟨(show 8 + (8 + zmc (sK2 (sIx (nI jp) 9) (decide (T 2 (nI jp).toNatClampNeg = 0))) (N 1) (N 1 + 1)) ≤ 400 by omega), (show 200 + (200 + zms (sK2 (sIx (nI jp) 9) (decide (T 2 (nI jp).toNatClampNeg = 0))) (N 1) (N 1 + 1)) ≤ 2400 by omega)⟩) hP hD hS hA (show 8 + (8 + zmc (sK2 (sIx (nI jp) 9) (decide (T 2 (nI jp).toNatClampNeg = 0))) (N 1) (N 1 + 1)) ≤ 16 by omega) (show 200 + (200 + zms (sK2 (sIx (nI jp) 9) (decide (T 2 (nI jp).toNatClampNeg = 0))) (N 1) (N 1 + 1)) ≤ 400 by omega) (fun rz_11 zw_11 Hz Lz hq hP hD hS => ?_)
    obtain ⟨hr9, hw9⟩ := hq.2 (by rw [hkz_187]; decide)
    rw [hw9] at hP hD
    rw [hr9, show zCx [-7100, -7300] (sK2 (sIx (nI jp) 9) (decide (T 2 (nI jp).toNatClampNeg = 0))) = (-7300) from by rw [hkz_187]; rfl]
    refine lv_sipush (v := (-7300)) hx hb dL_people_190 (by decide) ?_
    refine lv_icmp_ne (tgt := 200) hx hb dL_people_193 (by decide) (fun zc_12 => absurd zc_12 (by decide)) (fun _ => ?_)
    refine lv_iconst (v := 1) hx hb dL_people_196 (by decide) ?_
    refine lv_goto (tgt := 201) hx hb dL_people_197 (by decide) ?_
    exact z_widen (k := 400) (n := 2400) (show 16 ≤ 400 by omega) (show 400 ≤ 2400 by omega) (W.zret (v := 1) hx hb hr rfl (fun t ht hW => ⟨⟨1, (([(u 0, .inl (G.2 1, 64, .inr (.inl E))), (u 1, .inl (G.2 0, 8, .inl (F 1))), (u 2, .inl (G.2 0, 3, .inl (F 2))), (u 3, .inl (G.2 0, 3, .inl (F 3))), (u 4, .inl (G.2 0, 40, .inl (F 4))), (u 5, .inl (G.2 0, 40, .inl (F 5))), (u 6, .inl (G.2 0, 9, .inl (F 6))), (u 7, .inl (G.2 0, 12, .inl (F 7))), (u 8, .inl (G.2 0, 12, .inl (F 8))), (u 9, .inl (G.2 0, 10, .inl (F 9)))] : va_W) ++ w), rfl, ⟨rfl, N, T, E, F, w, rfl, ⟨A, mc, g, hC⟩, hR, (hJ.mono (by omega))⟩, ⟨by rw [ht]; exact hP, hD⟩⟩, hS.F ht⟩) hS.2.2 dL_people_201 hlocks)

set_option maxHeartbeats 4000000 in
set_option maxRecDepth 100000 in
theorem vpeople_296 {p : Program} {l : Launch} {e : Env} {s : State} {m : MethodId} {below : List Frame} {meth : Method} {c : Code} {G : zG} {d : Nat} {r u : Nat → Nat} {act x y : Int32} {Aw : Nat → Prop} (hst : l.stackTraces = false) (hx : p.tables.exec = Jvm.exec) (hb : c.code = cL_people) (hr : meth.sig.returnType = some .boolean) (hml : c.maxLocals = 14) (hown : s.vm.findClass RL = some m.cls) (hts : ∀ w ∈ wsL_people, w.before ([.ref (r 0), .int act, .int x, .int y, .ref (u 0), .ref (u 1), .ref (u 2), .ref (u 3), .ref (u 4), .ref (u 6), .ref (u 9)] : List Value).toArray s = true) (hlocks : meth.locks = false) (hK : va_K G.1 vwCl (zT G.2) s) (hZ : zCe Aw d s s.heap) (hLx : zLx s) (hA : ∀ q : Nat, s.heap.size ≤ q → Aw q) {A : Nat → Nat} {mc : Nat → Int32} {g : Nat → Nat → Int32} {N : Nat → Nat} {T : Nat → Nat → Int32} {w : va_W} {E : Nat → Int64} {F : Nat → Nat → Int32} {K : Nat} (hC : sCQ G d r A mc g N T w) (hR : sLR N T E F) (hJ : sLJ N T K) (hK5 : K ≤ 400) (hh9 : N 1 ≤ 90 ∧ N 0 ≤ 1900) {jp hh : Nat} (hhh : 1 ≤ hh ∧ hh ≤ 9) {H : Heap} {locs : List Loc} (hP : va_P G.1 vwCl (([(u 0, .inl (G.2 1, 64, .inr (.inl E))), (u 1, .inl (G.2 0, 8, .inl (F 1))), (u 2, .inl (G.2 0, 3, .inl (F 2))), (u 3, .inl (G.2 0, 3, .inl (F 3))), (u 4, .inl (G.2 0, 40, .inl (F 4))), (u 5, .inl (G.2 0, 40, .inl (F 5))), (u 6, .inl (G.2 0, 9, .inl (F 6))), (u 7, .inl (G.2 0, 12, .inl (F 7))), (u 8, .inl (G.2 0, 12, .inl (F 8))), (u 9, .inl (G.2 0, 10, .inl (F 9)))] : va_W) ++ w) H) (hD : va_D Aw (([(u 0, .inl (G.2 1, 64, .inr (.inl E))), (u 1, .inl (G.2 0, 8, .inl (F 1))), (u 2, .inl (G.2 0, 3, .inl (F 2))), (u 3, .inl (G.2 0, 3, .inl (F 3))), (u 4, .inl (G.2 0, 40, .inl (F 4))), (u 5, .inl (G.2 0, 40, .inl (F 5))), (u 6, .inl (G.2 0, 9, .inl (F 6))), (u 7, .inl (G.2 0, 12, .inl (F 7))), (u 8, .inl (G.2 0, 12, .inl (F 8))), (u 9, .inl (G.2 0, 10, .inl (F 9)))] : va_W) ++ w)) (hS : va_S Aw s.heap H locs) {ls : Array Slot} (hl : lv_has ls 14 [(0, .ref (r 0)), (1, .int act), (2, .int x), (3, .int y), (4, .ref (u 0)), (5, .ref (u 1)), (6, .ref (u 2)), (7, .ref (u 3)), (8, .ref (u 4)), (9, .ref (u 6)), (10, .ref (u 9)), (11, .int (nI jp)), (12, .int (nI hh))]) : W p l e (headSpec wsL_people ({ frames := 9, cells := 400, slots := 2400, locals := 222 })).room s m ([.ref (r 0), .int act, .int x, .int y, .ref (u 0), .ref (u 1), .ref (u 2), .ref (u 3), .ref (u 4), .ref (u 6), .ref (u 9)] : List Value).toArray below meth c H locs 0 0 (MQ below (va_Qi (fun (r1 : Int32) (wz : va_W) => r1 = 1 ∧ ∃ (N2 : Nat → Nat) (T2 : Nat → Nat → Int32) (E2 : Nat → Int64) (F2 : Nat → Nat → Int32) (w2 : va_W), wz = LW G u E2 F2 ++ w2 ∧ sCO G d r N2 T2 w2 ∧ sLR N2 T2 E2 F2 ∧ sLJ N2 T2 (K + 2)) (zB G Aw) Aw) ([.ref (r 0), .int act, .int x, .int y, .ref (u 0), .ref (u 1), .ref (u 2), .ref (u 3), .ref (u 4), .ref (u 6), .ref (u 9)] : List Value).toArray s 400 2400 Aw) (F0 m 296 ls []) := by
  have hQ := hR.q hJ
  obtain ⟨hg0, hg1, hg2, hg3, hg4, hg5, hg6, hg7, hg8⟩ := hR.2.2.2.2.2.2.2.2.2
  obtain ⟨⟨hb1, hb0, hb3, hb4, hb5⟩, hlv, hlm, hLH⟩ := id hJ.2
  obtain ⟨⟨hi0, hi2, hi3, hi4, hi5, hi6, hi1⟩, hiB, hiE, hiT, hiA, hiA0, hiM, hiK, hiK0, hiX⟩ := id hJ.1.1
  have hLG := hJ.1.2
  have hS0z : va_S Aw s.heap s.heap [] := va_S.rf
  refine lv_aload_n hx hb dL_people_296 rfl (lv_at hl 0 rfl) ?_
  refine lv_iconst (v := 0) hx hb dL_people_297 (by decide) ?_
  have hkz_298 : sK2 (sIn (0 : Int32) 1 100) (decide (nI (N 0) + (0 : Int32) ≤ 2000)) = 1 := (sK2_1' (show sIn 0 1 100 = false from by decide))
  have hzb_298 : (8 + zmc (sK2 (sIn (0 : Int32) 1 100) (decide (nI (N 0) + (0 : Int32) ≤ 2000))) (N 1) ((sHours (0 : Int32).toNatClampNeg N T).1 1)) ≤ 8 ∧ (200 + zms (sK2 (sIn (0 : Int32) 1 100) (decide (nI (N 0) + (0 : Int32) ≤ 2000))) (N 1) ((sHours (0 : Int32).toNatClampNeg N T).1 1)) ≤ 200 := zmc_n8 (by rw [hkz_298]; decide)
  refine z_xR (G := G) (w := w) (c2 := 8) (s2 := 200) (vx_runSX (hh := [(0, 6, 9, 16), (0, 6, 14, 18)]) (As := [.ref (r 0), .int 0]) (rest := []) ⟨hx, hb, hml, hown, hts⟩ (h_advance l hst G d r A mc g N T w K (0 : Int32) H.size hC hJ.1.1 (by omega) ) (vx_cwSW 2 hts gL_people_L_advance rfl rfl rfl (by decide +kernel) ⟨Nat.le_of_ble_eq_true rfl, Nat.le_of_ble_eq_true rfl⟩) (z_hs hK (z_apR hP) (z_dR hD) hZ hLx hS hA) rfl rfl hl.1 rfl (lv_room (Nat.le_of_ble_eq_true rfl)) dL_people_298 ⟨(show 0 + (8 + zmc (sK2 (sIn (0 : Int32) 1 100) (decide (nI (N 0) + (0 : Int32) ≤ 2000))) (N 1) ((sHours (0 : Int32).toNatClampNeg N T).1 1)) ≤ 400 by omega), (show 0 + (200 + zms (sK2 (sIn (0 : Int32) 1 100) (decide (nI (N 0) + (0 : Int32) ≤ 2000))) (N 1) ((sHours (0 : Int32).toNatClampNeg N T).1 1)) ≤ 2400 by omega)⟩) hP hD hS hA (show 0 + (8 + zmc (sK2 (sIn (0 : Int32) 1 100) (decide (nI (N 0) + (0 : Int32) ≤ 2000))) (N 1) ((sHours (0 : Int32).toNatClampNeg N T).1 1)) ≤ 8 by omega) (show 0 + (200 + zms (sK2 (sIn (0 : Int32) 1 100) (decide (nI (N 0) + (0 : Int32) ≤ 2000))) (N 1) ((sHours (0 : Int32).toNatClampNeg N T).1 1)) ≤ 200 by omega) (fun rz_1 zw_1 Hz Lz hq hP hD hS => ?_)
  obtain ⟨hr9, hw9⟩ := hq.2 (by rw [hkz_298]; decide)
  rw [hw9] at hP hD
  rw [hr9, show zCx [-7200, -7300] (sK2 (sIn (0 : Int32) 1 100) (decide (nI (N 0) + (0 : Int32) ≤ 2000))) = (-7200) from by rw [hkz_298]; rfl]
  refine lv_sipush (v := (-7200)) hx hb dL_people_301 (by decide) ?_
  refine lv_icmp_ne (tgt := 331) hx hb dL_people_304 (by decide) (fun zc_2 => absurd zc_2 (by decide)) (fun _ => ?_)
  refine lv_aload_n hx hb dL_people_307 rfl (lv_at hl 0 rfl) ?_
  refine lv_bipush (v := 101) hx hb dL_people_308 (by decide) ?_
  have hkz_310 : sK2 (sIn (101 : Int32) 1 100) (decide (nI (N 0) + (101 : Int32) ≤ 2000)) = 1 := (sK2_1' (show sIn 101 1 100 = false from by decide))
  have hzb_310 : (8 + zmc (sK2 (sIn (101 : Int32) 1 100) (decide (nI (N 0) + (101 : Int32) ≤ 2000))) (N 1) ((sHours (101 : Int32).toNatClampNeg N T).1 1)) ≤ 8 ∧ (200 + zms (sK2 (sIn (101 : Int32) 1 100) (decide (nI (N 0) + (101 : Int32) ≤ 2000))) (N 1) ((sHours (101 : Int32).toNatClampNeg N T).1 1)) ≤ 200 := zmc_n8 (by rw [hkz_310]; decide)
  refine z_xR (G := G) (w := w) (c2 := 16) (s2 := 400) (vx_runSX (hh := [(0, 6, 9, 16), (0, 6, 14, 18)]) (As := [.ref (r 0), .int 101]) (rest := []) ⟨hx, hb, hml, hown, hts⟩ (h_advance l hst G d r A mc g N T w K (101 : Int32) Hz.size hC hJ.1.1 (by omega) ) (vx_cwSW 2 hts gL_people_L_advance rfl rfl rfl (by decide +kernel) ⟨Nat.le_of_ble_eq_true rfl, Nat.le_of_ble_eq_true rfl⟩) (z_hs hK (z_apR hP) (z_dR hD) hZ hLx hS hA) rfl rfl hl.1 rfl (lv_room (Nat.le_of_ble_eq_true rfl)) dL_people_310 ⟨(show 8 + (8 + zmc (sK2 (sIn (101 : Int32) 1 100) (decide (nI (N 0) + (101 : Int32) ≤ 2000))) (N 1) ((sHours (101 : Int32).toNatClampNeg N T).1 1)) ≤ 400 by omega), (show 200 + (200 + zms (sK2 (sIn (101 : Int32) 1 100) (decide (nI (N 0) + (101 : Int32) ≤ 2000))) (N 1) ((sHours (101 : Int32).toNatClampNeg N T).1 1)) ≤ 2400 by omega)⟩) hP hD hS hA (show 8 + (8 + zmc (sK2 (sIn (101 : Int32) 1 100) (decide (nI (N 0) + (101 : Int32) ≤ 2000))) (N 1) ((sHours (101 : Int32).toNatClampNeg N T).1 1)) ≤ 16 by omega) (show 200 + (200 + zms (sK2 (sIn (101 : Int32) 1 100) (decide (nI (N 0) + (101 : Int32) ≤ 2000))) (N 1) ((sHours (101 : Int32).toNatClampNeg N T).1 1)) ≤ 400 by omega) (fun rz_3 zw_3 Hz Lz hq hP hD hS => ?_)
  obtain ⟨hr9, hw9⟩ := hq.2 (by rw [hkz_310]; decide)
  rw [hw9] at hP hD
  rw [hr9, show zCx [-7200, -7300] (sK2 (sIn (101 : Int32) 1 100) (decide (nI (N 0) + (101 : Int32) ≤ 2000))) = (-7200) from by rw [hkz_310]; rfl]
  refine lv_sipush (v := (-7200)) hx hb dL_people_313 (by decide) ?_
  refine lv_icmp_ne (tgt := 331) hx hb dL_people_316 (by decide) (fun zc_4 => absurd zc_4 (by decide)) (fun _ => ?_)
  refine lv_aload_n hx hb dL_people_319 rfl (lv_at hl 0 rfl) ?_
  refine lv_ldc (v := (-2147483648)) hx hb hown (hts _ (List.mem_of_getElem? (i := 1) rfl)) dL_people_320 ?_
  have hkz_322 : sK2 (sIn (-2147483648 : Int32) 1 100) (decide (nI (N 0) + (-2147483648 : Int32) ≤ 2000)) = 1 := (sK2_1' (show sIn (-2147483648) 1 100 = false from by decide))
  have hzb_322 : (8 + zmc (sK2 (sIn (-2147483648 : Int32) 1 100) (decide (nI (N 0) + (-2147483648 : Int32) ≤ 2000))) (N 1) ((sHours (-2147483648 : Int32).toNatClampNeg N T).1 1)) ≤ 8 ∧ (200 + zms (sK2 (sIn (-2147483648 : Int32) 1 100) (decide (nI (N 0) + (-2147483648 : Int32) ≤ 2000))) (N 1) ((sHours (-2147483648 : Int32).toNatClampNeg N T).1 1)) ≤ 200 := zmc_n8 (by rw [hkz_322]; decide)
  refine z_xR (G := G) (w := w) (c2 := 24) (s2 := 600) (vx_runSX (hh := [(0, 6, 9, 16), (0, 6, 14, 18)]) (As := [.ref (r 0), .int (-2147483648)]) (rest := []) ⟨hx, hb, hml, hown, hts⟩ (h_advance l hst G d r A mc g N T w K (-2147483648 : Int32) Hz.size hC hJ.1.1 (by omega) ) (vx_cwSW 2 hts gL_people_L_advance rfl rfl rfl (by decide +kernel) ⟨Nat.le_of_ble_eq_true rfl, Nat.le_of_ble_eq_true rfl⟩) (z_hs hK (z_apR hP) (z_dR hD) hZ hLx hS hA) rfl rfl hl.1 rfl (lv_room (Nat.le_of_ble_eq_true rfl)) dL_people_322 ⟨(show 16 + (8 + zmc (sK2 (sIn (-2147483648 : Int32) 1 100) (decide (nI (N 0) + (-2147483648 : Int32) ≤ 2000))) (N 1) ((sHours (-2147483648 : Int32).toNatClampNeg N T).1 1)) ≤ 400 by omega), (show 400 + (200 + zms (sK2 (sIn (-2147483648 : Int32) 1 100) (decide (nI (N 0) + (-2147483648 : Int32) ≤ 2000))) (N 1) ((sHours (-2147483648 : Int32).toNatClampNeg N T).1 1)) ≤ 2400 by omega)⟩) hP hD hS hA (show 16 + (8 + zmc (sK2 (sIn (-2147483648 : Int32) 1 100) (decide (nI (N 0) + (-2147483648 : Int32) ≤ 2000))) (N 1) ((sHours (-2147483648 : Int32).toNatClampNeg N T).1 1)) ≤ 24 by omega) (show 400 + (200 + zms (sK2 (sIn (-2147483648 : Int32) 1 100) (decide (nI (N 0) + (-2147483648 : Int32) ≤ 2000))) (N 1) ((sHours (-2147483648 : Int32).toNatClampNeg N T).1 1)) ≤ 600 by omega) (fun rz_5 zw_5 Hz Lz hq hP hD hS => ?_)
  obtain ⟨hr9, hw9⟩ := hq.2 (by rw [hkz_322]; decide)
  rw [hw9] at hP hD
  rw [hr9, show zCx [-7200, -7300] (sK2 (sIn (-2147483648 : Int32) 1 100) (decide (nI (N 0) + (-2147483648 : Int32) ≤ 2000))) = (-7200) from by rw [hkz_322]; rfl]
  refine lv_sipush (v := (-7200)) hx hb dL_people_325 (by decide) ?_
  refine lv_icmp_eq (tgt := 333) hx hb dL_people_328 (by decide) (fun _ => ?_) (fun zc_6 => absurd zc_6 (by decide))
  refine lv_iconst (v := 0) hx hb dL_people_333 (by decide) ?_
  refine lv_istore (lv' := [(13, .int 0), (0, .ref (r 0)), (1, .int act), (2, .int x), (3, .int y), (4, .ref (u 0)), (5, .ref (u 1)), (6, .ref (u 2)), (7, .ref (u 3)), (8, .ref (u 4)), (9, .ref (u 6)), (10, .ref (u 9)), (11, .int (nI jp)), (12, .int (nI hh))]) hx hb dL_people_334 hl (by decide) rfl (fun ls hl => ?_)
  have key_336 : ∀ (n i : Nat), i ≤ hh → hh < i + n → ∀ (E9 : Nat → Int64) (F9 : Nat → Nat → Int32), sLR (sHours i N T).1 (sHours i N T).2 E9 F9 → ∀ (Hz : Heap) (Lz : List Loc), va_P G.1 vwCl (([(u 0, .inl (G.2 1, 64, .inr (.inl E9))), (u 1, .inl (G.2 0, 8, .inl (F9 1))), (u 2, .inl (G.2 0, 3, .inl (F9 2))), (u 3, .inl (G.2 0, 3, .inl (F9 3))), (u 4, .inl (G.2 0, 40, .inl (F9 4))), (u 5, .inl (G.2 0, 40, .inl (F9 5))), (u 6, .inl (G.2 0, 9, .inl (F9 6))), (u 7, .inl (G.2 0, 12, .inl (F9 7))), (u 8, .inl (G.2 0, 12, .inl (F9 8))), (u 9, .inl (G.2 0, 10, .inl (F9 9)))] : va_W) ++ w) Hz → va_D Aw (([(u 0, .inl (G.2 1, 64, .inr (.inl E9))), (u 1, .inl (G.2 0, 8, .inl (F9 1))), (u 2, .inl (G.2 0, 3, .inl (F9 2))), (u 3, .inl (G.2 0, 3, .inl (F9 3))), (u 4, .inl (G.2 0, 40, .inl (F9 4))), (u 5, .inl (G.2 0, 40, .inl (F9 5))), (u 6, .inl (G.2 0, 9, .inl (F9 6))), (u 7, .inl (G.2 0, 12, .inl (F9 7))), (u 8, .inl (G.2 0, 12, .inl (F9 8))), (u 9, .inl (G.2 0, 10, .inl (F9 9)))] : va_W) ++ w) → va_S Aw s.heap Hz Lz → ∀ ls : Array Slot, lv_has ls 14 [(0, .ref (r 0)), (1, .int act), (2, .int x), (3, .int y), (4, .ref (u 0)), (5, .ref (u 1)), (6, .ref (u 2)), (7, .ref (u 3)), (8, .ref (u 4)), (9, .ref (u 6)), (10, .ref (u 9)), (12, .int (nI hh)), (13, .int (nI i))] → W p l e (headSpec wsL_people ({ frames := 9, cells := 400, slots := 2400, locals := 222 })).room s m ([.ref (r 0), .int act, .int x, .int y, .ref (u 0), .ref (u 1), .ref (u 2), .ref (u 3), .ref (u 4), .ref (u 6), .ref (u 9)] : List Value).toArray below meth c Hz Lz (30) (700) (MQ below (va_Qi (fun (r1 : Int32) (wz : va_W) => r1 = 1 ∧ ∃ (N2 : Nat → Nat) (T2 : Nat → Nat → Int32) (E2 : Nat → Int64) (F2 : Nat → Nat → Int32) (w2 : va_W), wz = LW G u E2 F2 ++ w2 ∧ sCO G d r N2 T2 w2 ∧ sLR N2 T2 E2 F2 ∧ sLJ N2 T2 (K + 2)) (zB G Aw) Aw) ([.ref (r 0), .int act, .int x, .int y, .ref (u 0), .ref (u 1), .ref (u 2), .ref (u 3), .ref (u 4), .ref (u 6), .ref (u 9)] : List Value).toArray s 400 2400 Aw) (F0 m 336 ls []) := by
    intro n
    induction n with
    | zero => intro i hi_a hi_b; exact absurd hi_b (by omega)
    | succ n ih =>
      intro i hil hin E9 F9 hR9 Hz Lz hP hD hS ls hl
      obtain ⟨Nh, Th, hst9, hRh, hQh, hIh, hGh, hHh, hLh, ⟨hh1, hh3, hh0⟩, hmh⟩ := hr_facts hJ hh9 (show i ≤ 9 by omega) hR9
      refine lv_iload hx hb dL_people_336 (lv_at hl 12 rfl) ?_
      refine lv_iload hx hb dL_people_338 (lv_at hl 11 rfl) ?_
      refine lv_icmp_ge (tgt := 399) hx hb dL_people_340 (by decide) (fun zc_7 => ?_) (fun zc_7 => ?_)
      · skip
        have zd_7 := Int32.not_lt.mpr zc_7
        have zhc := (nI_leI (by omega) (by omega)).mp zc_7
        have zie := (Nat.le_antisymm hil zhc).symm
        subst zie
        refine lv_aload_n hx hb dL_people_399 rfl (lv_at hl 0 rfl) ?_
        refine lv_iload hx hb dL_people_400 (lv_at hl 11 rfl) ?_
        have hkz_402 : sK2 (sIn (nI hh) 1 100) (decide (nI (N 0) + (nI hh) ≤ 2000)) = 0 := (sK2_ok (sIn_h hhh.1 (by omega)) (sAdv_h (by omega)))
        have hzb_402 : (8 + zmc (sK2 (sIn (nI hh) 1 100) (decide (nI (N 0) + (nI hh) ≤ 2000))) (N 1) ((sHours (nI hh).toNatClampNeg N T).1 1)) ≤ 136 ∧ (200 + zms (sK2 (sIn (nI hh) 1 100) (decide (nI (N 0) + (nI hh) ≤ 2000))) (N 1) ((sHours (nI hh).toNatClampNeg N T).1 1)) ≤ 744 := zmc_b8 (show (sHours (nI hh).toNatClampNeg N T).1 1 ≤ 128 by have := hs_1 (N := N) (T := T) (k := hh) hb3; rw [nI_clamp (by omega)]; omega)
        refine z_xR (G := G) (w := w) (c2 := 166) (s2 := 1444) (vx_runSX (hh := [(0, 6, 9, 16), (0, 6, 14, 18)]) (As := [.ref (r 0), .int (nI hh)]) (rest := []) ⟨hx, hb, hml, hown, hts⟩ (h_advance l hst G d r A mc g N T w K (nI hh) Hz.size hC hJ.1.1 (by omega) ) (vx_cwSW 2 hts gL_people_L_advance rfl rfl rfl (by decide +kernel) ⟨Nat.le_of_ble_eq_true rfl, Nat.le_of_ble_eq_true rfl⟩) (z_hs hK (z_apR hP) (z_dR hD) hZ hLx hS hA) rfl rfl hl.1 rfl (lv_room (Nat.le_of_ble_eq_true rfl)) dL_people_402 ⟨(show 30 + (8 + zmc (sK2 (sIn (nI hh) 1 100) (decide (nI (N 0) + (nI hh) ≤ 2000))) (N 1) ((sHours (nI hh).toNatClampNeg N T).1 1)) ≤ 400 by omega), (show 700 + (200 + zms (sK2 (sIn (nI hh) 1 100) (decide (nI (N 0) + (nI hh) ≤ 2000))) (N 1) ((sHours (nI hh).toNatClampNeg N T).1 1)) ≤ 2400 by omega)⟩) hP hD hS hA (show 30 + (8 + zmc (sK2 (sIn (nI hh) 1 100) (decide (nI (N 0) + (nI hh) ≤ 2000))) (N 1) ((sHours (nI hh).toNatClampNeg N T).1 1)) ≤ 166 by omega) (show 700 + (200 + zms (sK2 (sIn (nI hh) 1 100) (decide (nI (N 0) + (nI hh) ≤ 2000))) (N 1) ((sHours (nI hh).toNatClampNeg N T).1 1)) ≤ 1444 by omega) (fun rz_8 zw_8 Hz Lz hq hP hD hS => ?_)
        obtain ⟨hr9, A, mc, g, hC⟩ := hq.1 hkz_402
        rw [hr9]
        have hcl9 : (nI hh).toNatClampNeg = hh := nI_clamp (by omega)
        rw [hcl9] at hC
        refine W.eq (g2 := F0 m 405 ls [.int (nI ((sHours hh N T).1 0))]) (by first | (rw [hcl9]; done) | (rw [hcl9]; rfl)) ?_
        refine lv_aload hx hb dL_people_405 (lv_at hl 10 rfl) ?_
        refine lv_iconst (v := 0) hx hb dL_people_407 (by decide) ?_
        refine va_iald hx hb hK (z_apL hP) 9 0 rfl rfl (vp_in_nI (n := 0) (by decide) (by decide)) dL_people_408 ?_
        refine W.eq (g2 := F0 m 409 ls [.int (nI ((sHours hh N T).1 0)), .int (nI ((sHours hh N T).1 0))]) (by rw [show (F9 9) (0 : Int32).toNatClampNeg = nI ((sHours hh N T).1 0) from hR9.2.2.2.2.2.2.2.2.2.1]) ?_
        refine lv_icmp_ne (tgt := 416) hx hb dL_people_409 (by decide) (fun zc_9 => absurd rfl zc_9) (fun _ => ?_)
        refine lv_iconst (v := 1) hx hb dL_people_412 (by decide) ?_
        refine lv_goto (tgt := 417) hx hb dL_people_413 (by decide) ?_
        exact z_widen (k := 400) (n := 2400) (show 166 ≤ 400 by omega) (show 1444 ≤ 2400 by omega) (W.zret (v := 1) hx hb hr rfl (fun t ht hW => ⟨⟨1, (([(u 0, .inl (G.2 1, 64, .inr (.inl E9))), (u 1, .inl (G.2 0, 8, .inl (F9 1))), (u 2, .inl (G.2 0, 3, .inl (F9 2))), (u 3, .inl (G.2 0, 3, .inl (F9 3))), (u 4, .inl (G.2 0, 40, .inl (F9 4))), (u 5, .inl (G.2 0, 40, .inl (F9 5))), (u 6, .inl (G.2 0, 9, .inl (F9 6))), (u 7, .inl (G.2 0, 12, .inl (F9 7))), (u 8, .inl (G.2 0, 12, .inl (F9 8))), (u 9, .inl (G.2 0, 10, .inl (F9 9)))] : va_W) ++ zw_8), rfl, ⟨rfl, (sHours hh N T).1, (sHours hh N T).2, E9, F9, zw_8, rfl, ⟨A, mc, g, hC⟩, hR9, ((sLJ_hours hJ hh9 hhh.2 hkz_402).mono (by omega))⟩, ⟨by rw [ht]; exact hP, hD⟩⟩, hS.F ht⟩) hS.2.2 dL_people_417 hlocks)
      · skip
        have zd_7 := Int32.not_le.mp zc_7
        have zhc := Nat.lt_of_not_le (fun z => zc_7 ((nI_leI (by omega) (by omega)).mpr z))
        have hlt : i < hh := zhc
        refine lv_aload hx hb dL_people_343 (lv_at hl 4 rfl) ?_
        refine lv_aload hx hb dL_people_345 (lv_at hl 5 rfl) ?_
        refine lv_aload hx hb dL_people_347 (lv_at hl 6 rfl) ?_
        refine lv_aload hx hb dL_people_349 (lv_at hl 10 rfl) ?_
        refine z_lv (G := G) (w := (LW G u E9 F9)) (wr := w) (va_runS (As := [.ref (u 0), .ref (u 1), .ref (u 2), .ref (u 9)]) (rest := []) ⟨hx, hb, hml, hown, hts⟩ (c_L_flow l G u E9 F9 Nh Th Hz.size hQh hRh.2.1 hRh.2.2.1 hRh.2.2.2.2.2.2.2.2.2.2.2.2.1 hIh.2.2.1 hLh) (va_cwS 4 hts gL_people_L_flow rfl rfl rfl (by decide +kernel) ⟨Nat.le_of_ble_eq_true rfl, Nat.le_of_ble_eq_true rfl⟩) (z_us hK (z_apL hP) (z_dL hD)) rfl rfl hl.1 rfl (lv_room (Nat.le_of_ble_eq_true rfl)) dL_people_351 ⟨(show 30 + 0 ≤ 400 by omega), (show 700 + 0 ≤ 2400 by omega)⟩) hP hD hS hA (fun w1 Hz Lz hw hP hD hS => ?_)
        obtain ⟨lz, gz, rfl, hrz⟩ := hw
        have hRf := sLR_flow hRh hrz
        have hP : va_P G.1 vwCl (([(u 0, .inl (G.2 1, 64, .inr (.inl E9))), (u 1, .inl (G.2 0, 8, .inl (F9 1))), (u 2, .inl (G.2 0, 3, .inl lz)), (u 3, .inl (G.2 0, 3, .inl (F9 3))), (u 4, .inl (G.2 0, 40, .inl (F9 4))), (u 5, .inl (G.2 0, 40, .inl (F9 5))), (u 6, .inl (G.2 0, 9, .inl (F9 6))), (u 7, .inl (G.2 0, 12, .inl (F9 7))), (u 8, .inl (G.2 0, 12, .inl (F9 8))), (u 9, .inl (G.2 0, 10, .inl (upd (F9 9) 3 gz)))] : va_W) ++ w) Hz := hP
        have hD : va_D Aw (([(u 0, .inl (G.2 1, 64, .inr (.inl E9))), (u 1, .inl (G.2 0, 8, .inl (F9 1))), (u 2, .inl (G.2 0, 3, .inl lz)), (u 3, .inl (G.2 0, 3, .inl (F9 3))), (u 4, .inl (G.2 0, 40, .inl (F9 4))), (u 5, .inl (G.2 0, 40, .inl (F9 5))), (u 6, .inl (G.2 0, 9, .inl (F9 6))), (u 7, .inl (G.2 0, 12, .inl (F9 7))), (u 8, .inl (G.2 0, 12, .inl (F9 8))), (u 9, .inl (G.2 0, 10, .inl (upd (F9 9) 3 gz)))] : va_W) ++ w) := hD
        refine lv_aload hx hb dL_people_354 (lv_at hl 4 rfl) ?_
        refine lv_aload hx hb dL_people_356 (lv_at hl 6 rfl) ?_
        refine lv_aload hx hb dL_people_358 (lv_at hl 7 rfl) ?_
        refine lv_aload hx hb dL_people_360 (lv_at hl 8 rfl) ?_
        refine lv_aload hx hb dL_people_362 (lv_at hl 10 rfl) ?_
        refine z_lv (G := G) (w := (LW G u E9 (va_up (va_up F9 2 lz) 9 (upd (F9 9) 3 gz)))) (wr := w) (va_runS (As := [.ref (u 0), .ref (u 2), .ref (u 3), .ref (u 4), .ref (u 9)]) (rest := []) ⟨hx, hb, hml, hown, hts⟩ (c_L_look l G u E9 (va_up (va_up F9 2 lz) 9 (upd (F9 9) 3 gz)) Nh ((sLeads 8 Nh Th).2) K Hz.size hRf (sInv_l8 hIh) (sLG_l8 hGh) (sLH_l8 hHh) (by omega) (by omega) (fun a ha => by rw [sLeads_keep.2 12 (by omega) (by omega) (by omega) (by omega) (by omega)]; exact hmh a ha)) (va_cwS 5 hts gL_people_L_look rfl rfl rfl (by decide +kernel) ⟨Nat.le_of_ble_eq_true rfl, Nat.le_of_ble_eq_true rfl⟩) (z_us hK (z_apL hP) (z_dL hD)) rfl rfl hl.1 rfl (lv_room (Nat.le_of_ble_eq_true rfl)) dL_people_364 ⟨(show 30 + 0 ≤ 400 by omega), (show 700 + 0 ≤ 2400 by omega)⟩) hP hD hS hA (fun w1 Hz Lz hw hP hD hS => ?_)
        obtain ⟨zE_10, zF_11, rfl, hRk⟩ := hw
        have hP : va_P G.1 vwCl (([(u 0, .inl (G.2 1, 64, .inr (.inl zE_10))), (u 1, .inl (G.2 0, 8, .inl (zF_11 1))), (u 2, .inl (G.2 0, 3, .inl (zF_11 2))), (u 3, .inl (G.2 0, 3, .inl (zF_11 3))), (u 4, .inl (G.2 0, 40, .inl (zF_11 4))), (u 5, .inl (G.2 0, 40, .inl (zF_11 5))), (u 6, .inl (G.2 0, 9, .inl (zF_11 6))), (u 7, .inl (G.2 0, 12, .inl (zF_11 7))), (u 8, .inl (G.2 0, 12, .inl (zF_11 8))), (u 9, .inl (G.2 0, 10, .inl (zF_11 9)))] : va_W) ++ w) Hz := hP
        have hD : va_D Aw (([(u 0, .inl (G.2 1, 64, .inr (.inl zE_10))), (u 1, .inl (G.2 0, 8, .inl (zF_11 1))), (u 2, .inl (G.2 0, 3, .inl (zF_11 2))), (u 3, .inl (G.2 0, 3, .inl (zF_11 3))), (u 4, .inl (G.2 0, 40, .inl (zF_11 4))), (u 5, .inl (G.2 0, 40, .inl (zF_11 5))), (u 6, .inl (G.2 0, 9, .inl (zF_11 6))), (u 7, .inl (G.2 0, 12, .inl (zF_11 7))), (u 8, .inl (G.2 0, 12, .inl (zF_11 8))), (u 9, .inl (G.2 0, 10, .inl (zF_11 9)))] : va_W) ++ w) := hD
        have hk9 := hRk.2.2.2.2.2.2.2.2.2
        have hgk0 : zF_11 9 0 = nI (Nh 0) := by rw [hk9.1, sWatches_0]
        refine lv_aload hx hb dL_people_367 (lv_at hl 10 rfl) ?_
        refine lv_iconst (v := 0) hx hb dL_people_369 (by decide) ?_
        refine lv_dup2_11 hx hb dL_people_370 rfl rfl ?_
        refine va_iald hx hb hK (z_apL hP) 9 0 rfl rfl (vp_in_nI (n := 0) (by decide) (by decide)) dL_people_371 ?_
        refine W.eq (g2 := F0 m 372 ls [.int (nI (Nh 0)), .int 0, .ref (u 9)]) (by rw [show (zF_11 9) (0 : Int32).toNatClampNeg = nI (Nh 0) from hgk0]) ?_
        refine lv_iconst (v := 1) hx hb dL_people_372 (by decide) ?_
        refine lv_iadd hx hb dL_people_373 ?_
        refine W.eq (g2 := F0 m 374 ls [.int (nI (Nh 0 + 1)), .int 0, .ref (u 9)]) (by first | (rw [nI_1]; done) | (rw [nI_1]; rfl)) ?_
        refine va_iast hx hb hK hP hD hS 9 0 rfl rfl (vp_in_nI (n := 0) (by decide) (by decide)) dL_people_374 (fun Hz Lz hP hD hS => ?_)
        have hP : va_P G.1 vwCl (([(u 0, .inl (G.2 1, 64, .inr (.inl zE_10))), (u 1, .inl (G.2 0, 8, .inl (zF_11 1))), (u 2, .inl (G.2 0, 3, .inl (zF_11 2))), (u 3, .inl (G.2 0, 3, .inl (zF_11 3))), (u 4, .inl (G.2 0, 40, .inl (zF_11 4))), (u 5, .inl (G.2 0, 40, .inl (zF_11 5))), (u 6, .inl (G.2 0, 9, .inl (zF_11 6))), (u 7, .inl (G.2 0, 12, .inl (zF_11 7))), (u 8, .inl (G.2 0, 12, .inl (zF_11 8))), (u 9, .inl (G.2 0, 10, .inl (upd (zF_11 9) 0 (nI (Nh 0 + 1)))))] : va_W) ++ w) Hz := hP
        have hD : va_D Aw (([(u 0, .inl (G.2 1, 64, .inr (.inl zE_10))), (u 1, .inl (G.2 0, 8, .inl (zF_11 1))), (u 2, .inl (G.2 0, 3, .inl (zF_11 2))), (u 3, .inl (G.2 0, 3, .inl (zF_11 3))), (u 4, .inl (G.2 0, 40, .inl (zF_11 4))), (u 5, .inl (G.2 0, 40, .inl (zF_11 5))), (u 6, .inl (G.2 0, 9, .inl (zF_11 6))), (u 7, .inl (G.2 0, 12, .inl (zF_11 7))), (u 8, .inl (G.2 0, 12, .inl (zF_11 8))), (u 9, .inl (G.2 0, 10, .inl (upd (zF_11 9) 0 (nI (Nh 0 + 1)))))] : va_W) ++ w) := hD
        have hP : va_P G.1 vwCl (([(u 0, .inl (G.2 1, 64, .inr (.inl zE_10))), (u 1, .inl (G.2 0, 8, .inl (zF_11 1))), (u 2, .inl (G.2 0, 3, .inl (zF_11 2))), (u 3, .inl (G.2 0, 3, .inl (zF_11 3))), (u 4, .inl (G.2 0, 40, .inl (zF_11 4))), (u 5, .inl (G.2 0, 40, .inl (zF_11 5))), (u 6, .inl (G.2 0, 9, .inl (zF_11 6))), (u 7, .inl (G.2 0, 12, .inl (zF_11 7))), (u 8, .inl (G.2 0, 12, .inl (zF_11 8))), (u 9, .inl (G.2 0, 10, .inl (upd (zF_11 9) 0 (nI (Nh 0 + 1)))))] : va_W) ++ w) Hz := hP
        have hD : va_D Aw (([(u 0, .inl (G.2 1, 64, .inr (.inl zE_10))), (u 1, .inl (G.2 0, 8, .inl (zF_11 1))), (u 2, .inl (G.2 0, 3, .inl (zF_11 2))), (u 3, .inl (G.2 0, 3, .inl (zF_11 3))), (u 4, .inl (G.2 0, 40, .inl (zF_11 4))), (u 5, .inl (G.2 0, 40, .inl (zF_11 5))), (u 6, .inl (G.2 0, 9, .inl (zF_11 6))), (u 7, .inl (G.2 0, 12, .inl (zF_11 7))), (u 8, .inl (G.2 0, 12, .inl (zF_11 8))), (u 9, .inl (G.2 0, 10, .inl (upd (zF_11 9) 0 (nI (Nh 0 + 1)))))] : va_W) ++ w) := hD
        refine lv_aload hx hb dL_people_375 (lv_at hl 10 rfl) ?_
        refine lv_iconst (v := 0) hx hb dL_people_377 (by decide) ?_
        refine va_iald hx hb hK (z_apL hP) 9 0 rfl rfl (vp_in_nI (n := 0) (by decide) (by decide)) dL_people_378 ?_
        refine W.eq (g2 := F0 m 379 ls [.int (nI (Nh 0 + 1))]) (by rw [show (upd (zF_11 9) 0 (nI (Nh 0 + 1))) (0 : Int32).toNatClampNeg = nI (Nh 0 + 1) from rfl]) ?_
        refine lv_bipush (v := 8) hx hb dL_people_379 (by decide) ?_
        refine lv_irem hx hb dL_people_381 (by decide) ?_
        refine W.eq (g2 := F0 m 382 ls [.int (nI ((Nh 0 + 1) % 8))]) (by first | (rw [zRem8 (by omega)]; done) | (rw [zRem8 (by omega)]; rfl)) ?_
        refine lv_if_ne (tgt := 393) hx hb dL_people_382 (by decide) (fun zc_12 => ?_) (fun zc_12 => ?_)
        · skip
          have h8z := zRm8n zc_12
          have hRn : sLR (sHours (i + 1) N T).1 (sHours (i + 1) N T).2 zE_10 (va_up zF_11 9 (upd (zF_11 9) 0 (nI (Nh 0 + 1)))) := by
            show sLR (sHour (sHours i N T).1 (sHours i N T).2).1 (sHour (sHours i N T).1 (sHours i N T).2).2 _ _
            rw [hst9]
            exact sHr_n hRk h8z
          refine lv_iinc (v := (nI (i + 1))) (lv' := [(13, .int (nI (i + 1))), (0, .ref (r 0)), (1, .int act), (2, .int x), (3, .int y), (4, .ref (u 0)), (5, .ref (u 1)), (6, .ref (u 2)), (7, .ref (u 3)), (8, .ref (u 4)), (9, .ref (u 6)), (10, .ref (u 9)), (12, .int (nI hh))]) hx hb dL_people_393 hl (k := 12) rfl (by first | exact nI_1 _ | rfl) (by decide) rfl (fun ls hl => ?_)
          refine lv_goto (tgt := 336) hx hb dL_people_396 (by decide) ?_
          have hl2 := lv_sub (l' := [(0, .ref (r 0)), (1, .int act), (2, .int x), (3, .int y), (4, .ref (u 0)), (5, .ref (u 1)), (6, .ref (u 2)), (7, .ref (u 3)), (8, .ref (u 4)), (9, .ref (u 6)), (10, .ref (u 9)), (12, .int (nI hh)), (13, .int (nI (i + 1)))]) hl [1, 2, 3, 4, 5, 6, 7, 8, 9, 10, 11, 12, 0] rfl
          exact ih (i + 1) (by omega) (by omega) _ _ hRn _ _ hP hD hS ls hl2
        · skip
          have h8z := zRm8 (by omega) zc_12
          refine lv_aload hx hb dL_people_385 (lv_at hl 10 rfl) ?_
          refine lv_iconst (v := 2) hx hb dL_people_387 (by decide) ?_
          refine lv_aload hx hb dL_people_388 (lv_at hl 10 rfl) ?_
          refine lv_iconst (v := 1) hx hb dL_people_390 (by decide) ?_
          refine va_iald hx hb hK (z_apL hP) 9 0 rfl rfl (vp_in_nI (n := 1) (by decide) (by decide)) dL_people_391 ?_
          refine W.eq (g2 := F0 m 392 ls [.int (nI ((sWatches (Nh 3) Nh (sLeads 8 Nh Th).2).1 1)), .int 2, .ref (u 9)]) (by rw [show (upd (zF_11 9) 0 (nI (Nh 0 + 1))) (1 : Int32).toNatClampNeg = nI ((sWatches (Nh 3) Nh (sLeads 8 Nh Th).2).1 1) from hk9.2.1]) ?_
          refine va_iast hx hb hK hP hD hS 9 0 rfl rfl (vp_in_nI (n := 2) (by decide) (by decide)) dL_people_392 (fun Hz Lz hP hD hS => ?_)
          have hP : va_P G.1 vwCl (([(u 0, .inl (G.2 1, 64, .inr (.inl zE_10))), (u 1, .inl (G.2 0, 8, .inl (zF_11 1))), (u 2, .inl (G.2 0, 3, .inl (zF_11 2))), (u 3, .inl (G.2 0, 3, .inl (zF_11 3))), (u 4, .inl (G.2 0, 40, .inl (zF_11 4))), (u 5, .inl (G.2 0, 40, .inl (zF_11 5))), (u 6, .inl (G.2 0, 9, .inl (zF_11 6))), (u 7, .inl (G.2 0, 12, .inl (zF_11 7))), (u 8, .inl (G.2 0, 12, .inl (zF_11 8))), (u 9, .inl (G.2 0, 10, .inl (upd (upd (zF_11 9) 0 (nI (Nh 0 + 1))) 2 (nI ((sWatches (Nh 3) Nh (sLeads 8 Nh Th).2).1 1)))))] : va_W) ++ w) Hz := hP
          have hD : va_D Aw (([(u 0, .inl (G.2 1, 64, .inr (.inl zE_10))), (u 1, .inl (G.2 0, 8, .inl (zF_11 1))), (u 2, .inl (G.2 0, 3, .inl (zF_11 2))), (u 3, .inl (G.2 0, 3, .inl (zF_11 3))), (u 4, .inl (G.2 0, 40, .inl (zF_11 4))), (u 5, .inl (G.2 0, 40, .inl (zF_11 5))), (u 6, .inl (G.2 0, 9, .inl (zF_11 6))), (u 7, .inl (G.2 0, 12, .inl (zF_11 7))), (u 8, .inl (G.2 0, 12, .inl (zF_11 8))), (u 9, .inl (G.2 0, 10, .inl (upd (upd (zF_11 9) 0 (nI (Nh 0 + 1))) 2 (nI ((sWatches (Nh 3) Nh (sLeads 8 Nh Th).2).1 1)))))] : va_W) ++ w) := hD
          have hRn : sLR (sHours (i + 1) N T).1 (sHours (i + 1) N T).2 zE_10 (va_up zF_11 9 (upd (upd (zF_11 9) 0 (nI (Nh 0 + 1))) 2 (nI ((sWatches (Nh 3) Nh (sLeads 8 Nh Th).2).1 1)))) := by
            show sLR (sHour (sHours i N T).1 (sHours i N T).2).1 (sHour (sHours i N T).1 (sHours i N T).2).2 _ _
            rw [hst9]
            exact sHr_y hRk h8z
          refine lv_iinc (v := (nI (i + 1))) (lv' := [(13, .int (nI (i + 1))), (0, .ref (r 0)), (1, .int act), (2, .int x), (3, .int y), (4, .ref (u 0)), (5, .ref (u 1)), (6, .ref (u 2)), (7, .ref (u 3)), (8, .ref (u 4)), (9, .ref (u 6)), (10, .ref (u 9)), (12, .int (nI hh))]) hx hb dL_people_393 hl (k := 12) rfl (by first | exact nI_1 _ | rfl) (by decide) rfl (fun ls hl => ?_)
          refine lv_goto (tgt := 336) hx hb dL_people_396 (by decide) ?_
          have hl2 := lv_sub (l' := [(0, .ref (r 0)), (1, .int act), (2, .int x), (3, .int y), (4, .ref (u 0)), (5, .ref (u 1)), (6, .ref (u 2)), (7, .ref (u 3)), (8, .ref (u 4)), (9, .ref (u 6)), (10, .ref (u 9)), (12, .int (nI hh)), (13, .int (nI (i + 1)))]) hl [1, 2, 3, 4, 5, 6, 7, 8, 9, 10, 11, 12, 0] rfl
          exact ih (i + 1) (by omega) (by omega) _ _ hRn _ _ hP hD hS ls hl2
  exact z_widen (show 24 ≤ 30 by omega) (show 600 ≤ 700 by omega) (key_336 (hh + 1) 0 (Nat.zero_le _) (by omega) E F hR _ _ hP hD hS ls (lv_sub hl [1, 2, 3, 4, 5, 6, 7, 8, 9, 10, 11, 13, 0] rfl))

set_option maxHeartbeats 4000000 in
set_option maxRecDepth 100000 in
theorem vpeople_275 {p : Program} {l : Launch} {e : Env} {s : State} {m : MethodId} {below : List Frame} {meth : Method} {c : Code} {G : zG} {d : Nat} {r u : Nat → Nat} {act x y : Int32} {Aw : Nat → Prop} (hst : l.stackTraces = false) (hx : p.tables.exec = Jvm.exec) (hb : c.code = cL_people) (hr : meth.sig.returnType = some .boolean) (hml : c.maxLocals = 14) (hown : s.vm.findClass RL = some m.cls) (hts : ∀ w ∈ wsL_people, w.before ([.ref (r 0), .int act, .int x, .int y, .ref (u 0), .ref (u 1), .ref (u 2), .ref (u 3), .ref (u 4), .ref (u 6), .ref (u 9)] : List Value).toArray s = true) (hlocks : meth.locks = false) (hK : va_K G.1 vwCl (zT G.2) s) (hZ : zCe Aw d s s.heap) (hLx : zLx s) (hA : ∀ q : Nat, s.heap.size ≤ q → Aw q) {A : Nat → Nat} {mc : Nat → Int32} {g : Nat → Nat → Int32} {N : Nat → Nat} {T : Nat → Nat → Int32} {w : va_W} {E : Nat → Int64} {F : Nat → Nat → Int32} {K : Nat} (hC : sCQ G d r A mc g N T w) (hR : sLR N T E F) (hJ : sLJ N T K) (hK5 : K ≤ 400) (hh9 : N 1 ≤ 90 ∧ N 0 ≤ 1900) {jp : Nat} (hjp : jp < 9) {H : Heap} {locs : List Loc} (hP : va_P G.1 vwCl (([(u 0, .inl (G.2 1, 64, .inr (.inl E))), (u 1, .inl (G.2 0, 8, .inl (F 1))), (u 2, .inl (G.2 0, 3, .inl (F 2))), (u 3, .inl (G.2 0, 3, .inl (F 3))), (u 4, .inl (G.2 0, 40, .inl (F 4))), (u 5, .inl (G.2 0, 40, .inl (F 5))), (u 6, .inl (G.2 0, 9, .inl (F 6))), (u 7, .inl (G.2 0, 12, .inl (F 7))), (u 8, .inl (G.2 0, 12, .inl (F 8))), (u 9, .inl (G.2 0, 10, .inl (F 9)))] : va_W) ++ w) H) (hD : va_D Aw (([(u 0, .inl (G.2 1, 64, .inr (.inl E))), (u 1, .inl (G.2 0, 8, .inl (F 1))), (u 2, .inl (G.2 0, 3, .inl (F 2))), (u 3, .inl (G.2 0, 3, .inl (F 3))), (u 4, .inl (G.2 0, 40, .inl (F 4))), (u 5, .inl (G.2 0, 40, .inl (F 5))), (u 6, .inl (G.2 0, 9, .inl (F 6))), (u 7, .inl (G.2 0, 12, .inl (F 7))), (u 8, .inl (G.2 0, 12, .inl (F 8))), (u 9, .inl (G.2 0, 10, .inl (F 9)))] : va_W) ++ w)) (hS : va_S Aw s.heap H locs) {ls : Array Slot} (hl : lv_has ls 14 [(0, .ref (r 0)), (1, .int act), (2, .int x), (3, .int y), (4, .ref (u 0)), (5, .ref (u 1)), (6, .ref (u 2)), (7, .ref (u 3)), (8, .ref (u 4)), (9, .ref (u 6)), (10, .ref (u 9)), (11, .int (nI jp))]) : W p l e (headSpec wsL_people ({ frames := 9, cells := 400, slots := 2400, locals := 222 })).room s m ([.ref (r 0), .int act, .int x, .int y, .ref (u 0), .ref (u 1), .ref (u 2), .ref (u 3), .ref (u 4), .ref (u 6), .ref (u 9)] : List Value).toArray below meth c H locs 0 0 (MQ below (va_Qi (fun (r1 : Int32) (wz : va_W) => r1 = 1 ∧ ∃ (N2 : Nat → Nat) (T2 : Nat → Nat → Int32) (E2 : Nat → Int64) (F2 : Nat → Nat → Int32) (w2 : va_W), wz = LW G u E2 F2 ++ w2 ∧ sCO G d r N2 T2 w2 ∧ sLR N2 T2 E2 F2 ∧ sLJ N2 T2 (K + 2)) (zB G Aw) Aw) ([.ref (r 0), .int act, .int x, .int y, .ref (u 0), .ref (u 1), .ref (u 2), .ref (u 3), .ref (u 4), .ref (u 6), .ref (u 9)] : List Value).toArray s 400 2400 Aw) (F0 m 275 ls []) := by
  have hQ := hR.q hJ
  obtain ⟨hg0, hg1, hg2, hg3, hg4, hg5, hg6, hg7, hg8⟩ := hR.2.2.2.2.2.2.2.2.2
  obtain ⟨⟨hb1, hb0, hb3, hb4, hb5⟩, hlv, hlm, hLH⟩ := id hJ.2
  obtain ⟨⟨hi0, hi2, hi3, hi4, hi5, hi6, hi1⟩, hiB, hiE, hiT, hiA, hiA0, hiM, hiK, hiK0, hiX⟩ := id hJ.1.1
  have hLG := hJ.1.2
  have hS0z : va_S Aw s.heap s.heap [] := va_S.rf
  refine lv_iconst (v := 1) hx hb dL_people_275 (by decide) ?_
  refine lv_iload_n hx hb dL_people_276 rfl (lv_at hl 2 rfl) ?_
  refine lv_iload_n hx hb dL_people_277 rfl (lv_at hl 2 rfl) ?_
  refine lv_bipush (v := 96) hx hb dL_people_278 (by decide) ?_
  refine lv_iand hx hb dL_people_280 ?_
  refine lv_if_ne (tgt := 289) hx hb dL_people_281 (by decide) (fun zc_1 => ?_) (fun zc_1 => ?_)
  · skip
    refine lv_iconst (v := 3) hx hb dL_people_289 (by decide) ?_
    refine z_csi (va_Run.run (va_runS (As := [.int x, .int 3]) (rest := [.int 1]) ⟨hx, hb, hml, hown, hts⟩ (c_L_low l G x 3 (by omega) (by omega)) (va_cwS 2 hts gL_people_L_low rfl rfl rfl (by decide +kernel) ⟨Nat.le_of_ble_eq_true rfl, Nat.le_of_ble_eq_true rfl⟩) (z_ps hK z_none) rfl rfl hl.1 rfl (lv_room (Nat.le_of_ble_eq_true rfl)) dL_people_290 ⟨(show 0 + 0 ≤ 400 by omega), (show 0 + 0 ≤ 2400 by omega)⟩)) (fun zr_2 hzr_2 => ?_)
    obtain ⟨jh, hjh, rfl⟩ := hzr_2
    refine lv_iadd hx hb dL_people_293 ?_
    refine W.eq (g2 := F0 m 294 ls [.int (nI (1 + jh))]) (by first | (rw [show (1 : Int32) = nI 1 from rfl, nI_add]; done) | (rw [show (1 : Int32) = nI 1 from rfl, nI_add]; rfl)) ?_
    refine lv_istore (lv' := [(12, .int (nI (1 + jh))), (0, .ref (r 0)), (1, .int act), (2, .int x), (3, .int y), (4, .ref (u 0)), (5, .ref (u 1)), (6, .ref (u 2)), (7, .ref (u 3)), (8, .ref (u 4)), (9, .ref (u 6)), (10, .ref (u 9)), (11, .int (nI jp))]) hx hb dL_people_294 hl (by decide) rfl (fun ls hl => ?_)
    exact z_widen (show 0 ≤ 0 by omega) (show 0 ≤ 0 by omega) (vpeople_296 hst hx hb hr hml hown hts hlocks hK hZ hLx hA hC hR hJ hK5 hh9 (by omega) hP hD hS (lv_sub hl [1, 2, 3, 4, 5, 6, 7, 8, 9, 10, 11, 12, 0] rfl))
  · skip
    refine lv_bipush (v := 9) hx hb dL_people_284 (by decide) ?_
    refine lv_goto (tgt := 290) hx hb dL_people_286 (by decide) ?_
    refine z_csi (va_Run.run (va_runS (As := [.int x, .int 9]) (rest := [.int 1]) ⟨hx, hb, hml, hown, hts⟩ (c_L_low l G x 9 (by omega) (by omega)) (va_cwS 2 hts gL_people_L_low rfl rfl rfl (by decide +kernel) ⟨Nat.le_of_ble_eq_true rfl, Nat.le_of_ble_eq_true rfl⟩) (z_ps hK z_none) rfl rfl hl.1 rfl (lv_room (Nat.le_of_ble_eq_true rfl)) dL_people_290 ⟨(show 0 + 0 ≤ 400 by omega), (show 0 + 0 ≤ 2400 by omega)⟩)) (fun zr_3 hzr_3 => ?_)
    obtain ⟨jh, hjh, rfl⟩ := hzr_3
    refine lv_iadd hx hb dL_people_293 ?_
    refine W.eq (g2 := F0 m 294 ls [.int (nI (1 + jh))]) (by first | (rw [show (1 : Int32) = nI 1 from rfl, nI_add]; done) | (rw [show (1 : Int32) = nI 1 from rfl, nI_add]; rfl)) ?_
    refine lv_istore (lv' := [(12, .int (nI (1 + jh))), (0, .ref (r 0)), (1, .int act), (2, .int x), (3, .int y), (4, .ref (u 0)), (5, .ref (u 1)), (6, .ref (u 2)), (7, .ref (u 3)), (8, .ref (u 4)), (9, .ref (u 6)), (10, .ref (u 9)), (11, .int (nI jp))]) hx hb dL_people_294 hl (by decide) rfl (fun ls hl => ?_)
    exact z_widen (show 0 ≤ 0 by omega) (show 0 ≤ 0 by omega) (vpeople_296 hst hx hb hr hml hown hts hlocks hK hZ hLx hA hC hR hJ hK5 hh9 (by omega) hP hD hS (lv_sub hl [1, 2, 3, 4, 5, 6, 7, 8, 9, 10, 11, 12, 0] rfl))

set_option maxHeartbeats 4000000 in
set_option maxRecDepth 100000 in
theorem vpeople_0 {p : Program} {l : Launch} {e : Env} {s : State} {m : MethodId} {below : List Frame} {meth : Method} {c : Code} {G : zG} {d : Nat} {r u : Nat → Nat} {act x y : Int32} {Aw : Nat → Prop} (hst : l.stackTraces = false) (hx : p.tables.exec = Jvm.exec) (hb : c.code = cL_people) (hr : meth.sig.returnType = some .boolean) (hml : c.maxLocals = 14) (hown : s.vm.findClass RL = some m.cls) (hts : ∀ w ∈ wsL_people, w.before ([.ref (r 0), .int act, .int x, .int y, .ref (u 0), .ref (u 1), .ref (u 2), .ref (u 3), .ref (u 4), .ref (u 6), .ref (u 9)] : List Value).toArray s = true) (hlocks : meth.locks = false) (hK : va_K G.1 vwCl (zT G.2) s) (hZ : zCe Aw d s s.heap) (hLx : zLx s) (hA : ∀ q : Nat, s.heap.size ≤ q → Aw q) {A : Nat → Nat} {mc : Nat → Int32} {g : Nat → Nat → Int32} {N : Nat → Nat} {T : Nat → Nat → Int32} {w : va_W} {E : Nat → Int64} {F : Nat → Nat → Int32} {K : Nat} (hC : sCQ G d r A mc g N T w) (hR : sLR N T E F) (hJ : sLJ N T K) (hK5 : K ≤ 400) (hh9 : N 1 ≤ 90 ∧ N 0 ≤ 1900)   {H : Heap} {locs : List Loc} (hP : va_P G.1 vwCl (([(u 0, .inl (G.2 1, 64, .inr (.inl E))), (u 1, .inl (G.2 0, 8, .inl (F 1))), (u 2, .inl (G.2 0, 3, .inl (F 2))), (u 3, .inl (G.2 0, 3, .inl (F 3))), (u 4, .inl (G.2 0, 40, .inl (F 4))), (u 5, .inl (G.2 0, 40, .inl (F 5))), (u 6, .inl (G.2 0, 9, .inl (F 6))), (u 7, .inl (G.2 0, 12, .inl (F 7))), (u 8, .inl (G.2 0, 12, .inl (F 8))), (u 9, .inl (G.2 0, 10, .inl (F 9)))] : va_W) ++ w) H) (hD : va_D Aw (([(u 0, .inl (G.2 1, 64, .inr (.inl E))), (u 1, .inl (G.2 0, 8, .inl (F 1))), (u 2, .inl (G.2 0, 3, .inl (F 2))), (u 3, .inl (G.2 0, 3, .inl (F 3))), (u 4, .inl (G.2 0, 40, .inl (F 4))), (u 5, .inl (G.2 0, 40, .inl (F 5))), (u 6, .inl (G.2 0, 9, .inl (F 6))), (u 7, .inl (G.2 0, 12, .inl (F 7))), (u 8, .inl (G.2 0, 12, .inl (F 8))), (u 9, .inl (G.2 0, 10, .inl (F 9)))] : va_W) ++ w)) (hS : va_S Aw s.heap H locs) {ls : Array Slot} (hl : lv_has ls 14 [(0, .ref (r 0)), (1, .int act), (2, .int x), (3, .int y), (4, .ref (u 0)), (5, .ref (u 1)), (6, .ref (u 2)), (7, .ref (u 3)), (8, .ref (u 4)), (9, .ref (u 6)), (10, .ref (u 9))]) : W p l e (headSpec wsL_people ({ frames := 9, cells := 400, slots := 2400, locals := 222 })).room s m ([.ref (r 0), .int act, .int x, .int y, .ref (u 0), .ref (u 1), .ref (u 2), .ref (u 3), .ref (u 4), .ref (u 6), .ref (u 9)] : List Value).toArray below meth c H locs 0 0 (MQ below (va_Qi (fun (r1 : Int32) (wz : va_W) => r1 = 1 ∧ ∃ (N2 : Nat → Nat) (T2 : Nat → Nat → Int32) (E2 : Nat → Int64) (F2 : Nat → Nat → Int32) (w2 : va_W), wz = LW G u E2 F2 ++ w2 ∧ sCO G d r N2 T2 w2 ∧ sLR N2 T2 E2 F2 ∧ sLJ N2 T2 (K + 2)) (zB G Aw) Aw) ([.ref (r 0), .int act, .int x, .int y, .ref (u 0), .ref (u 1), .ref (u 2), .ref (u 3), .ref (u 4), .ref (u 6), .ref (u 9)] : List Value).toArray s 400 2400 Aw) (F0 m 0 ls []) := by
  have hQ := hR.q hJ
  obtain ⟨hg0, hg1, hg2, hg3, hg4, hg5, hg6, hg7, hg8⟩ := hR.2.2.2.2.2.2.2.2.2
  obtain ⟨⟨hb1, hb0, hb3, hb4, hb5⟩, hlv, hlm, hLH⟩ := id hJ.2
  obtain ⟨⟨hi0, hi2, hi3, hi4, hi5, hi6, hi1⟩, hiB, hiE, hiT, hiA, hiA0, hiM, hiK, hiK0, hiX⟩ := id hJ.1.1
  have hLG := hJ.1.2
  have hS0z : va_S Aw s.heap s.heap [] := va_S.rf
  refine lv_iload_n hx hb dL_people_0 rfl (lv_at hl 2 rfl) ?_
  refine lv_bipush (v := 9) hx hb dL_people_1 (by decide) ?_
  refine z_csi (va_Run.run (va_runS (As := [.int x, .int 9]) (rest := []) ⟨hx, hb, hml, hown, hts⟩ (c_L_low l G x 9 (by omega) (by omega)) (va_cwS 2 hts gL_people_L_low rfl rfl rfl (by decide +kernel) ⟨Nat.le_of_ble_eq_true rfl, Nat.le_of_ble_eq_true rfl⟩) (z_ps hK z_none) rfl rfl hl.1 rfl (lv_room (Nat.le_of_ble_eq_true rfl)) dL_people_3 ⟨(show 0 + 0 ≤ 400 by omega), (show 0 + 0 ≤ 2400 by omega)⟩)) (fun zr_1 hzr_1 => ?_)
  obtain ⟨jp, hjp, rfl⟩ := hzr_1
  refine lv_istore (lv' := [(11, .int (nI jp)), (0, .ref (r 0)), (1, .int act), (2, .int x), (3, .int y), (4, .ref (u 0)), (5, .ref (u 1)), (6, .ref (u 2)), (7, .ref (u 3)), (8, .ref (u 4)), (9, .ref (u 6)), (10, .ref (u 9))]) hx hb dL_people_6 hl (by decide) rfl (fun ls hl => ?_)
  refine lv_iload_n hx hb dL_people_8 rfl (lv_at hl 2 rfl) ?_
  refine lv_iconst (v := 3) hx hb dL_people_9 (by decide) ?_
  refine lv_icmp_ge (tgt := 153) hx hb dL_people_10 (by decide) (fun zc_2 => ?_) (fun zc_2 => ?_)
  · skip
    have zd_2 := Int32.not_lt.mpr zc_2
    refine lv_iload_n hx hb dL_people_153 rfl (lv_at hl 2 rfl) ?_
    refine lv_iconst (v := 3) hx hb dL_people_154 (by decide) ?_
    refine lv_icmp_ne (tgt := 275) hx hb dL_people_155 (by decide) (fun zc_3 => ?_) (fun zc_3 => ?_)
    · skip
      exact z_widen (show 0 ≤ 0 by omega) (show 0 ≤ 0 by omega) (vpeople_275 hst hx hb hr hml hown hts hlocks hK hZ hLx hA hC hR hJ hK5 hh9 hjp hP hD hS (lv_sub hl [1, 2, 3, 4, 5, 6, 7, 8, 9, 10, 11, 0] rfl))
    · skip
      exact z_widen (show 0 ≤ 0 by omega) (show 0 ≤ 0 by omega) (vpeople_158 hst hx hb hr hml hown hts hlocks hK hZ hLx hA hC hR hJ hK5 hh9 hjp hP hD hS (lv_sub hl [1, 2, 3, 4, 5, 6, 7, 8, 9, 10, 11, 0] rfl))
  · skip
    have zd_2 := Int32.not_le.mp zc_2
    exact z_widen (show 0 ≤ 0 by omega) (show 0 ≤ 0 by omega) (vpeople_13 hst hx hb hr hml hown hts hlocks hK hZ hLx hA hC hR hJ hK5 hh9 hjp hP hD hS (lv_sub hl [1, 2, 3, 4, 5, 6, 7, 8, 9, 10, 11, 0] rfl))
set_option maxHeartbeats 4000000 in
set_option maxRecDepth 100000 in
theorem c_L_people (l : Launch) (hst : l.stackTraces = false) (G : zG) (d : Nat) (r u : Nat → Nat) (act x y : Int32) (A : Nat → Nat) (mc : Nat → Int32) (g : Nat → Nat → Int32) (N : Nat → Nat) (T : Nat → Nat → Int32) (w : va_W) (E : Nat → Int64) (F : Nat → Nat → Int32) (K sz : Nat) (hC : sCQ G d r A mc g N T w) (hR : sLR N T E F) (hJ : sLJ N T K) (hK5 : K ≤ 400) (hh9 : N 1 ≤ 90 ∧ N 0 ≤ 1900) : Met l yL_people wsL_people ({ frames := 9, cells := 400, slots := 2400, locals := 222 }) (va_Pc [.ref (r 0), .int act, .int x, .int y, .ref (u 0), .ref (u 1), .ref (u 2), .ref (u 3), .ref (u 4), .ref (u 6), .ref (u 9)] (zHu G d (LW G u E F ++ w) sz)) (va_Qi (fun (r1 : Int32) (wz : va_W) => r1 = 1 ∧ ∃ (N2 : Nat → Nat) (T2 : Nat → Nat → Int32) (E2 : Nat → Int64) (F2 : Nat → Nat → Int32) (w2 : va_W), wz = LW G u E2 F2 ++ w2 ∧ sCO G d r N2 T2 w2 ∧ sLR N2 T2 E2 F2 ∧ sLJ N2 T2 (K + 2)) (zB G (va_A (LW G u E F ++ w) sz)) (va_A (LW G u E F ++ w) sz)) 400 2400 (va_A (LW G u E F ++ w) sz) := by
  refine Met.ofW (cc := cL_people) (maxL := 14) (ret := (some .boolean)) (by decide) rfl ?_
  intro p e s m args below meth c s₁ B hml hv
  obtain ⟨rfl, ⟨hsz, hP, hK, hD0, hZ⟩, hLx⟩ := hv
  have hx := B.exec
  have hb := B.bytes
  have hr := B.returns
  have hts := atoms_spec (ws := wsL_people) B.pre
  have hown : s.vm.findClass RL = some m.cls := findClass_of_methodNamed B.named
  have hlocks := B.notSynchronized
  subst hsz
  have hD := hD0.self (sz := s.heap.size)
  generalize hAe : va_A (LW G u E F ++ w) s.heap.size = Aw at hD hZ ⊢
  have hA : ∀ q : Nat, s.heap.size ≤ q → Aw q := fun q h => by rw [← hAe]; exact Or.inr h
  have hS : va_S Aw s.heap s.heap [] := va_S.rf
  have hl := lv_entry ([.ref (r 0), .int act, .int x, .int y, .ref (u 0), .ref (u 1), .ref (u 2), .ref (u 3), .ref (u 4), .ref (u 6), .ref (u 9)]) (n := 14) (Nat.le_of_ble_eq_true rfl)
  rw [lg_entry_eq]
  generalize (lg_sl ([.ref (r 0), .int act, .int x, .int y, .ref (u 0), .ref (u 1), .ref (u 2), .ref (u 3), .ref (u 4), .ref (u 6), .ref (u 9)]) ++ List.replicate (14 - (lg_sl ([.ref (r 0), .int act, .int x, .int y, .ref (u 0), .ref (u 1), .ref (u 2), .ref (u 3), .ref (u 4), .ref (u 6), .ref (u 9)])).length) Slot.unset).toArray = ls at hl ⊢
  exact vpeople_0 hst hx hb hr hml hown hts hlocks hK hZ hLx hA hC hR hJ hK5 hh9 hP hD hS hl
