set_option maxHeartbeats 4000000 in
set_option maxRecDepth 100000 in
theorem vvalves_79 {p : Program} {l : Launch} {e : Env} {s : State} {m : MethodId} {below : List Frame} {meth : Method} {c : Code} {G : zG} {d : Nat} {r u : Nat → Nat} {act x y : Int32} {Aw : Nat → Prop} (hst : l.stackTraces = false) (hx : p.tables.exec = Jvm.exec) (hb : c.code = cL_valves) (hr : meth.sig.returnType = some .boolean) (hml : c.maxLocals = 17) (hown : s.vm.findClass RL = some m.cls) (hts : ∀ w ∈ wsL_valves, w.before ([.ref (r 0), .int act, .int x, .int y, .ref (u 0), .ref (u 1), .ref (u 3), .ref (u 4), .ref (u 5), .ref (u 6), .ref (u 9)] : List Value).toArray s = true) (hlocks : meth.locks = false) (hK : va_K G.1 vwCl (zT G.2) s) (hZ : zCe Aw d s s.heap) (hLx : zLx s) (hA : ∀ q : Nat, s.heap.size ≤ q → Aw q) {A : Nat → Nat} {mc : Nat → Int32} {g : Nat → Nat → Int32} {N : Nat → Nat} {T : Nat → Nat → Int32} {w : va_W} {E : Nat → Int64} {F : Nat → Nat → Int32} {K : Nat} (hC : sCQ G d r A mc g N T w) (hR : sLR N T E F) (hJ : sLJ N T K) (hK5 : K ≤ 400) (hh9 : N 1 ≤ 90 ∧ N 0 ≤ 1900) {jp jv : Nat} (hjp : jp < 9) (hjv : jv < 8) {H : Heap} {locs : List Loc} (hP : va_P G.1 vwCl (([(u 0, .inl (G.2 1, 64, .inr (.inl E))), (u 1, .inl (G.2 0, 8, .inl (F 1))), (u 2, .inl (G.2 0, 3, .inl (F 2))), (u 3, .inl (G.2 0, 3, .inl (F 3))), (u 4, .inl (G.2 0, 40, .inl (F 4))), (u 5, .inl (G.2 0, 40, .inl (F 5))), (u 6, .inl (G.2 0, 9, .inl (F 6))), (u 7, .inl (G.2 0, 12, .inl (F 7))), (u 8, .inl (G.2 0, 12, .inl (F 8))), (u 9, .inl (G.2 0, 10, .inl (F 9)))] : va_W) ++ w) H) (hD : va_D Aw (([(u 0, .inl (G.2 1, 64, .inr (.inl E))), (u 1, .inl (G.2 0, 8, .inl (F 1))), (u 2, .inl (G.2 0, 3, .inl (F 2))), (u 3, .inl (G.2 0, 3, .inl (F 3))), (u 4, .inl (G.2 0, 40, .inl (F 4))), (u 5, .inl (G.2 0, 40, .inl (F 5))), (u 6, .inl (G.2 0, 9, .inl (F 6))), (u 7, .inl (G.2 0, 12, .inl (F 7))), (u 8, .inl (G.2 0, 12, .inl (F 8))), (u 9, .inl (G.2 0, 10, .inl (F 9)))] : va_W) ++ w)) (hS : va_S Aw s.heap H locs) {ls : Array Slot} (hl : lv_has ls 17 [(0, .ref (r 0)), (1, .int act), (2, .int x), (3, .int y), (4, .ref (u 0)), (5, .ref (u 1)), (6, .ref (u 3)), (7, .ref (u 4)), (8, .ref (u 5)), (9, .ref (u 6)), (10, .ref (u 9)), (11, .int (nI jp)), (12, .int (nI jv))]) : W p l e (headSpec wsL_valves ({ frames := 9, cells := 400, slots := 2400, locals := 223 })).room s m ([.ref (r 0), .int act, .int x, .int y, .ref (u 0), .ref (u 1), .ref (u 3), .ref (u 4), .ref (u 5), .ref (u 6), .ref (u 9)] : List Value).toArray below meth c H locs 0 0 (MQ below (va_Qi (fun (r1 : Int32) (wz : va_W) => r1 = 1 ∧ ∃ (N2 : Nat → Nat) (T2 : Nat → Nat → Int32) (E2 : Nat → Int64) (F2 : Nat → Nat → Int32) (w2 : va_W), wz = LW G u E2 F2 ++ w2 ∧ sCO G d r N2 T2 w2 ∧ sLR N2 T2 E2 F2 ∧ sLJ N2 T2 (K + 2)) (zB G Aw) Aw) ([.ref (r 0), .int act, .int x, .int y, .ref (u 0), .ref (u 1), .ref (u 3), .ref (u 4), .ref (u 5), .ref (u 6), .ref (u 9)] : List Value).toArray s 400 2400 Aw) (F0 m 79 ls []) := by
  have hQ := hR.q hJ
  obtain ⟨hg0, hg1, hg2, hg3, hg4, hg5, hg6, hg7, hg8⟩ := hR.2.2.2.2.2.2.2.2.2
  obtain ⟨⟨hb1, hb0, hb3, hb4, hb5⟩, hlv, hlm, hLH⟩ := id hJ.2
  obtain ⟨⟨hi0, hi2, hi3, hi4, hi5, hi6, hi1⟩, hiB, hiE, hiT, hiA, hiA0, hiM, hiK, hiK0, hiX⟩ := id hJ.1.1
  have hLG := hJ.1.2
  have hS0z : va_S Aw s.heap s.heap [] := va_S.rf
  refine lv_iload_n hx hb dL_valves_79 rfl (lv_at hl 2 rfl) ?_
  refine lv_iconst (v := 4) hx hb dL_valves_80 (by decide) ?_
  refine lv_ishr hx hb dL_valves_81 ?_
  refine lv_iconst (v := 4) hx hb dL_valves_82 (by decide) ?_
  refine z_csi (va_Run.run (va_runS (As := [.int (x >>> (4 &&& 31)), .int 4]) (rest := []) ⟨hx, hb, hml, hown, hts⟩ (c_L_low l G (x >>> (4 &&& 31)) 4 (by omega) (by omega)) (va_cwS 2 hts gL_valves_L_low rfl rfl rfl (by decide +kernel) ⟨Nat.le_of_ble_eq_true rfl, Nat.le_of_ble_eq_true rfl⟩) (z_ps hK z_none) rfl rfl hl.1 rfl (lv_room (Nat.le_of_ble_eq_true rfl)) dL_valves_83 ⟨(show 0 + 0 ≤ 400 by omega), (show 0 + 0 ≤ 2400 by omega)⟩)) (fun zr_1 hzr_1 => ?_)
  obtain ⟨ja, hja, rfl⟩ := hzr_1
  refine lv_iconst (v := 1) hx hb dL_valves_86 (by decide) ?_
  refine lv_isub hx hb dL_valves_87 ?_
  refine lv_istore (lv' := [(13, .int ((nI ja) - 1)), (0, .ref (r 0)), (1, .int act), (2, .int x), (3, .int y), (4, .ref (u 0)), (5, .ref (u 1)), (6, .ref (u 3)), (7, .ref (u 4)), (8, .ref (u 5)), (9, .ref (u 6)), (10, .ref (u 9)), (11, .int (nI jp)), (12, .int (nI jv))]) hx hb dL_valves_88 hl (by decide) rfl (fun ls hl => ?_)
  refine lv_iload_n hx hb dL_valves_90 rfl (lv_at hl 4 rfl) ?_
  refine lv_bipush (v := 7) hx hb dL_valves_91 (by decide) ?_
  refine lv_ishr hx hb dL_valves_93 ?_
  refine lv_iconst (v := 4) hx hb dL_valves_94 (by decide) ?_
  refine z_csi (va_Run.run (va_runS (As := [.int (y >>> (7 &&& 31)), .int 4]) (rest := []) ⟨hx, hb, hml, hown, hts⟩ (c_L_low l G (y >>> (7 &&& 31)) 4 (by omega) (by omega)) (va_cwS 2 hts gL_valves_L_low rfl rfl rfl (by decide +kernel) ⟨Nat.le_of_ble_eq_true rfl, Nat.le_of_ble_eq_true rfl⟩) (z_ps hK z_none) rfl rfl hl.1 rfl (lv_room (Nat.le_of_ble_eq_true rfl)) dL_valves_95 ⟨(show 0 + 0 ≤ 400 by omega), (show 0 + 0 ≤ 2400 by omega)⟩)) (fun zr_2 hzr_2 => ?_)
  obtain ⟨jb, hjb, rfl⟩ := hzr_2
  refine lv_iconst (v := 1) hx hb dL_valves_98 (by decide) ?_
  refine lv_isub hx hb dL_valves_99 ?_
  refine lv_istore (lv' := [(14, .int ((nI jb) - 1)), (13, .int ((nI ja) - 1)), (0, .ref (r 0)), (1, .int act), (2, .int x), (3, .int y), (4, .ref (u 0)), (5, .ref (u 1)), (6, .ref (u 3)), (7, .ref (u 4)), (8, .ref (u 5)), (9, .ref (u 6)), (10, .ref (u 9)), (11, .int (nI jp)), (12, .int (nI jv))]) hx hb dL_valves_100 hl (by decide) rfl (fun ls hl => ?_)
  refine lv_aload_n hx hb dL_valves_102 rfl (lv_at hl 2 rfl) ?_
  refine lv_bipush (v := 8) hx hb dL_valves_103 (by decide) ?_
  refine lv_iconst (v := 3) hx hb dL_valves_105 (by decide) ?_
  refine lv_iconst (v := 3) hx hb dL_valves_106 (by decide) ?_
  have hkz_107 : sK3 (sIx (8 : Int32) 8) (((sEnd (3 : Int32)) && (sEnd (3 : Int32))) && !decide ((3 : Int32) = (3 : Int32))) (decide (T 3 (8 : Int32).toNatClampNeg = 0)) = 1 := (sK3_1' (show sIx (8 : Int32) 8 = false from by decide))
  refine z_xR (G := G) (w := w) (c2 := 2) (s2 := 12) (vx_runSX (hh := [(0, 9, 12, 14), (0, 9, 18, 16), (0, 9, 24, 18)]) (As := [.ref (r 0), .int 8, .int 3, .int 3]) (rest := []) ⟨hx, hb, hml, hown, hts⟩ (h_pipe l hst G d r A mc g N T w K (8 : Int32) (3 : Int32) (3 : Int32) H.size hC hJ.1.1 (by omega) ) (vx_cwSW 4 hts gL_valves_L_pipe rfl rfl rfl (by decide +kernel) ⟨Nat.le_of_ble_eq_true rfl, Nat.le_of_ble_eq_true rfl⟩) (z_hs hK (z_apR hP) (z_dR hD) hZ hLx hS hA) rfl rfl hl.1 rfl (lv_room (Nat.le_of_ble_eq_true rfl)) dL_valves_107 ⟨(show 0 + 2 ≤ 400 by omega), (show 0 + 12 ≤ 2400 by omega)⟩) hP hD hS hA (show 0 + 2 ≤ 2 by omega) (show 0 + 12 ≤ 12 by omega) (fun rz_3 zw_3 Hz Lz hq hP hD hS => ?_)
  obtain ⟨hr9, hw9⟩ := hq.2 (by rw [hkz_107]; decide)
  rw [hw9] at hP hD
  rw [hr9, show zCx [-7100, -7200, -7300] (sK3 (sIx (8 : Int32) 8) (((sEnd (3 : Int32)) && (sEnd (3 : Int32))) && !decide ((3 : Int32) = (3 : Int32))) (decide (T 3 (8 : Int32).toNatClampNeg = 0))) = (-7100) from by rw [hkz_107]; rfl]
  refine lv_sipush (v := (-7100)) hx hb dL_valves_110 (by decide) ?_
  refine lv_icmp_ne (tgt := 186) hx hb dL_valves_113 (by decide) (fun zc_4 => absurd zc_4 (by decide)) (fun _ => ?_)
  refine lv_aload_n hx hb dL_valves_116 rfl (lv_at hl 2 rfl) ?_
  refine lv_iconst (v := (-1)) hx hb dL_valves_117 (by decide) ?_
  refine lv_iconst (v := 0) hx hb dL_valves_118 (by decide) ?_
  refine lv_iconst (v := 1) hx hb dL_valves_119 (by decide) ?_
  have hkz_120 : sK3 (sIx (-1 : Int32) 8) (((sEnd (0 : Int32)) && (sEnd (1 : Int32))) && !decide ((0 : Int32) = (1 : Int32))) (decide (T 3 (-1 : Int32).toNatClampNeg = 0)) = 1 := (sK3_1' (show sIx (-1 : Int32) 8 = false from by decide))
  refine z_xR (G := G) (w := w) (c2 := 4) (s2 := 24) (vx_runSX (hh := [(0, 9, 12, 14), (0, 9, 18, 16), (0, 9, 24, 18)]) (As := [.ref (r 0), .int (-1), .int 0, .int 1]) (rest := []) ⟨hx, hb, hml, hown, hts⟩ (h_pipe l hst G d r A mc g N T w K (-1 : Int32) (0 : Int32) (1 : Int32) Hz.size hC hJ.1.1 (by omega) ) (vx_cwSW 4 hts gL_valves_L_pipe rfl rfl rfl (by decide +kernel) ⟨Nat.le_of_ble_eq_true rfl, Nat.le_of_ble_eq_true rfl⟩) (z_hs hK (z_apR hP) (z_dR hD) hZ hLx hS hA) rfl rfl hl.1 rfl (lv_room (Nat.le_of_ble_eq_true rfl)) dL_valves_120 ⟨(show 2 + 2 ≤ 400 by omega), (show 12 + 12 ≤ 2400 by omega)⟩) hP hD hS hA (show 2 + 2 ≤ 4 by omega) (show 12 + 12 ≤ 24 by omega) (fun rz_5 zw_5 Hz Lz hq hP hD hS => ?_)
  obtain ⟨hr9, hw9⟩ := hq.2 (by rw [hkz_120]; decide)
  rw [hw9] at hP hD
  rw [hr9, show zCx [-7100, -7200, -7300] (sK3 (sIx (-1 : Int32) 8) (((sEnd (0 : Int32)) && (sEnd (1 : Int32))) && !decide ((0 : Int32) = (1 : Int32))) (decide (T 3 (-1 : Int32).toNatClampNeg = 0))) = (-7100) from by rw [hkz_120]; rfl]
  refine lv_sipush (v := (-7100)) hx hb dL_valves_123 (by decide) ?_
  refine lv_icmp_ne (tgt := 186) hx hb dL_valves_126 (by decide) (fun zc_6 => absurd zc_6 (by decide)) (fun _ => ?_)
  refine lv_aload_n hx hb dL_valves_129 rfl (lv_at hl 2 rfl) ?_
  refine lv_iload hx hb dL_valves_130 (lv_at hl 14 rfl) ?_
  refine lv_iconst (v := 1) hx hb dL_valves_132 (by decide) ?_
  refine lv_iconst (v := 1) hx hb dL_valves_133 (by decide) ?_
  have hkz_134 : sK3 (sIx (nI jv) 8) (((sEnd (1 : Int32)) && (sEnd (1 : Int32))) && !decide ((1 : Int32) = (1 : Int32))) (decide (T 3 (nI jv).toNatClampNeg = 0)) = 2 := (sK3_2' (sIx_y hjv (by omega)) (by decide))
  refine z_xR (G := G) (w := w) (c2 := 6) (s2 := 36) (vx_runSX (hh := [(0, 9, 12, 14), (0, 9, 18, 16), (0, 9, 24, 18)]) (As := [.ref (r 0), .int (nI jv), .int 1, .int 1]) (rest := []) ⟨hx, hb, hml, hown, hts⟩ (h_pipe l hst G d r A mc g N T w K (nI jv) (1 : Int32) (1 : Int32) Hz.size hC hJ.1.1 (by omega) ) (vx_cwSW 4 hts gL_valves_L_pipe rfl rfl rfl (by decide +kernel) ⟨Nat.le_of_ble_eq_true rfl, Nat.le_of_ble_eq_true rfl⟩) (z_hs hK (z_apR hP) (z_dR hD) hZ hLx hS hA) rfl rfl hl.1 rfl (lv_room (Nat.le_of_ble_eq_true rfl)) dL_valves_134 ⟨(show 4 + 2 ≤ 400 by omega), (show 24 + 12 ≤ 2400 by omega)⟩) hP hD hS hA (show 4 + 2 ≤ 6 by omega) (show 24 + 12 ≤ 36 by omega) (fun rz_7 zw_7 Hz Lz hq hP hD hS => ?_)
  obtain ⟨hr9, hw9⟩ := hq.2 (by rw [hkz_134]; decide)
  rw [hw9] at hP hD
  rw [hr9, show zCx [-7100, -7200, -7300] (sK3 (sIx (nI jv) 8) (((sEnd (1 : Int32)) && (sEnd (1 : Int32))) && !decide ((1 : Int32) = (1 : Int32))) (decide (T 3 (nI jv).toNatClampNeg = 0))) = (-7200) from by rw [hkz_134]; rfl]
  refine lv_sipush (v := (-7200)) hx hb dL_valves_137 (by decide) ?_
  refine lv_icmp_ne (tgt := 186) hx hb dL_valves_140 (by decide) (fun zc_8 => absurd zc_8 (by decide)) (fun _ => ?_)
  refine lv_aload_n hx hb dL_valves_143 rfl (lv_at hl 2 rfl) ?_
  refine lv_iload hx hb dL_valves_144 (lv_at hl 14 rfl) ?_
  refine lv_iconst (v := (-1)) hx hb dL_valves_146 (by decide) ?_
  refine lv_iconst (v := (-1)) hx hb dL_valves_147 (by decide) ?_
  have hkz_148 : sK3 (sIx (nI jv) 8) (((sEnd (-1 : Int32)) && (sEnd (-1 : Int32))) && !decide ((-1 : Int32) = (-1 : Int32))) (decide (T 3 (nI jv).toNatClampNeg = 0)) = 2 := (sK3_2' (sIx_y hjv (by omega)) (by decide))
  refine z_xR (G := G) (w := w) (c2 := 8) (s2 := 48) (vx_runSX (hh := [(0, 9, 12, 14), (0, 9, 18, 16), (0, 9, 24, 18)]) (As := [.ref (r 0), .int (nI jv), .int (-1), .int (-1)]) (rest := []) ⟨hx, hb, hml, hown, hts⟩ (h_pipe l hst G d r A mc g N T w K (nI jv) (-1 : Int32) (-1 : Int32) Hz.size hC hJ.1.1 (by omega) ) (vx_cwSW 4 hts gL_valves_L_pipe rfl rfl rfl (by decide +kernel) ⟨Nat.le_of_ble_eq_true rfl, Nat.le_of_ble_eq_true rfl⟩) (z_hs hK (z_apR hP) (z_dR hD) hZ hLx hS hA) rfl rfl hl.1 rfl (lv_room (Nat.le_of_ble_eq_true rfl)) dL_valves_148 ⟨(show 6 + 2 ≤ 400 by omega), (show 36 + 12 ≤ 2400 by omega)⟩) hP hD hS hA (show 6 + 2 ≤ 8 by omega) (show 36 + 12 ≤ 48 by omega) (fun rz_9 zw_9 Hz Lz hq hP hD hS => ?_)
  obtain ⟨hr9, hw9⟩ := hq.2 (by rw [hkz_148]; decide)
  rw [hw9] at hP hD
  rw [hr9, show zCx [-7100, -7200, -7300] (sK3 (sIx (nI jv) 8) (((sEnd (-1 : Int32)) && (sEnd (-1 : Int32))) && !decide ((-1 : Int32) = (-1 : Int32))) (decide (T 3 (nI jv).toNatClampNeg = 0))) = (-7200) from by rw [hkz_148]; rfl]
  refine lv_sipush (v := (-7200)) hx hb dL_valves_151 (by decide) ?_
  refine lv_icmp_ne (tgt := 186) hx hb dL_valves_154 (by decide) (fun zc_10 => absurd zc_10 (by decide)) (fun _ => ?_)
  refine lv_aload_n hx hb dL_valves_157 rfl (lv_at hl 2 rfl) ?_
  refine lv_iload hx hb dL_valves_158 (lv_at hl 14 rfl) ?_
  refine lv_iconst (v := 3) hx hb dL_valves_160 (by decide) ?_
  refine lv_iconst (v := 0) hx hb dL_valves_161 (by decide) ?_
  have hkz_162 : sK3 (sIx (nI jv) 8) (((sEnd (3 : Int32)) && (sEnd (0 : Int32))) && !decide ((3 : Int32) = (0 : Int32))) (decide (T 3 (nI jv).toNatClampNeg = 0)) = 2 := (sK3_2' (sIx_y hjv (by omega)) (by decide))
  refine z_xR (G := G) (w := w) (c2 := 10) (s2 := 60) (vx_runSX (hh := [(0, 9, 12, 14), (0, 9, 18, 16), (0, 9, 24, 18)]) (As := [.ref (r 0), .int (nI jv), .int 3, .int 0]) (rest := []) ⟨hx, hb, hml, hown, hts⟩ (h_pipe l hst G d r A mc g N T w K (nI jv) (3 : Int32) (0 : Int32) Hz.size hC hJ.1.1 (by omega) ) (vx_cwSW 4 hts gL_valves_L_pipe rfl rfl rfl (by decide +kernel) ⟨Nat.le_of_ble_eq_true rfl, Nat.le_of_ble_eq_true rfl⟩) (z_hs hK (z_apR hP) (z_dR hD) hZ hLx hS hA) rfl rfl hl.1 rfl (lv_room (Nat.le_of_ble_eq_true rfl)) dL_valves_162 ⟨(show 8 + 2 ≤ 400 by omega), (show 48 + 12 ≤ 2400 by omega)⟩) hP hD hS hA (show 8 + 2 ≤ 10 by omega) (show 48 + 12 ≤ 60 by omega) (fun rz_11 zw_11 Hz Lz hq hP hD hS => ?_)
  obtain ⟨hr9, hw9⟩ := hq.2 (by rw [hkz_162]; decide)
  rw [hw9] at hP hD
  rw [hr9, show zCx [-7100, -7200, -7300] (sK3 (sIx (nI jv) 8) (((sEnd (3 : Int32)) && (sEnd (0 : Int32))) && !decide ((3 : Int32) = (0 : Int32))) (decide (T 3 (nI jv).toNatClampNeg = 0))) = (-7200) from by rw [hkz_162]; rfl]
  refine lv_sipush (v := (-7200)) hx hb dL_valves_165 (by decide) ?_
  refine lv_icmp_ne (tgt := 186) hx hb dL_valves_168 (by decide) (fun zc_12 => absurd zc_12 (by decide)) (fun _ => ?_)
  refine lv_aload_n hx hb dL_valves_171 rfl (lv_at hl 2 rfl) ?_
  refine lv_iload hx hb dL_valves_172 (lv_at hl 14 rfl) ?_
  refine lv_iconst (v := 0) hx hb dL_valves_174 (by decide) ?_
  refine lv_bipush (v := (-2)) hx hb dL_valves_175 (by decide) ?_
  have hkz_177 : sK3 (sIx (nI jv) 8) (((sEnd (0 : Int32)) && (sEnd (-2 : Int32))) && !decide ((0 : Int32) = (-2 : Int32))) (decide (T 3 (nI jv).toNatClampNeg = 0)) = 2 := (sK3_2' (sIx_y hjv (by omega)) (by decide))
  refine z_xR (G := G) (w := w) (c2 := 12) (s2 := 72) (vx_runSX (hh := [(0, 9, 12, 14), (0, 9, 18, 16), (0, 9, 24, 18)]) (As := [.ref (r 0), .int (nI jv), .int 0, .int (-2)]) (rest := []) ⟨hx, hb, hml, hown, hts⟩ (h_pipe l hst G d r A mc g N T w K (nI jv) (0 : Int32) (-2 : Int32) Hz.size hC hJ.1.1 (by omega) ) (vx_cwSW 4 hts gL_valves_L_pipe rfl rfl rfl (by decide +kernel) ⟨Nat.le_of_ble_eq_true rfl, Nat.le_of_ble_eq_true rfl⟩) (z_hs hK (z_apR hP) (z_dR hD) hZ hLx hS hA) rfl rfl hl.1 rfl (lv_room (Nat.le_of_ble_eq_true rfl)) dL_valves_177 ⟨(show 10 + 2 ≤ 400 by omega), (show 60 + 12 ≤ 2400 by omega)⟩) hP hD hS hA (show 10 + 2 ≤ 12 by omega) (show 60 + 12 ≤ 72 by omega) (fun rz_13 zw_13 Hz Lz hq hP hD hS => ?_)
  obtain ⟨hr9, hw9⟩ := hq.2 (by rw [hkz_177]; decide)
  rw [hw9] at hP hD
  rw [hr9, show zCx [-7100, -7200, -7300] (sK3 (sIx (nI jv) 8) (((sEnd (0 : Int32)) && (sEnd (-2 : Int32))) && !decide ((0 : Int32) = (-2 : Int32))) (decide (T 3 (nI jv).toNatClampNeg = 0))) = (-7200) from by rw [hkz_177]; rfl]
  refine lv_sipush (v := (-7200)) hx hb dL_valves_180 (by decide) ?_
  refine lv_icmp_eq (tgt := 188) hx hb dL_valves_183 (by decide) (fun _ => ?_) (fun zc_14 => absurd zc_14 (by decide))
  refine lv_iload hx hb dL_valves_188 (lv_at hl 1 rfl) ?_
  refine lv_iload hx hb dL_valves_190 (lv_at hl 0 rfl) ?_
  refine lv_icmp_ne (tgt := 217) hx hb dL_valves_192 (by decide) (fun zc_15 => ?_) (fun zc_15 => ?_)
  · skip
    have hne := zc_15
    refine lv_aload hx hb dL_valves_217 (lv_at hl 6 rfl) ?_
    refine lv_aload hx hb dL_valves_219 (lv_at hl 12 rfl) ?_
    refine lv_iload hx hb dL_valves_221 (lv_at hl 14 rfl) ?_
    refine z_csi (va_Run.run (va_runS (As := [.ref (u 0), .ref (u 9), .int (nI jv)]) (rest := []) ⟨hx, hb, hml, hown, hts⟩ (c_L_opened l G u E F N T (nI jv) hQ (vp_in_nI (by omega) (by omega))) (va_cwS 3 hts gL_valves_L_opened rfl rfl rfl (by decide +kernel) ⟨Nat.le_of_ble_eq_true rfl, Nat.le_of_ble_eq_true rfl⟩) (z_ps hK (z_apL hP)) rfl rfl hl.1 rfl (lv_room (Nat.le_of_ble_eq_true rfl)) dL_valves_223 ⟨(show 12 + 0 ≤ 400 by omega), (show 72 + 0 ≤ 2400 by omega)⟩)) (fun zr_16 hzr_16 => ?_)
    subst hzr_16
    refine lv_if_eq (tgt := 251) hx hb dL_valves_226 (by decide) (fun zc_17 => ?_) (fun zc_17 => ?_)
    · skip
      have hop := zc_17
      refine lv_aload hx hb dL_valves_251 (lv_at hl 7 rfl) ?_
      refine lv_iload hx hb dL_valves_253 (lv_at hl 14 rfl) ?_
      refine lv_iload hx hb dL_valves_255 (lv_at hl 1 rfl) ?_
      refine lv_iconst (v := 1) hx hb dL_valves_257 (by decide) ?_
      refine lv_iadd hx hb dL_valves_258 ?_
      refine lv_iconst (v := 4) hx hb dL_valves_259 (by decide) ?_
      refine lv_iload hx hb dL_valves_260 (lv_at hl 0 rfl) ?_
      refine lv_iconst (v := 1) hx hb dL_valves_262 (by decide) ?_
      refine lv_iadd hx hb dL_valves_263 ?_
      refine lv_imul hx hb dL_valves_264 ?_
      refine lv_iadd hx hb dL_valves_265 ?_
      refine va_iast hx hb hK hP hD hS 1 0 rfl rfl (by first | assumption | exact sIx_in.mp (by assumption) | exact vp_in_nI (by omega) (by omega)) dL_valves_266 (fun Hz Lz hP hD hS => ?_)
      rw [nI_clamp (by omega)] at hP hD
      have hP : va_P G.1 vwCl (([(u 0, .inl (G.2 1, 64, .inr (.inl E))), (u 1, .inl (G.2 0, 8, .inl (upd (F 1) jv ((((nI ja) - 1) + 1) + (4 * (((nI jb) - 1) + 1)))))), (u 2, .inl (G.2 0, 3, .inl (F 2))), (u 3, .inl (G.2 0, 3, .inl (F 3))), (u 4, .inl (G.2 0, 40, .inl (F 4))), (u 5, .inl (G.2 0, 40, .inl (F 5))), (u 6, .inl (G.2 0, 9, .inl (F 6))), (u 7, .inl (G.2 0, 12, .inl (F 7))), (u 8, .inl (G.2 0, 12, .inl (F 8))), (u 9, .inl (G.2 0, 10, .inl (F 9)))] : va_W) ++ w) Hz := hP
      have hD : va_D Aw (([(u 0, .inl (G.2 1, 64, .inr (.inl E))), (u 1, .inl (G.2 0, 8, .inl (upd (F 1) jv ((((nI ja) - 1) + 1) + (4 * (((nI jb) - 1) + 1)))))), (u 2, .inl (G.2 0, 3, .inl (F 2))), (u 3, .inl (G.2 0, 3, .inl (F 3))), (u 4, .inl (G.2 0, 40, .inl (F 4))), (u 5, .inl (G.2 0, 40, .inl (F 5))), (u 6, .inl (G.2 0, 9, .inl (F 6))), (u 7, .inl (G.2 0, 12, .inl (F 7))), (u 8, .inl (G.2 0, 12, .inl (F 8))), (u 9, .inl (G.2 0, 10, .inl (F 9)))] : va_W) ++ w) := hD
      have hRn : sLR N (nPipe N T (nI jv) (nI ja - 1) (nI jb - 1)).2 E (va_up F 1 (upd (F 1) jv ((((nI ja) - 1) + 1) + (4 * (((nI jb) - 1) + 1))))) := by
        have h9 := sLR_pipe (v := nI jv) (f := (nI ja - 1)) (t := (nI jb - 1)) hR (by rw [nI_clamp (by omega)]; omega)
        rw [nI_clamp (by omega)] at h9
        exact h9
      have hP : va_P G.1 vwCl (([(u 0, .inl (G.2 1, 64, .inr (.inl E))), (u 1, .inl (G.2 0, 8, .inl (upd (F 1) jv ((((nI ja) - 1) + 1) + (4 * (((nI jb) - 1) + 1)))))), (u 2, .inl (G.2 0, 3, .inl (F 2))), (u 3, .inl (G.2 0, 3, .inl (F 3))), (u 4, .inl (G.2 0, 40, .inl (F 4))), (u 5, .inl (G.2 0, 40, .inl (F 5))), (u 6, .inl (G.2 0, 9, .inl (F 6))), (u 7, .inl (G.2 0, 12, .inl (F 7))), (u 8, .inl (G.2 0, 12, .inl (F 8))), (u 9, .inl (G.2 0, 10, .inl (F 9)))] : va_W) ++ w) Hz := hP
      have hD : va_D Aw (([(u 0, .inl (G.2 1, 64, .inr (.inl E))), (u 1, .inl (G.2 0, 8, .inl (upd (F 1) jv ((((nI ja) - 1) + 1) + (4 * (((nI jb) - 1) + 1)))))), (u 2, .inl (G.2 0, 3, .inl (F 2))), (u 3, .inl (G.2 0, 3, .inl (F 3))), (u 4, .inl (G.2 0, 40, .inl (F 4))), (u 5, .inl (G.2 0, 40, .inl (F 5))), (u 6, .inl (G.2 0, 9, .inl (F 6))), (u 7, .inl (G.2 0, 12, .inl (F 7))), (u 8, .inl (G.2 0, 12, .inl (F 8))), (u 9, .inl (G.2 0, 10, .inl (F 9)))] : va_W) ++ w) := hD
      refine lv_aload_n hx hb dL_valves_267 rfl (lv_at hl 2 rfl) ?_
      refine lv_iload hx hb dL_valves_268 (lv_at hl 14 rfl) ?_
      refine lv_iload hx hb dL_valves_270 (lv_at hl 1 rfl) ?_
      refine lv_iload hx hb dL_valves_272 (lv_at hl 0 rfl) ?_
      have hkz_274 : sK3 (sIx (nI jv) 8) (((sEnd ((nI ja) - 1)) && (sEnd ((nI jb) - 1))) && !decide (((nI ja) - 1) = ((nI jb) - 1))) (decide (T 3 (nI jv).toNatClampNeg = 0)) = 0 := (sK3_ok (sIx_y hjv (by omega)) (sAnd_y (sAnd_y (sEnd_m1 hja) (sEnd_m1 hjb)) (by simp [hne])) (decide_eq_true hop))
      refine z_xR (G := G) (w := w) (c2 := 14) (s2 := 84) (vx_runSX (hh := [(0, 9, 12, 14), (0, 9, 18, 16), (0, 9, 24, 18)]) (As := [.ref (r 0), .int (nI jv), .int ((nI ja) - 1), .int ((nI jb) - 1)]) (rest := []) ⟨hx, hb, hml, hown, hts⟩ (h_pipe l hst G d r A mc g N T w K (nI jv) ((nI ja) - 1) ((nI jb) - 1) Hz.size hC hJ.1.1 (by omega) ) (vx_cwSW 4 hts gL_valves_L_pipe rfl rfl rfl (by decide +kernel) ⟨Nat.le_of_ble_eq_true rfl, Nat.le_of_ble_eq_true rfl⟩) (z_hs hK (z_apR hP) (z_dR hD) hZ hLx hS hA) rfl rfl hl.1 rfl (lv_room (Nat.le_of_ble_eq_true rfl)) dL_valves_274 ⟨(show 12 + 2 ≤ 400 by omega), (show 72 + 12 ≤ 2400 by omega)⟩) hP hD hS hA (show 12 + 2 ≤ 14 by omega) (show 72 + 12 ≤ 84 by omega) (fun rz_18 zw_18 Hz Lz hq hP hD hS => ?_)
      obtain ⟨hr9, A, mc, g, hC⟩ := hq.1 hkz_274
      rw [hr9]
      refine lv_aload hx hb dL_valves_277 (lv_at hl 6 rfl) ?_
      refine lv_aload hx hb dL_valves_279 (lv_at hl 9 rfl) ?_
      refine lv_aload hx hb dL_valves_281 (lv_at hl 12 rfl) ?_
      refine lv_iload hx hb dL_valves_283 (lv_at hl 14 rfl) ?_
      refine z_csi (va_Run.run (va_runS (As := [.ref (u 0), .ref (u 4), .ref (u 9), .int (nI jv)]) (rest := [.int (nI (sOn N T (nI jv)))]) ⟨hx, hb, hml, hown, hts⟩ (c_L_hanging l G u E (va_up F 1 (upd (F 1) jv ((((nI ja) - 1) + 1) + (4 * (((nI jb) - 1) + 1))))) N T (nI jv) (hQ.f1 _)) (va_cwS 4 hts gL_valves_L_hanging rfl rfl rfl (by decide +kernel) ⟨Nat.le_of_ble_eq_true rfl, Nat.le_of_ble_eq_true rfl⟩) (z_ps hK (z_apL hP)) rfl rfl hl.1 rfl (lv_room (Nat.le_of_ble_eq_true rfl)) dL_valves_285 ⟨(show 14 + 0 ≤ 400 by omega), (show 84 + 0 ≤ 2400 by omega)⟩)) (fun zr_19 hzr_19 => ?_)
      subst hzr_19
      refine lv_icmp_ne (tgt := 295) hx hb dL_valves_288 (by decide) (fun zc_20 => absurd rfl zc_20) (fun _ => ?_)
      refine lv_iconst (v := 1) hx hb dL_valves_291 (by decide) ?_
      refine lv_goto (tgt := 296) hx hb dL_valves_292 (by decide) ?_
      exact z_widen (k := 400) (n := 2400) (show 14 ≤ 400 by omega) (show 84 ≤ 2400 by omega) (W.zret (v := 1) hx hb hr rfl (fun t ht hW => ⟨⟨1, (([(u 0, .inl (G.2 1, 64, .inr (.inl E))), (u 1, .inl (G.2 0, 8, .inl (upd (F 1) jv ((((nI ja) - 1) + 1) + (4 * (((nI jb) - 1) + 1)))))), (u 2, .inl (G.2 0, 3, .inl (F 2))), (u 3, .inl (G.2 0, 3, .inl (F 3))), (u 4, .inl (G.2 0, 40, .inl (F 4))), (u 5, .inl (G.2 0, 40, .inl (F 5))), (u 6, .inl (G.2 0, 9, .inl (F 6))), (u 7, .inl (G.2 0, 12, .inl (F 7))), (u 8, .inl (G.2 0, 12, .inl (F 8))), (u 9, .inl (G.2 0, 10, .inl (F 9)))] : va_W) ++ zw_18), rfl, ⟨rfl, N, ((nPipe N T (nI jv) ((nI ja) - 1) ((nI jb) - 1)).2), E, (va_up F 1 (upd (F 1) jv ((((nI ja) - 1) + 1) + (4 * (((nI jb) - 1) + 1))))), zw_18, rfl, ⟨A, mc, g, hC⟩, hRn, ((sLJ_pipe hJ hkz_274).mono (by omega))⟩, ⟨by rw [ht]; exact hP, hD⟩⟩, hS.F ht⟩) hS.2.2 dL_valves_296 hlocks)
    · skip
      have hop := zc_17
      refine lv_aload_n hx hb dL_valves_229 rfl (lv_at hl 2 rfl) ?_
      refine lv_iload hx hb dL_valves_230 (lv_at hl 14 rfl) ?_
      refine lv_iload hx hb dL_valves_232 (lv_at hl 1 rfl) ?_
      refine lv_iload hx hb dL_valves_234 (lv_at hl 0 rfl) ?_
      have hkz_236 : sK3 (sIx (nI jv) 8) (((sEnd ((nI ja) - 1)) && (sEnd ((nI jb) - 1))) && !decide (((nI ja) - 1) = ((nI jb) - 1))) (decide (T 3 (nI jv).toNatClampNeg = 0)) = 3 := (sK3_3' (sIx_y hjv (by omega)) (sAnd_y (sAnd_y (sEnd_m1 hja) (sEnd_m1 hjb)) (by simp [hne])) (decide_eq_false hop))
      refine z_xR (G := G) (w := w) (c2 := 14) (s2 := 84) (vx_runSX (hh := [(0, 9, 12, 14), (0, 9, 18, 16), (0, 9, 24, 18)]) (As := [.ref (r 0), .int (nI jv), .int ((nI ja) - 1), .int ((nI jb) - 1)]) (rest := []) ⟨hx, hb, hml, hown, hts⟩ (h_pipe l hst G d r A mc g N T w K (nI jv) ((nI ja) - 1) ((nI jb) - 1) Hz.size hC hJ.1.1 (by omega) ) (vx_cwSW 4 hts gL_valves_L_pipe rfl rfl rfl (by decide +kernel) ⟨Nat.le_of_ble_eq_true rfl, Nat.le_of_ble_eq_true rfl⟩) (z_hs hK (z_apR hP) (z_dR hD) hZ hLx hS hA) rfl rfl hl.1 rfl (lv_room (Nat.le_of_ble_eq_true rfl)) dL_valves_236 ⟨(show 12 + 2 ≤ 400 by omega), (show 72 + 12 ≤ 2400 by omega)⟩) hP hD hS hA (show 12 + 2 ≤ 14 by omega) (show 72 + 12 ≤ 84 by omega) (fun rz_21 zw_21 Hz Lz hq hP hD hS => ?_)
      obtain ⟨hr9, hw9⟩ := hq.2 (by rw [hkz_236]; decide)
      rw [hw9] at hP hD
      rw [hr9, show zCx [-7100, -7200, -7300] (sK3 (sIx (nI jv) 8) (((sEnd ((nI ja) - 1)) && (sEnd ((nI jb) - 1))) && !decide (((nI ja) - 1) = ((nI jb) - 1))) (decide (T 3 (nI jv).toNatClampNeg = 0))) = (-7300) from by rw [hkz_236]; rfl]
      refine lv_sipush (v := (-7300)) hx hb dL_valves_239 (by decide) ?_
      refine lv_icmp_ne (tgt := 249) hx hb dL_valves_242 (by decide) (fun zc_22 => absurd zc_22 (by decide)) (fun _ => ?_)
      refine lv_iconst (v := 1) hx hb dL_valves_245 (by decide) ?_
      refine lv_goto (tgt := 250) hx hb dL_valves_246 (by decide) ?_
      exact z_widen (k := 400) (n := 2400) (show 14 ≤ 400 by omega) (show 84 ≤ 2400 by omega) (W.zret (v := 1) hx hb hr rfl (fun t ht hW => ⟨⟨1, (([(u 0, .inl (G.2 1, 64, .inr (.inl E))), (u 1, .inl (G.2 0, 8, .inl (F 1))), (u 2, .inl (G.2 0, 3, .inl (F 2))), (u 3, .inl (G.2 0, 3, .inl (F 3))), (u 4, .inl (G.2 0, 40, .inl (F 4))), (u 5, .inl (G.2 0, 40, .inl (F 5))), (u 6, .inl (G.2 0, 9, .inl (F 6))), (u 7, .inl (G.2 0, 12, .inl (F 7))), (u 8, .inl (G.2 0, 12, .inl (F 8))), (u 9, .inl (G.2 0, 10, .inl (F 9)))] : va_W) ++ w), rfl, ⟨rfl, N, T, E, F, w, rfl, ⟨A, mc, g, hC⟩, hR, (hJ.mono (by omega))⟩, ⟨by rw [ht]; exact hP, hD⟩⟩, hS.F ht⟩) hS.2.2 dL_valves_250 hlocks)
  · skip
    have heq9 := zc_15
    refine lv_aload_n hx hb dL_valves_195 rfl (lv_at hl 2 rfl) ?_
    refine lv_iload hx hb dL_valves_196 (lv_at hl 14 rfl) ?_
    refine lv_iload hx hb dL_valves_198 (lv_at hl 1 rfl) ?_
    refine lv_iload hx hb dL_valves_200 (lv_at hl 0 rfl) ?_
    have hkz_202 : sK3 (sIx (nI jv) 8) (((sEnd ((nI ja) - 1)) && (sEnd ((nI jb) - 1))) && !decide (((nI ja) - 1) = ((nI jb) - 1))) (decide (T 3 (nI jv).toNatClampNeg = 0)) = 2 := (sK3_2' (sIx_y hjv (by omega)) (sAnd_r (by simp [heq9])))
    refine z_xR (G := G) (w := w) (c2 := 14) (s2 := 84) (vx_runSX (hh := [(0, 9, 12, 14), (0, 9, 18, 16), (0, 9, 24, 18)]) (As := [.ref (r 0), .int (nI jv), .int ((nI ja) - 1), .int ((nI jb) - 1)]) (rest := []) ⟨hx, hb, hml, hown, hts⟩ (h_pipe l hst G d r A mc g N T w K (nI jv) ((nI ja) - 1) ((nI jb) - 1) Hz.size hC hJ.1.1 (by omega) ) (vx_cwSW 4 hts gL_valves_L_pipe rfl rfl rfl (by decide +kernel) ⟨Nat.le_of_ble_eq_true rfl, Nat.le_of_ble_eq_true rfl⟩) (z_hs hK (z_apR hP) (z_dR hD) hZ hLx hS hA) rfl rfl hl.1 rfl (lv_room (Nat.le_of_ble_eq_true rfl)) dL_valves_202 ⟨(show 12 + 2 ≤ 400 by omega), (show 72 + 12 ≤ 2400 by omega)⟩) hP hD hS hA (show 12 + 2 ≤ 14 by omega) (show 72 + 12 ≤ 84 by omega) (fun rz_23 zw_23 Hz Lz hq hP hD hS => ?_)
    obtain ⟨hr9, hw9⟩ := hq.2 (by rw [hkz_202]; decide)
    rw [hw9] at hP hD
    rw [hr9, show zCx [-7100, -7200, -7300] (sK3 (sIx (nI jv) 8) (((sEnd ((nI ja) - 1)) && (sEnd ((nI jb) - 1))) && !decide (((nI ja) - 1) = ((nI jb) - 1))) (decide (T 3 (nI jv).toNatClampNeg = 0))) = (-7200) from by rw [hkz_202]; rfl]
    refine lv_sipush (v := (-7200)) hx hb dL_valves_205 (by decide) ?_
    refine lv_icmp_ne (tgt := 215) hx hb dL_valves_208 (by decide) (fun zc_24 => absurd zc_24 (by decide)) (fun _ => ?_)
    refine lv_iconst (v := 1) hx hb dL_valves_211 (by decide) ?_
    refine lv_goto (tgt := 216) hx hb dL_valves_212 (by decide) ?_
    exact z_widen (k := 400) (n := 2400) (show 14 ≤ 400 by omega) (show 84 ≤ 2400 by omega) (W.zret (v := 1) hx hb hr rfl (fun t ht hW => ⟨⟨1, (([(u 0, .inl (G.2 1, 64, .inr (.inl E))), (u 1, .inl (G.2 0, 8, .inl (F 1))), (u 2, .inl (G.2 0, 3, .inl (F 2))), (u 3, .inl (G.2 0, 3, .inl (F 3))), (u 4, .inl (G.2 0, 40, .inl (F 4))), (u 5, .inl (G.2 0, 40, .inl (F 5))), (u 6, .inl (G.2 0, 9, .inl (F 6))), (u 7, .inl (G.2 0, 12, .inl (F 7))), (u 8, .inl (G.2 0, 12, .inl (F 8))), (u 9, .inl (G.2 0, 10, .inl (F 9)))] : va_W) ++ w), rfl, ⟨rfl, N, T, E, F, w, rfl, ⟨A, mc, g, hC⟩, hR, (hJ.mono (by omega))⟩, ⟨by rw [ht]; exact hP, hD⟩⟩, hS.F ht⟩) hS.2.2 dL_valves_216 hlocks)

set_option maxHeartbeats 4000000 in
set_option maxRecDepth 100000 in
theorem vvalves_302 {p : Program} {l : Launch} {e : Env} {s : State} {m : MethodId} {below : List Frame} {meth : Method} {c : Code} {G : zG} {d : Nat} {r u : Nat → Nat} {act x y : Int32} {Aw : Nat → Prop} (hst : l.stackTraces = false) (hx : p.tables.exec = Jvm.exec) (hb : c.code = cL_valves) (hr : meth.sig.returnType = some .boolean) (hml : c.maxLocals = 17) (hown : s.vm.findClass RL = some m.cls) (hts : ∀ w ∈ wsL_valves, w.before ([.ref (r 0), .int act, .int x, .int y, .ref (u 0), .ref (u 1), .ref (u 3), .ref (u 4), .ref (u 5), .ref (u 6), .ref (u 9)] : List Value).toArray s = true) (hlocks : meth.locks = false) (hK : va_K G.1 vwCl (zT G.2) s) (hZ : zCe Aw d s s.heap) (hLx : zLx s) (hA : ∀ q : Nat, s.heap.size ≤ q → Aw q) {A : Nat → Nat} {mc : Nat → Int32} {g : Nat → Nat → Int32} {N : Nat → Nat} {T : Nat → Nat → Int32} {w : va_W} {E : Nat → Int64} {F : Nat → Nat → Int32} {K : Nat} (hC : sCQ G d r A mc g N T w) (hR : sLR N T E F) (hJ : sLJ N T K) (hK5 : K ≤ 400) (hh9 : N 1 ≤ 90 ∧ N 0 ≤ 1900) {jp jv : Nat} (hjp : jp < 9) (hjv : jv < 8) {H : Heap} {locs : List Loc} (hP : va_P G.1 vwCl (([(u 0, .inl (G.2 1, 64, .inr (.inl E))), (u 1, .inl (G.2 0, 8, .inl (F 1))), (u 2, .inl (G.2 0, 3, .inl (F 2))), (u 3, .inl (G.2 0, 3, .inl (F 3))), (u 4, .inl (G.2 0, 40, .inl (F 4))), (u 5, .inl (G.2 0, 40, .inl (F 5))), (u 6, .inl (G.2 0, 9, .inl (F 6))), (u 7, .inl (G.2 0, 12, .inl (F 7))), (u 8, .inl (G.2 0, 12, .inl (F 8))), (u 9, .inl (G.2 0, 10, .inl (F 9)))] : va_W) ++ w) H) (hD : va_D Aw (([(u 0, .inl (G.2 1, 64, .inr (.inl E))), (u 1, .inl (G.2 0, 8, .inl (F 1))), (u 2, .inl (G.2 0, 3, .inl (F 2))), (u 3, .inl (G.2 0, 3, .inl (F 3))), (u 4, .inl (G.2 0, 40, .inl (F 4))), (u 5, .inl (G.2 0, 40, .inl (F 5))), (u 6, .inl (G.2 0, 9, .inl (F 6))), (u 7, .inl (G.2 0, 12, .inl (F 7))), (u 8, .inl (G.2 0, 12, .inl (F 8))), (u 9, .inl (G.2 0, 10, .inl (F 9)))] : va_W) ++ w)) (hS : va_S Aw s.heap H locs) {ls : Array Slot} (hl : lv_has ls 17 [(0, .ref (r 0)), (1, .int act), (2, .int x), (3, .int y), (4, .ref (u 0)), (5, .ref (u 1)), (6, .ref (u 3)), (7, .ref (u 4)), (8, .ref (u 5)), (9, .ref (u 6)), (10, .ref (u 9)), (11, .int (nI jp)), (12, .int (nI jv))]) : W p l e (headSpec wsL_valves ({ frames := 9, cells := 400, slots := 2400, locals := 223 })).room s m ([.ref (r 0), .int act, .int x, .int y, .ref (u 0), .ref (u 1), .ref (u 3), .ref (u 4), .ref (u 5), .ref (u 6), .ref (u 9)] : List Value).toArray below meth c H locs 0 0 (MQ below (va_Qi (fun (r1 : Int32) (wz : va_W) => r1 = 1 ∧ ∃ (N2 : Nat → Nat) (T2 : Nat → Nat → Int32) (E2 : Nat → Int64) (F2 : Nat → Nat → Int32) (w2 : va_W), wz = LW G u E2 F2 ++ w2 ∧ sCO G d r N2 T2 w2 ∧ sLR N2 T2 E2 F2 ∧ sLJ N2 T2 (K + 2)) (zB G Aw) Aw) ([.ref (r 0), .int act, .int x, .int y, .ref (u 0), .ref (u 1), .ref (u 3), .ref (u 4), .ref (u 5), .ref (u 6), .ref (u 9)] : List Value).toArray s 400 2400 Aw) (F0 m 302 ls []) := by
  have hQ := hR.q hJ
  obtain ⟨hg0, hg1, hg2, hg3, hg4, hg5, hg6, hg7, hg8⟩ := hR.2.2.2.2.2.2.2.2.2
  obtain ⟨⟨hb1, hb0, hb3, hb4, hb5⟩, hlv, hlm, hLH⟩ := id hJ.2
  obtain ⟨⟨hi0, hi2, hi3, hi4, hi5, hi6, hi1⟩, hiB, hiE, hiT, hiA, hiA0, hiM, hiK, hiK0, hiX⟩ := id hJ.1.1
  have hLG := hJ.1.2
  have hS0z : va_S Aw s.heap s.heap [] := va_S.rf
  obtain ⟨bo, hbo⟩ : ∃ b : Bool, b = !decide (x &&& 768 ≤ 0) := ⟨_, rfl⟩
  refine lv_iload_n hx hb dL_valves_302 rfl (lv_at hl 2 rfl) ?_
  refine lv_sipush (v := 768) hx hb dL_valves_303 (by decide) ?_
  refine lv_iand hx hb dL_valves_306 ?_
  have cut_315 : W p l e (headSpec wsL_valves ({ frames := 9, cells := 400, slots := 2400, locals := 223 })).room s m ([.ref (r 0), .int act, .int x, .int y, .ref (u 0), .ref (u 1), .ref (u 3), .ref (u 4), .ref (u 5), .ref (u 6), .ref (u 9)] : List Value).toArray below meth c H locs (0) (0) (MQ below (va_Qi (fun (r1 : Int32) (wz : va_W) => r1 = 1 ∧ ∃ (N2 : Nat → Nat) (T2 : Nat → Nat → Int32) (E2 : Nat → Int64) (F2 : Nat → Nat → Int32) (w2 : va_W), wz = LW G u E2 F2 ++ w2 ∧ sCO G d r N2 T2 w2 ∧ sLR N2 T2 E2 F2 ∧ sLJ N2 T2 (K + 2)) (zB G Aw) Aw) ([.ref (r 0), .int act, .int x, .int y, .ref (u 0), .ref (u 1), .ref (u 3), .ref (u 4), .ref (u 5), .ref (u 6), .ref (u 9)] : List Value).toArray s 400 2400 Aw) (F0 m 315 ls [.int (zb bo)]) := by
    refine lv_istore (lv' := [(13, .int (zb bo)), (0, .ref (r 0)), (1, .int act), (2, .int x), (3, .int y), (4, .ref (u 0)), (5, .ref (u 1)), (6, .ref (u 3)), (7, .ref (u 4)), (8, .ref (u 5)), (9, .ref (u 6)), (10, .ref (u 9)), (11, .int (nI jp)), (12, .int (nI jv))]) hx hb dL_valves_315 hl (by decide) rfl (fun ls hl => ?_)
    refine lv_aload_n hx hb dL_valves_317 rfl (lv_at hl 1 rfl) ?_
    refine lv_bipush (v := 9) hx hb dL_valves_318 (by decide) ?_
    refine lv_iload hx hb dL_valves_320 (lv_at hl 13 rfl) ?_
    refine lv_iload hx hb dL_valves_322 (lv_at hl 0 rfl) ?_
    have hkz_324 : sK2 ((sIx (9 : Int32) 9) && (sIx (nI jv) 8)) (decide (sBars N T (9 : Int32) (nI jv) = 0)) = 1 := (sK2_1' (sAnd_l (show sIx (9 : Int32) 9 = false from by decide)))
    have hzb_324 : (8 + zmc (sK2 ((sIx (9 : Int32) 9) && (sIx (nI jv) 8)) (decide (sBars N T (9 : Int32) (nI jv) = 0))) (N 1) ((sTurn N T (9 : Int32) (nI jv) bo).1 1)) ≤ 8 ∧ (200 + zms (sK2 ((sIx (9 : Int32) 9) && (sIx (nI jv) 8)) (decide (sBars N T (9 : Int32) (nI jv) = 0))) (N 1) ((sTurn N T (9 : Int32) (nI jv) bo).1 1)) ≤ 200 := zmc_n8 (by rw [hkz_324]; decide)
    refine z_xR (G := G) (w := w) (c2 := 8) (s2 := 200) (vx_runSX (hh := [(0, 9, 12, 14), (0, 9, 18, 18)]) (As := [.ref (r 0), .int 9, .int (nI jv), .int (zb bo)]) (rest := []) ⟨hx, hb, hml, hown, hts⟩ (h_turn l hst G d r A mc g N T w K (9 : Int32) (nI jv) bo H.size hC hJ.1.1 (by omega) ) (vx_cwSW 4 hts gL_valves_L_turn rfl rfl rfl (by decide +kernel) ⟨Nat.le_of_ble_eq_true rfl, Nat.le_of_ble_eq_true rfl⟩) (z_hs hK (z_apR hP) (z_dR hD) hZ hLx hS hA) rfl rfl hl.1 rfl (lv_room (Nat.le_of_ble_eq_true rfl)) dL_valves_324 ⟨(show 0 + (8 + zmc (sK2 ((sIx (9 : Int32) 9) && (sIx (nI jv) 8)) (decide (sBars N T (9 : Int32) (nI jv) = 0))) (N 1) ((sTurn N T (9 : Int32) (nI jv) bo).1 1)) ≤ 400 by omega), (show 0 + (200 + zms (sK2 ((sIx (9 : Int32) 9) && (sIx (nI jv) 8)) (decide (sBars N T (9 : Int32) (nI jv) = 0))) (N 1) ((sTurn N T (9 : Int32) (nI jv) bo).1 1)) ≤ 2400 by omega)⟩) hP hD hS hA (show 0 + (8 + zmc (sK2 ((sIx (9 : Int32) 9) && (sIx (nI jv) 8)) (decide (sBars N T (9 : Int32) (nI jv) = 0))) (N 1) ((sTurn N T (9 : Int32) (nI jv) bo).1 1)) ≤ 8 by omega) (show 0 + (200 + zms (sK2 ((sIx (9 : Int32) 9) && (sIx (nI jv) 8)) (decide (sBars N T (9 : Int32) (nI jv) = 0))) (N 1) ((sTurn N T (9 : Int32) (nI jv) bo).1 1)) ≤ 200 by omega) (fun rz_1 zw_1 Hz Lz hq hP hD hS => ?_)
    obtain ⟨hr9, hw9⟩ := hq.2 (by rw [hkz_324]; decide)
    rw [hw9] at hP hD
    rw [hr9, show zCx [-7100, -7300] (sK2 ((sIx (9 : Int32) 9) && (sIx (nI jv) 8)) (decide (sBars N T (9 : Int32) (nI jv) = 0))) = (-7100) from by rw [hkz_324]; rfl]
    refine lv_sipush (v := (-7100)) hx hb dL_valves_327 (by decide) ?_
    refine lv_icmp_ne (tgt := 363) hx hb dL_valves_330 (by decide) (fun zc_2 => absurd zc_2 (by decide)) (fun _ => ?_)
    refine lv_aload_n hx hb dL_valves_333 rfl (lv_at hl 1 rfl) ?_
    refine lv_iload hx hb dL_valves_334 (lv_at hl 12 rfl) ?_
    refine lv_bipush (v := 8) hx hb dL_valves_336 (by decide) ?_
    refine lv_iload hx hb dL_valves_338 (lv_at hl 0 rfl) ?_
    have hkz_340 : sK2 ((sIx (nI jp) 9) && (sIx (8 : Int32) 8)) (decide (sBars N T (nI jp) (8 : Int32) = 0)) = 1 := (sK2_1' (sAnd_r (show sIx (8 : Int32) 8 = false from by decide)))
    have hzb_340 : (8 + zmc (sK2 ((sIx (nI jp) 9) && (sIx (8 : Int32) 8)) (decide (sBars N T (nI jp) (8 : Int32) = 0))) (N 1) ((sTurn N T (nI jp) (8 : Int32) bo).1 1)) ≤ 8 ∧ (200 + zms (sK2 ((sIx (nI jp) 9) && (sIx (8 : Int32) 8)) (decide (sBars N T (nI jp) (8 : Int32) = 0))) (N 1) ((sTurn N T (nI jp) (8 : Int32) bo).1 1)) ≤ 200 := zmc_n8 (by rw [hkz_340]; decide)
    refine z_xR (G := G) (w := w) (c2 := 16) (s2 := 400) (vx_runSX (hh := [(0, 9, 12, 14), (0, 9, 18, 18)]) (As := [.ref (r 0), .int (nI jp), .int 8, .int (zb bo)]) (rest := []) ⟨hx, hb, hml, hown, hts⟩ (h_turn l hst G d r A mc g N T w K (nI jp) (8 : Int32) bo Hz.size hC hJ.1.1 (by omega) ) (vx_cwSW 4 hts gL_valves_L_turn rfl rfl rfl (by decide +kernel) ⟨Nat.le_of_ble_eq_true rfl, Nat.le_of_ble_eq_true rfl⟩) (z_hs hK (z_apR hP) (z_dR hD) hZ hLx hS hA) rfl rfl hl.1 rfl (lv_room (Nat.le_of_ble_eq_true rfl)) dL_valves_340 ⟨(show 8 + (8 + zmc (sK2 ((sIx (nI jp) 9) && (sIx (8 : Int32) 8)) (decide (sBars N T (nI jp) (8 : Int32) = 0))) (N 1) ((sTurn N T (nI jp) (8 : Int32) bo).1 1)) ≤ 400 by omega), (show 200 + (200 + zms (sK2 ((sIx (nI jp) 9) && (sIx (8 : Int32) 8)) (decide (sBars N T (nI jp) (8 : Int32) = 0))) (N 1) ((sTurn N T (nI jp) (8 : Int32) bo).1 1)) ≤ 2400 by omega)⟩) hP hD hS hA (show 8 + (8 + zmc (sK2 ((sIx (nI jp) 9) && (sIx (8 : Int32) 8)) (decide (sBars N T (nI jp) (8 : Int32) = 0))) (N 1) ((sTurn N T (nI jp) (8 : Int32) bo).1 1)) ≤ 16 by omega) (show 200 + (200 + zms (sK2 ((sIx (nI jp) 9) && (sIx (8 : Int32) 8)) (decide (sBars N T (nI jp) (8 : Int32) = 0))) (N 1) ((sTurn N T (nI jp) (8 : Int32) bo).1 1)) ≤ 400 by omega) (fun rz_3 zw_3 Hz Lz hq hP hD hS => ?_)
    obtain ⟨hr9, hw9⟩ := hq.2 (by rw [hkz_340]; decide)
    rw [hw9] at hP hD
    rw [hr9, show zCx [-7100, -7300] (sK2 ((sIx (nI jp) 9) && (sIx (8 : Int32) 8)) (decide (sBars N T (nI jp) (8 : Int32) = 0))) = (-7100) from by rw [hkz_340]; rfl]
    refine lv_sipush (v := (-7100)) hx hb dL_valves_343 (by decide) ?_
    refine lv_icmp_ne (tgt := 363) hx hb dL_valves_346 (by decide) (fun zc_4 => absurd zc_4 (by decide)) (fun _ => ?_)
    refine lv_aload_n hx hb dL_valves_349 rfl (lv_at hl 1 rfl) ?_
    refine lv_iconst (v := (-1)) hx hb dL_valves_350 (by decide) ?_
    refine lv_iconst (v := (-1)) hx hb dL_valves_351 (by decide) ?_
    refine lv_iload hx hb dL_valves_352 (lv_at hl 0 rfl) ?_
    have hkz_354 : sK2 ((sIx (-1 : Int32) 9) && (sIx (-1 : Int32) 8)) (decide (sBars N T (-1 : Int32) (-1 : Int32) = 0)) = 1 := (sK2_1' (sAnd_l (show sIx (-1 : Int32) 9 = false from by decide)))
    have hzb_354 : (8 + zmc (sK2 ((sIx (-1 : Int32) 9) && (sIx (-1 : Int32) 8)) (decide (sBars N T (-1 : Int32) (-1 : Int32) = 0))) (N 1) ((sTurn N T (-1 : Int32) (-1 : Int32) bo).1 1)) ≤ 8 ∧ (200 + zms (sK2 ((sIx (-1 : Int32) 9) && (sIx (-1 : Int32) 8)) (decide (sBars N T (-1 : Int32) (-1 : Int32) = 0))) (N 1) ((sTurn N T (-1 : Int32) (-1 : Int32) bo).1 1)) ≤ 200 := zmc_n8 (by rw [hkz_354]; decide)
    refine z_xR (G := G) (w := w) (c2 := 24) (s2 := 600) (vx_runSX (hh := [(0, 9, 12, 14), (0, 9, 18, 18)]) (As := [.ref (r 0), .int (-1), .int (-1), .int (zb bo)]) (rest := []) ⟨hx, hb, hml, hown, hts⟩ (h_turn l hst G d r A mc g N T w K (-1 : Int32) (-1 : Int32) bo Hz.size hC hJ.1.1 (by omega) ) (vx_cwSW 4 hts gL_valves_L_turn rfl rfl rfl (by decide +kernel) ⟨Nat.le_of_ble_eq_true rfl, Nat.le_of_ble_eq_true rfl⟩) (z_hs hK (z_apR hP) (z_dR hD) hZ hLx hS hA) rfl rfl hl.1 rfl (lv_room (Nat.le_of_ble_eq_true rfl)) dL_valves_354 ⟨(show 16 + (8 + zmc (sK2 ((sIx (-1 : Int32) 9) && (sIx (-1 : Int32) 8)) (decide (sBars N T (-1 : Int32) (-1 : Int32) = 0))) (N 1) ((sTurn N T (-1 : Int32) (-1 : Int32) bo).1 1)) ≤ 400 by omega), (show 400 + (200 + zms (sK2 ((sIx (-1 : Int32) 9) && (sIx (-1 : Int32) 8)) (decide (sBars N T (-1 : Int32) (-1 : Int32) = 0))) (N 1) ((sTurn N T (-1 : Int32) (-1 : Int32) bo).1 1)) ≤ 2400 by omega)⟩) hP hD hS hA (show 16 + (8 + zmc (sK2 ((sIx (-1 : Int32) 9) && (sIx (-1 : Int32) 8)) (decide (sBars N T (-1 : Int32) (-1 : Int32) = 0))) (N 1) ((sTurn N T (-1 : Int32) (-1 : Int32) bo).1 1)) ≤ 24 by omega) (show 400 + (200 + zms (sK2 ((sIx (-1 : Int32) 9) && (sIx (-1 : Int32) 8)) (decide (sBars N T (-1 : Int32) (-1 : Int32) = 0))) (N 1) ((sTurn N T (-1 : Int32) (-1 : Int32) bo).1 1)) ≤ 600 by omega) (fun rz_5 zw_5 Hz Lz hq hP hD hS => ?_)
    obtain ⟨hr9, hw9⟩ := hq.2 (by rw [hkz_354]; decide)
    rw [hw9] at hP hD
    rw [hr9, show zCx [-7100, -7300] (sK2 ((sIx (-1 : Int32) 9) && (sIx (-1 : Int32) 8)) (decide (sBars N T (-1 : Int32) (-1 : Int32) = 0))) = (-7100) from by rw [hkz_354]; rfl]
    refine lv_sipush (v := (-7100)) hx hb dL_valves_357 (by decide) ?_
    refine lv_icmp_eq (tgt := 365) hx hb dL_valves_360 (by decide) (fun _ => ?_) (fun zc_6 => absurd zc_6 (by decide))
    refine lv_aload hx hb dL_valves_365 (lv_at hl 5 rfl) ?_
    refine lv_aload hx hb dL_valves_367 (lv_at hl 8 rfl) ?_
    refine lv_aload hx hb dL_valves_369 (lv_at hl 10 rfl) ?_
    refine lv_aload hx hb dL_valves_371 (lv_at hl 11 rfl) ?_
    refine lv_iload hx hb dL_valves_373 (lv_at hl 12 rfl) ?_
    refine lv_iload hx hb dL_valves_375 (lv_at hl 13 rfl) ?_
    refine z_csi (va_Run.run (va_runS (As := [.ref (u 0), .ref (u 4), .ref (u 6), .ref (u 9), .int (nI jp), .int (nI jv)]) (rest := []) ⟨hx, hb, hml, hown, hts⟩ (c_L_why l G u E F N T (nI jp) (nI jv) hQ (vp_in_nI (by omega) (by omega))) (va_cwS 6 hts gL_valves_L_why rfl rfl rfl (by decide +kernel) ⟨Nat.le_of_ble_eq_true rfl, Nat.le_of_ble_eq_true rfl⟩) (z_ps hK (z_apL hP)) rfl rfl hl.1 rfl (lv_room (Nat.le_of_ble_eq_true rfl)) dL_valves_377 ⟨(show 24 + 0 ≤ 400 by omega), (show 600 + 0 ≤ 2400 by omega)⟩)) (fun zr_7 hzr_7 => ?_)
    subst hzr_7
    refine lv_if_le (tgt := 405) hx hb dL_valves_380 (by decide) (fun zc_8 => ?_) (fun zc_8 => ?_)
    · skip
      have zd_8 := Int32.not_lt.mpr zc_8
      have hb0z := sBars_le0 zc_8
      refine lv_aload hx hb dL_valves_405 (lv_at hl 5 rfl) ?_
      refine lv_aload hx hb dL_valves_407 (lv_at hl 11 rfl) ?_
      refine lv_iload hx hb dL_valves_409 (lv_at hl 13 rfl) ?_
      refine z_csi (va_Run.run (va_runS (As := [.ref (u 0), .ref (u 9), .int (nI jv)]) (rest := []) ⟨hx, hb, hml, hown, hts⟩ (c_L_opened l G u E F N T (nI jv) hQ (vp_in_nI (by omega) (by omega))) (va_cwS 3 hts gL_valves_L_opened rfl rfl rfl (by decide +kernel) ⟨Nat.le_of_ble_eq_true rfl, Nat.le_of_ble_eq_true rfl⟩) (z_ps hK (z_apL hP)) rfl rfl hl.1 rfl (lv_room (Nat.le_of_ble_eq_true rfl)) dL_valves_411 ⟨(show 24 + 0 ≤ 400 by omega), (show 600 + 0 ≤ 2400 by omega)⟩)) (fun zr_9 hzr_9 => ?_)
      subst hzr_9
      refine lv_iload hx hb dL_valves_414 (lv_at hl 0 rfl) ?_
      refine lv_icmp_eq (tgt := 423) hx hb dL_valves_416 (by decide) (fun zc_10 => ?_) (fun zc_10 => ?_)
      · skip
        have hch := zc_10
        refine lv_iconst (v := 0) hx hb dL_valves_423 (by decide) ?_
        refine lv_istore (lv' := [(14, .int 0), (13, .int (zb bo)), (0, .ref (r 0)), (1, .int act), (2, .int x), (3, .int y), (4, .ref (u 0)), (5, .ref (u 1)), (6, .ref (u 3)), (7, .ref (u 4)), (8, .ref (u 5)), (9, .ref (u 6)), (10, .ref (u 9)), (11, .int (nI jp)), (12, .int (nI jv))]) hx hb dL_valves_424 hl (by decide) rfl (fun ls hl => ?_)
        refine lv_iload hx hb dL_valves_426 (lv_at hl 0 rfl) ?_
        refine lv_if_eq (tgt := 455) hx hb dL_valves_428 (by decide) (fun _ => ?_) (fun zc_11 => absurd zc_11 (by decide))
        have htu := (sTurn_1 (N := N) (T := T) (a := nI jp) (b := nI jv) (o := bo)).2.2
        have hRn : sLR (sTurn N T (nI jp) (nI jv) bo).1 (sTurn N T (nI jp) (nI jv) bo).2 E F := by rw [sTurn_n hch]; exact hR
        refine lv_aload_n hx hb dL_valves_455 rfl (lv_at hl 2 rfl) ?_
        refine lv_iload hx hb dL_valves_456 (lv_at hl 13 rfl) ?_
        refine lv_iload hx hb dL_valves_458 (lv_at hl 14 rfl) ?_
        refine lv_iload hx hb dL_valves_460 (lv_at hl 1 rfl) ?_
        have hkz_462 : sK2 ((sIx (nI jp) 9) && (sIx (nI jv) 8)) (decide (sBars N T (nI jp) (nI jv) = 0)) = 0 := (sK2_ok (sAnd_y (sIx_y hjp (by omega)) (sIx_y hjv (by omega))) (decide_eq_true hb0z))
        have hzb_462 : (8 + zmc (sK2 ((sIx (nI jp) 9) && (sIx (nI jv) 8)) (decide (sBars N T (nI jp) (nI jv) = 0))) (N 1) ((sTurn N T (nI jp) (nI jv) bo).1 1)) ≤ 136 ∧ (200 + zms (sK2 ((sIx (nI jp) 9) && (sIx (nI jv) 8)) (decide (sBars N T (nI jp) (nI jv) = 0))) (N 1) ((sTurn N T (nI jp) (nI jv) bo).1 1)) ≤ 744 := zmc_b8 (show (sTurn N T (nI jp) (nI jv) bo).1 1 ≤ 128 by omega)
        refine z_xR (G := G) (w := w) (c2 := 160) (s2 := 1344) (vx_runSX (hh := [(0, 9, 12, 14), (0, 9, 18, 18)]) (As := [.ref (r 0), .int (nI jp), .int (nI jv), .int (zb bo)]) (rest := []) ⟨hx, hb, hml, hown, hts⟩ (h_turn l hst G d r A mc g N T w K (nI jp) (nI jv) bo Hz.size hC hJ.1.1 (by omega) ) (vx_cwSW 4 hts gL_valves_L_turn rfl rfl rfl (by decide +kernel) ⟨Nat.le_of_ble_eq_true rfl, Nat.le_of_ble_eq_true rfl⟩) (z_hs hK (z_apR hP) (z_dR hD) hZ hLx hS hA) rfl rfl hl.1 rfl (lv_room (Nat.le_of_ble_eq_true rfl)) dL_valves_462 ⟨(show 24 + (8 + zmc (sK2 ((sIx (nI jp) 9) && (sIx (nI jv) 8)) (decide (sBars N T (nI jp) (nI jv) = 0))) (N 1) ((sTurn N T (nI jp) (nI jv) bo).1 1)) ≤ 400 by omega), (show 600 + (200 + zms (sK2 ((sIx (nI jp) 9) && (sIx (nI jv) 8)) (decide (sBars N T (nI jp) (nI jv) = 0))) (N 1) ((sTurn N T (nI jp) (nI jv) bo).1 1)) ≤ 2400 by omega)⟩) hP hD hS hA (show 24 + (8 + zmc (sK2 ((sIx (nI jp) 9) && (sIx (nI jv) 8)) (decide (sBars N T (nI jp) (nI jv) = 0))) (N 1) ((sTurn N T (nI jp) (nI jv) bo).1 1)) ≤ 160 by omega) (show 600 + (200 + zms (sK2 ((sIx (nI jp) 9) && (sIx (nI jv) 8)) (decide (sBars N T (nI jp) (nI jv) = 0))) (N 1) ((sTurn N T (nI jp) (nI jv) bo).1 1)) ≤ 1344 by omega) (fun rz_12 zw_12 Hz Lz hq hP hD hS => ?_)
        obtain ⟨hr9, A, mc, g, hC⟩ := hq.1 hkz_462
        rw [hr9]
        refine W.eq (g2 := F0 m 465 ls [.int 0]) (by first | (rw [show (!decide (T 3 (nI jv).toNatClampNeg = zb bo)) = false from by simp [hch]]; done) | (rw [show (!decide (T 3 (nI jv).toNatClampNeg = zb bo)) = false from by simp [hch]]; rfl)) ?_
        refine lv_iload hx hb dL_valves_465 (lv_at hl 0 rfl) ?_
        refine lv_if_eq (tgt := 474) hx hb dL_valves_467 (by decide) (fun _ => ?_) (fun zc_13 => absurd zc_13 (by decide))
        refine lv_iconst (v := 0) hx hb dL_valves_474 (by decide) ?_
        refine lv_icmp_ne (tgt := 482) hx hb dL_valves_475 (by decide) (fun zc_14 => absurd zc_14 (by decide)) (fun _ => ?_)
        refine lv_iconst (v := 1) hx hb dL_valves_478 (by decide) ?_
        refine lv_goto (tgt := 483) hx hb dL_valves_479 (by decide) ?_
        exact z_widen (k := 400) (n := 2400) (show 160 ≤ 400 by omega) (show 1344 ≤ 2400 by omega) (W.zret (v := 1) hx hb hr rfl (fun t ht hW => ⟨⟨1, (([(u 0, .inl (G.2 1, 64, .inr (.inl E))), (u 1, .inl (G.2 0, 8, .inl (F 1))), (u 2, .inl (G.2 0, 3, .inl (F 2))), (u 3, .inl (G.2 0, 3, .inl (F 3))), (u 4, .inl (G.2 0, 40, .inl (F 4))), (u 5, .inl (G.2 0, 40, .inl (F 5))), (u 6, .inl (G.2 0, 9, .inl (F 6))), (u 7, .inl (G.2 0, 12, .inl (F 7))), (u 8, .inl (G.2 0, 12, .inl (F 8))), (u 9, .inl (G.2 0, 10, .inl (F 9)))] : va_W) ++ zw_12), rfl, ⟨rfl, ((sTurn N T (nI jp) (nI jv) bo).1), ((sTurn N T (nI jp) (nI jv) bo).2), E, F, zw_12, rfl, ⟨A, mc, g, hC⟩, hRn, ((sLJ_turn hJ hh9.1 hkz_462).mono (by omega))⟩, ⟨by rw [ht]; exact hP, hD⟩⟩, hS.F ht⟩) hS.2.2 dL_valves_483 hlocks)
      · skip
        have hch := zc_10
        refine lv_iconst (v := 1) hx hb dL_valves_419 (by decide) ?_
        refine lv_goto (tgt := 424) hx hb dL_valves_420 (by decide) ?_
        refine lv_istore (lv' := [(14, .int 1), (13, .int (zb bo)), (0, .ref (r 0)), (1, .int act), (2, .int x), (3, .int y), (4, .ref (u 0)), (5, .ref (u 1)), (6, .ref (u 3)), (7, .ref (u 4)), (8, .ref (u 5)), (9, .ref (u 6)), (10, .ref (u 9)), (11, .int (nI jp)), (12, .int (nI jv))]) hx hb dL_valves_424 hl (by decide) rfl (fun ls hl => ?_)
        refine lv_iload hx hb dL_valves_426 (lv_at hl 0 rfl) ?_
        refine lv_if_eq (tgt := 455) hx hb dL_valves_428 (by decide) (fun zc_15 => absurd zc_15 (by decide)) (fun _ => ?_)
        refine lv_aload hx hb dL_valves_431 (lv_at hl 6 rfl) ?_
        refine lv_aload hx hb dL_valves_433 (lv_at hl 12 rfl) ?_
        refine lv_iconst (v := 0) hx hb dL_valves_435 (by decide) ?_
        refine lv_iload hx hb dL_valves_436 (lv_at hl 13 rfl) ?_
        refine lv_iload hx hb dL_valves_438 (lv_at hl 14 rfl) ?_
        have cut_451 : W p l e (headSpec wsL_valves ({ frames := 9, cells := 400, slots := 2400, locals := 223 })).room s m ([.ref (r 0), .int act, .int x, .int y, .ref (u 0), .ref (u 1), .ref (u 3), .ref (u 4), .ref (u 5), .ref (u 6), .ref (u 9)] : List Value).toArray below meth c Hz Lz (24) (600) (MQ below (va_Qi (fun (r1 : Int32) (wz : va_W) => r1 = 1 ∧ ∃ (N2 : Nat → Nat) (T2 : Nat → Nat → Int32) (E2 : Nat → Int64) (F2 : Nat → Nat → Int32) (w2 : va_W), wz = LW G u E2 F2 ++ w2 ∧ sCO G d r N2 T2 w2 ∧ sLR N2 T2 E2 F2 ∧ sLJ N2 T2 (K + 2)) (zB G Aw) Aw) ([.ref (r 0), .int act, .int x, .int y, .ref (u 0), .ref (u 1), .ref (u 3), .ref (u 4), .ref (u 5), .ref (u 6), .ref (u 9)] : List Value).toArray s 400 2400 Aw) (F0 m 451 ls [.int (if bo = true then (10 : Int32) else 0), .int (nI jv), .int (nI jp), .int 0, .ref (u 9), .ref (u 0)]) := by
          refine lv_iadd hx hb dL_valves_451 ?_
          refine z_lv (G := G) (w := (LW G u E F)) (wr := w) (va_runS (As := [.ref (u 0), .ref (u 9), .int 0, .int (nI jp), .int ((nI jv) + (if bo = true then (10 : Int32) else 0))]) (rest := []) ⟨hx, hb, hml, hown, hts⟩ (c_L_note l G u E F (T 0) (N 1) (N 0) 0 (nI jp) ((nI jv) + (if bo = true then (10 : Int32) else 0)) Hz.size hR.1 (by omega) hg0 hg1 hi0 ⟨0, by decide, rfl⟩ ⟨jp + 1, by omega, nI_1 jp⟩ (zV10 (vp_in_nI hjv (by omega)))) (va_cwS 5 hts gL_valves_L_note rfl rfl rfl (by decide +kernel) ⟨Nat.le_of_ble_eq_true rfl, Nat.le_of_ble_eq_true rfl⟩) (z_us hK (z_apL hP) (z_dL hD)) rfl rfl hl.1 rfl (lv_room (Nat.le_of_ble_eq_true rfl)) dL_valves_452 ⟨(show 24 + 0 ≤ 400 by omega), (show 600 + 0 ≤ 2400 by omega)⟩) hP hD hS hA (fun w1 Hz Lz hw hP hD hS => ?_)
          obtain ⟨zE_16, rfl, hzE_16⟩ := hw
          have hP : va_P G.1 vwCl (([(u 0, .inl (G.2 1, 64, .inr (.inl zE_16))), (u 1, .inl (G.2 0, 8, .inl (F 1))), (u 2, .inl (G.2 0, 3, .inl (F 2))), (u 3, .inl (G.2 0, 3, .inl (F 3))), (u 4, .inl (G.2 0, 40, .inl (F 4))), (u 5, .inl (G.2 0, 40, .inl (F 5))), (u 6, .inl (G.2 0, 9, .inl (F 6))), (u 7, .inl (G.2 0, 12, .inl (F 7))), (u 8, .inl (G.2 0, 12, .inl (F 8))), (u 9, .inl (G.2 0, 10, .inl (upd (F 9) 1 (nI (N 1 + 1)))))] : va_W) ++ w) Hz := hP
          have hD : va_D Aw (([(u 0, .inl (G.2 1, 64, .inr (.inl zE_16))), (u 1, .inl (G.2 0, 8, .inl (F 1))), (u 2, .inl (G.2 0, 3, .inl (F 2))), (u 3, .inl (G.2 0, 3, .inl (F 3))), (u 4, .inl (G.2 0, 40, .inl (F 4))), (u 5, .inl (G.2 0, 40, .inl (F 5))), (u 6, .inl (G.2 0, 9, .inl (F 6))), (u 7, .inl (G.2 0, 12, .inl (F 7))), (u 8, .inl (G.2 0, 12, .inl (F 8))), (u 9, .inl (G.2 0, 10, .inl (upd (F 9) 1 (nI (N 1 + 1)))))] : va_W) ++ w) := hD
          have htu := (sTurn_1 (N := N) (T := T) (a := nI jp) (b := nI jv) (o := bo)).2.2
          have hRn := sLR_turn (p := nI jp) (v := nI jv) (o := bo) hR hch hzE_16
          refine lv_aload_n hx hb dL_valves_455 rfl (lv_at hl 2 rfl) ?_
          refine lv_iload hx hb dL_valves_456 (lv_at hl 13 rfl) ?_
          refine lv_iload hx hb dL_valves_458 (lv_at hl 14 rfl) ?_
          refine lv_iload hx hb dL_valves_460 (lv_at hl 1 rfl) ?_
          have hkz_462 : sK2 ((sIx (nI jp) 9) && (sIx (nI jv) 8)) (decide (sBars N T (nI jp) (nI jv) = 0)) = 0 := (sK2_ok (sAnd_y (sIx_y hjp (by omega)) (sIx_y hjv (by omega))) (decide_eq_true hb0z))
          have hzb_462 : (8 + zmc (sK2 ((sIx (nI jp) 9) && (sIx (nI jv) 8)) (decide (sBars N T (nI jp) (nI jv) = 0))) (N 1) ((sTurn N T (nI jp) (nI jv) bo).1 1)) ≤ 136 ∧ (200 + zms (sK2 ((sIx (nI jp) 9) && (sIx (nI jv) 8)) (decide (sBars N T (nI jp) (nI jv) = 0))) (N 1) ((sTurn N T (nI jp) (nI jv) bo).1 1)) ≤ 744 := zmc_b8 (show (sTurn N T (nI jp) (nI jv) bo).1 1 ≤ 128 by omega)
          refine z_xR (G := G) (w := w) (c2 := 160) (s2 := 1344) (vx_runSX (hh := [(0, 9, 12, 14), (0, 9, 18, 18)]) (As := [.ref (r 0), .int (nI jp), .int (nI jv), .int (zb bo)]) (rest := []) ⟨hx, hb, hml, hown, hts⟩ (h_turn l hst G d r A mc g N T w K (nI jp) (nI jv) bo Hz.size hC hJ.1.1 (by omega) ) (vx_cwSW 4 hts gL_valves_L_turn rfl rfl rfl (by decide +kernel) ⟨Nat.le_of_ble_eq_true rfl, Nat.le_of_ble_eq_true rfl⟩) (z_hs hK (z_apR hP) (z_dR hD) hZ hLx hS hA) rfl rfl hl.1 rfl (lv_room (Nat.le_of_ble_eq_true rfl)) dL_valves_462 ⟨(show 24 + (8 + zmc (sK2 ((sIx (nI jp) 9) && (sIx (nI jv) 8)) (decide (sBars N T (nI jp) (nI jv) = 0))) (N 1) ((sTurn N T (nI jp) (nI jv) bo).1 1)) ≤ 400 by omega), (show 600 + (200 + zms (sK2 ((sIx (nI jp) 9) && (sIx (nI jv) 8)) (decide (sBars N T (nI jp) (nI jv) = 0))) (N 1) ((sTurn N T (nI jp) (nI jv) bo).1 1)) ≤ 2400 by omega)⟩) hP hD hS hA (show 24 + (8 + zmc (sK2 ((sIx (nI jp) 9) && (sIx (nI jv) 8)) (decide (sBars N T (nI jp) (nI jv) = 0))) (N 1) ((sTurn N T (nI jp) (nI jv) bo).1 1)) ≤ 160 by omega) (show 600 + (200 + zms (sK2 ((sIx (nI jp) 9) && (sIx (nI jv) 8)) (decide (sBars N T (nI jp) (nI jv) = 0))) (N 1) ((sTurn N T (nI jp) (nI jv) bo).1 1)) ≤ 1344 by omega) (fun rz_17 zw_17 Hz Lz hq hP hD hS => ?_)
          obtain ⟨hr9, A, mc, g, hC⟩ := hq.1 hkz_462
          rw [hr9]
          refine W.eq (g2 := F0 m 465 ls [.int 1]) (by first | (rw [show (!decide (T 3 (nI jv).toNatClampNeg = zb bo)) = true from by simp [hch]]; done) | (rw [show (!decide (T 3 (nI jv).toNatClampNeg = zb bo)) = true from by simp [hch]]; rfl)) ?_
          refine lv_iload hx hb dL_valves_465 (lv_at hl 0 rfl) ?_
          refine lv_if_eq (tgt := 474) hx hb dL_valves_467 (by decide) (fun zc_18 => absurd zc_18 (by decide)) (fun _ => ?_)
          refine lv_iconst (v := 1) hx hb dL_valves_470 (by decide) ?_
          refine lv_goto (tgt := 475) hx hb dL_valves_471 (by decide) ?_
          refine lv_icmp_ne (tgt := 482) hx hb dL_valves_475 (by decide) (fun zc_19 => absurd zc_19 (by decide)) (fun _ => ?_)
          refine lv_iconst (v := 1) hx hb dL_valves_478 (by decide) ?_
          refine lv_goto (tgt := 483) hx hb dL_valves_479 (by decide) ?_
          exact z_widen (k := 400) (n := 2400) (show 160 ≤ 400 by omega) (show 1344 ≤ 2400 by omega) (W.zret (v := 1) hx hb hr rfl (fun t ht hW => ⟨⟨1, (([(u 0, .inl (G.2 1, 64, .inr (.inl zE_16))), (u 1, .inl (G.2 0, 8, .inl (F 1))), (u 2, .inl (G.2 0, 3, .inl (F 2))), (u 3, .inl (G.2 0, 3, .inl (F 3))), (u 4, .inl (G.2 0, 40, .inl (F 4))), (u 5, .inl (G.2 0, 40, .inl (F 5))), (u 6, .inl (G.2 0, 9, .inl (F 6))), (u 7, .inl (G.2 0, 12, .inl (F 7))), (u 8, .inl (G.2 0, 12, .inl (F 8))), (u 9, .inl (G.2 0, 10, .inl (upd (F 9) 1 (nI (N 1 + 1)))))] : va_W) ++ zw_17), rfl, ⟨rfl, ((sTurn N T (nI jp) (nI jv) bo).1), ((sTurn N T (nI jp) (nI jv) bo).2), zE_16, (va_up F 9 (upd (F 9) 1 (nI (N 1 + 1)))), zw_17, rfl, ⟨A, mc, g, hC⟩, hRn, ((sLJ_turn hJ hh9.1 hkz_462).mono (by omega))⟩, ⟨by rw [ht]; exact hP, hD⟩⟩, hS.F ht⟩) hS.2.2 dL_valves_483 hlocks)
        refine lv_iload hx hb dL_valves_440 (lv_at hl 1 rfl) ?_
        refine lv_if_eq (tgt := 450) hx hb dL_valves_442 (by decide) (fun zc_20 => ?_) (fun zc_20 => ?_)
        · skip
          have zc_20 := zb_0.mp zc_20
          refine lv_iconst (v := 0) hx hb dL_valves_450 (by decide) ?_
          exact W.eq (congrArg (fun z : Int32 => F0 m 451 ls [.int z, .int (nI jv), .int (nI jp), .int 0, .ref (u 9), .ref (u 0)]) (show (0 : Int32) = if bo = true then (10 : Int32) else 0 from (by simp [zc_20]))) cut_451
        · skip
          have zc_20 := zb_n0 zc_20
          refine lv_bipush (v := 10) hx hb dL_valves_445 (by decide) ?_
          refine lv_goto (tgt := 451) hx hb dL_valves_447 (by decide) ?_
          exact W.eq (congrArg (fun z : Int32 => F0 m 451 ls [.int z, .int (nI jv), .int (nI jp), .int 0, .ref (u 9), .ref (u 0)]) (show (10 : Int32) = if bo = true then (10 : Int32) else 0 from (by simp [zc_20]))) cut_451
    · skip
      have zd_8 := Int32.not_le.mp zc_8
      have hb0z := sBars_gt0 zc_8
      refine lv_aload_n hx hb dL_valves_383 rfl (lv_at hl 1 rfl) ?_
      refine lv_iload hx hb dL_valves_384 (lv_at hl 12 rfl) ?_
      refine lv_iload hx hb dL_valves_386 (lv_at hl 13 rfl) ?_
      refine lv_iload hx hb dL_valves_388 (lv_at hl 0 rfl) ?_
      have hkz_390 : sK2 ((sIx (nI jp) 9) && (sIx (nI jv) 8)) (decide (sBars N T (nI jp) (nI jv) = 0)) = 2 := (sK2_2' (sAnd_y (sIx_y hjp (by omega)) (sIx_y hjv (by omega))) (decide_eq_false hb0z))
      have hzb_390 : (8 + zmc (sK2 ((sIx (nI jp) 9) && (sIx (nI jv) 8)) (decide (sBars N T (nI jp) (nI jv) = 0))) (N 1) ((sTurn N T (nI jp) (nI jv) bo).1 1)) ≤ 8 ∧ (200 + zms (sK2 ((sIx (nI jp) 9) && (sIx (nI jv) 8)) (decide (sBars N T (nI jp) (nI jv) = 0))) (N 1) ((sTurn N T (nI jp) (nI jv) bo).1 1)) ≤ 200 := zmc_n8 (by rw [hkz_390]; decide)
      refine z_xR (G := G) (w := w) (c2 := 32) (s2 := 800) (vx_runSX (hh := [(0, 9, 12, 14), (0, 9, 18, 18)]) (As := [.ref (r 0), .int (nI jp), .int (nI jv), .int (zb bo)]) (rest := []) ⟨hx, hb, hml, hown, hts⟩ (h_turn l hst G d r A mc g N T w K (nI jp) (nI jv) bo Hz.size hC hJ.1.1 (by omega) ) (vx_cwSW 4 hts gL_valves_L_turn rfl rfl rfl (by decide +kernel) ⟨Nat.le_of_ble_eq_true rfl, Nat.le_of_ble_eq_true rfl⟩) (z_hs hK (z_apR hP) (z_dR hD) hZ hLx hS hA) rfl rfl hl.1 rfl (lv_room (Nat.le_of_ble_eq_true rfl)) dL_valves_390 ⟨(show 24 + (8 + zmc (sK2 ((sIx (nI jp) 9) && (sIx (nI jv) 8)) (decide (sBars N T (nI jp) (nI jv) = 0))) (N 1) ((sTurn N T (nI jp) (nI jv) bo).1 1)) ≤ 400 by omega), (show 600 + (200 + zms (sK2 ((sIx (nI jp) 9) && (sIx (nI jv) 8)) (decide (sBars N T (nI jp) (nI jv) = 0))) (N 1) ((sTurn N T (nI jp) (nI jv) bo).1 1)) ≤ 2400 by omega)⟩) hP hD hS hA (show 24 + (8 + zmc (sK2 ((sIx (nI jp) 9) && (sIx (nI jv) 8)) (decide (sBars N T (nI jp) (nI jv) = 0))) (N 1) ((sTurn N T (nI jp) (nI jv) bo).1 1)) ≤ 32 by omega) (show 600 + (200 + zms (sK2 ((sIx (nI jp) 9) && (sIx (nI jv) 8)) (decide (sBars N T (nI jp) (nI jv) = 0))) (N 1) ((sTurn N T (nI jp) (nI jv) bo).1 1)) ≤ 800 by omega) (fun rz_21 zw_21 Hz Lz hq hP hD hS => ?_)
      obtain ⟨hr9, hw9⟩ := hq.2 (by rw [hkz_390]; decide)
      rw [hw9] at hP hD
      rw [hr9, show zCx [-7100, -7300] (sK2 ((sIx (nI jp) 9) && (sIx (nI jv) 8)) (decide (sBars N T (nI jp) (nI jv) = 0))) = (-7300) from by rw [hkz_390]; rfl]
      refine lv_sipush (v := (-7300)) hx hb dL_valves_393 (by decide) ?_
      refine lv_icmp_ne (tgt := 403) hx hb dL_valves_396 (by decide) (fun zc_22 => absurd zc_22 (by decide)) (fun _ => ?_)
      refine lv_iconst (v := 1) hx hb dL_valves_399 (by decide) ?_
      refine lv_goto (tgt := 404) hx hb dL_valves_400 (by decide) ?_
      exact z_widen (k := 400) (n := 2400) (show 32 ≤ 400 by omega) (show 800 ≤ 2400 by omega) (W.zret (v := 1) hx hb hr rfl (fun t ht hW => ⟨⟨1, (([(u 0, .inl (G.2 1, 64, .inr (.inl E))), (u 1, .inl (G.2 0, 8, .inl (F 1))), (u 2, .inl (G.2 0, 3, .inl (F 2))), (u 3, .inl (G.2 0, 3, .inl (F 3))), (u 4, .inl (G.2 0, 40, .inl (F 4))), (u 5, .inl (G.2 0, 40, .inl (F 5))), (u 6, .inl (G.2 0, 9, .inl (F 6))), (u 7, .inl (G.2 0, 12, .inl (F 7))), (u 8, .inl (G.2 0, 12, .inl (F 8))), (u 9, .inl (G.2 0, 10, .inl (F 9)))] : va_W) ++ w), rfl, ⟨rfl, N, T, E, F, w, rfl, ⟨A, mc, g, hC⟩, hR, (hJ.mono (by omega))⟩, ⟨by rw [ht]; exact hP, hD⟩⟩, hS.F ht⟩) hS.2.2 dL_valves_404 hlocks)
  refine lv_if_le (tgt := 314) hx hb dL_valves_307 (by decide) (fun zc_23 => ?_) (fun zc_23 => ?_)
  · skip
    have zd_23 := Int32.not_lt.mpr zc_23
    refine lv_iconst (v := 0) hx hb dL_valves_314 (by decide) ?_
    exact W.eq (congrArg (fun z : Int32 => F0 m 315 ls [.int z]) (show (0 : Int32) = zb bo from (by rw [hbo]; simp [zb, zd_23]))) cut_315
  · skip
    have zd_23 := Int32.not_le.mp zc_23
    refine lv_iconst (v := 1) hx hb dL_valves_310 (by decide) ?_
    refine lv_goto (tgt := 315) hx hb dL_valves_311 (by decide) ?_
    exact W.eq (congrArg (fun z : Int32 => F0 m 315 ls [.int z]) (show (1 : Int32) = zb bo from (by rw [hbo]; simp [zb, zd_23]))) cut_315

set_option maxHeartbeats 4000000 in
set_option maxRecDepth 100000 in
theorem vvalves_490 {p : Program} {l : Launch} {e : Env} {s : State} {m : MethodId} {below : List Frame} {meth : Method} {c : Code} {G : zG} {d : Nat} {r u : Nat → Nat} {act x y : Int32} {Aw : Nat → Prop} (hst : l.stackTraces = false) (hx : p.tables.exec = Jvm.exec) (hb : c.code = cL_valves) (hr : meth.sig.returnType = some .boolean) (hml : c.maxLocals = 17) (hown : s.vm.findClass RL = some m.cls) (hts : ∀ w ∈ wsL_valves, w.before ([.ref (r 0), .int act, .int x, .int y, .ref (u 0), .ref (u 1), .ref (u 3), .ref (u 4), .ref (u 5), .ref (u 6), .ref (u 9)] : List Value).toArray s = true) (hlocks : meth.locks = false) (hK : va_K G.1 vwCl (zT G.2) s) (hZ : zCe Aw d s s.heap) (hLx : zLx s) (hA : ∀ q : Nat, s.heap.size ≤ q → Aw q) {A : Nat → Nat} {mc : Nat → Int32} {g : Nat → Nat → Int32} {N : Nat → Nat} {T : Nat → Nat → Int32} {w : va_W} {E : Nat → Int64} {F : Nat → Nat → Int32} {K : Nat} (hC : sCQ G d r A mc g N T w) (hR : sLR N T E F) (hJ : sLJ N T K) (hK5 : K ≤ 400) (hh9 : N 1 ≤ 90 ∧ N 0 ≤ 1900) {jp jv : Nat} (hjp : jp < 9) (hjv : jv < 8) {H : Heap} {locs : List Loc} (hP : va_P G.1 vwCl (([(u 0, .inl (G.2 1, 64, .inr (.inl E))), (u 1, .inl (G.2 0, 8, .inl (F 1))), (u 2, .inl (G.2 0, 3, .inl (F 2))), (u 3, .inl (G.2 0, 3, .inl (F 3))), (u 4, .inl (G.2 0, 40, .inl (F 4))), (u 5, .inl (G.2 0, 40, .inl (F 5))), (u 6, .inl (G.2 0, 9, .inl (F 6))), (u 7, .inl (G.2 0, 12, .inl (F 7))), (u 8, .inl (G.2 0, 12, .inl (F 8))), (u 9, .inl (G.2 0, 10, .inl (F 9)))] : va_W) ++ w) H) (hD : va_D Aw (([(u 0, .inl (G.2 1, 64, .inr (.inl E))), (u 1, .inl (G.2 0, 8, .inl (F 1))), (u 2, .inl (G.2 0, 3, .inl (F 2))), (u 3, .inl (G.2 0, 3, .inl (F 3))), (u 4, .inl (G.2 0, 40, .inl (F 4))), (u 5, .inl (G.2 0, 40, .inl (F 5))), (u 6, .inl (G.2 0, 9, .inl (F 6))), (u 7, .inl (G.2 0, 12, .inl (F 7))), (u 8, .inl (G.2 0, 12, .inl (F 8))), (u 9, .inl (G.2 0, 10, .inl (F 9)))] : va_W) ++ w)) (hS : va_S Aw s.heap H locs) {ls : Array Slot} (hl : lv_has ls 17 [(0, .ref (r 0)), (1, .int act), (2, .int x), (3, .int y), (4, .ref (u 0)), (5, .ref (u 1)), (6, .ref (u 3)), (7, .ref (u 4)), (8, .ref (u 5)), (9, .ref (u 6)), (10, .ref (u 9)), (11, .int (nI jp)), (12, .int (nI jv))]) : W p l e (headSpec wsL_valves ({ frames := 9, cells := 400, slots := 2400, locals := 223 })).room s m ([.ref (r 0), .int act, .int x, .int y, .ref (u 0), .ref (u 1), .ref (u 3), .ref (u 4), .ref (u 5), .ref (u 6), .ref (u 9)] : List Value).toArray below meth c H locs 0 0 (MQ below (va_Qi (fun (r1 : Int32) (wz : va_W) => r1 = 1 ∧ ∃ (N2 : Nat → Nat) (T2 : Nat → Nat → Int32) (E2 : Nat → Int64) (F2 : Nat → Nat → Int32) (w2 : va_W), wz = LW G u E2 F2 ++ w2 ∧ sCO G d r N2 T2 w2 ∧ sLR N2 T2 E2 F2 ∧ sLJ N2 T2 (K + 2)) (zB G Aw) Aw) ([.ref (r 0), .int act, .int x, .int y, .ref (u 0), .ref (u 1), .ref (u 3), .ref (u 4), .ref (u 5), .ref (u 6), .ref (u 9)] : List Value).toArray s 400 2400 Aw) (F0 m 490 ls []) := by
  have hQ := hR.q hJ
  obtain ⟨hg0, hg1, hg2, hg3, hg4, hg5, hg6, hg7, hg8⟩ := hR.2.2.2.2.2.2.2.2.2
  obtain ⟨⟨hb1, hb0, hb3, hb4, hb5⟩, hlv, hlm, hLH⟩ := id hJ.2
  obtain ⟨⟨hi0, hi2, hi3, hi4, hi5, hi6, hi1⟩, hiB, hiE, hiT, hiA, hiA0, hiM, hiK, hiK0, hiX⟩ := id hJ.1.1
  have hLG := hJ.1.2
  have hS0z : va_S Aw s.heap s.heap [] := va_S.rf
  refine lv_aload_n hx hb dL_valves_490 rfl (lv_at hl 0 rfl) ?_
  refine lv_bipush (v := 9) hx hb dL_valves_491 (by decide) ?_
  refine lv_iconst (v := 0) hx hb dL_valves_493 (by decide) ?_
  have hkz_494 : sK2 ((sIx (9 : Int32) 9) && (sIx (0 : Int32) 8)) ((sMay N T (9 : Int32)) && !decide (N 2 = 40)) = 1 := (sK2_1' (sAnd_l (show sIx (9 : Int32) 9 = false from by decide)))
  have hzb_494 : (8 + zmc (sK2 ((sIx (9 : Int32) 9) && (sIx (0 : Int32) 8)) ((sMay N T (9 : Int32)) && !decide (N 2 = 40))) (N 1) (N 1 + 1)) ≤ 8 ∧ (200 + zms (sK2 ((sIx (9 : Int32) 9) && (sIx (0 : Int32) 8)) ((sMay N T (9 : Int32)) && !decide (N 2 = 40))) (N 1) (N 1 + 1)) ≤ 200 := zmc_n8 (by rw [hkz_494]; decide)
  refine z_xR (G := G) (w := w) (c2 := 8) (s2 := 200) (vx_runSX (hh := [(0, 7, 10, 14), (0, 7, 16, 18)]) (As := [.ref (r 0), .int 9, .int 0]) (rest := []) ⟨hx, hb, hml, hown, hts⟩ (h_hang l hst G d r A mc g N T w K (9 : Int32) (0 : Int32) H.size hC hJ.1.1 (by omega) ) (vx_cwSW 3 hts gL_valves_L_hang rfl rfl rfl (by decide +kernel) ⟨Nat.le_of_ble_eq_true rfl, Nat.le_of_ble_eq_true rfl⟩) (z_hs hK (z_apR hP) (z_dR hD) hZ hLx hS hA) rfl rfl hl.1 rfl (lv_room (Nat.le_of_ble_eq_true rfl)) dL_valves_494 ⟨(show 0 + (8 + zmc (sK2 ((sIx (9 : Int32) 9) && (sIx (0 : Int32) 8)) ((sMay N T (9 : Int32)) && !decide (N 2 = 40))) (N 1) (N 1 + 1)) ≤ 400 by omega), (show 0 + (200 + zms (sK2 ((sIx (9 : Int32) 9) && (sIx (0 : Int32) 8)) ((sMay N T (9 : Int32)) && !decide (N 2 = 40))) (N 1) (N 1 + 1)) ≤ 2400 by omega)⟩) hP hD hS hA (show 0 + (8 + zmc (sK2 ((sIx (9 : Int32) 9) && (sIx (0 : Int32) 8)) ((sMay N T (9 : Int32)) && !decide (N 2 = 40))) (N 1) (N 1 + 1)) ≤ 8 by omega) (show 0 + (200 + zms (sK2 ((sIx (9 : Int32) 9) && (sIx (0 : Int32) 8)) ((sMay N T (9 : Int32)) && !decide (N 2 = 40))) (N 1) (N 1 + 1)) ≤ 200 by omega) (fun rz_1 zw_1 Hz Lz hq hP hD hS => ?_)
  obtain ⟨hr9, hw9⟩ := hq.2 (by rw [hkz_494]; decide)
  rw [hw9] at hP hD
  rw [hr9, show zCx [-7100, -7300] (sK2 ((sIx (9 : Int32) 9) && (sIx (0 : Int32) 8)) ((sMay N T (9 : Int32)) && !decide (N 2 = 40))) = (-7100) from by rw [hkz_494]; rfl]
  refine lv_sipush (v := (-7100)) hx hb dL_valves_497 (by decide) ?_
  refine lv_icmp_ne (tgt := 516) hx hb dL_valves_500 (by decide) (fun zc_2 => absurd zc_2 (by decide)) (fun _ => ?_)
  refine lv_aload_n hx hb dL_valves_503 rfl (lv_at hl 0 rfl) ?_
  refine lv_iconst (v := 0) hx hb dL_valves_504 (by decide) ?_
  refine lv_bipush (v := 8) hx hb dL_valves_505 (by decide) ?_
  have hkz_507 : sK2 ((sIx (0 : Int32) 9) && (sIx (8 : Int32) 8)) ((sMay N T (0 : Int32)) && !decide (N 2 = 40)) = 1 := (sK2_1' (sAnd_r (show sIx (8 : Int32) 8 = false from by decide)))
  have hzb_507 : (8 + zmc (sK2 ((sIx (0 : Int32) 9) && (sIx (8 : Int32) 8)) ((sMay N T (0 : Int32)) && !decide (N 2 = 40))) (N 1) (N 1 + 1)) ≤ 8 ∧ (200 + zms (sK2 ((sIx (0 : Int32) 9) && (sIx (8 : Int32) 8)) ((sMay N T (0 : Int32)) && !decide (N 2 = 40))) (N 1) (N 1 + 1)) ≤ 200 := zmc_n8 (by rw [hkz_507]; decide)
  refine z_xR (G := G) (w := w) (c2 := 16) (s2 := 400) (vx_runSX (hh := [(0, 7, 10, 14), (0, 7, 16, 18)]) (As := [.ref (r 0), .int 0, .int 8]) (rest := []) ⟨hx, hb, hml, hown, hts⟩ (h_hang l hst G d r A mc g N T w K (0 : Int32) (8 : Int32) Hz.size hC hJ.1.1 (by omega) ) (vx_cwSW 3 hts gL_valves_L_hang rfl rfl rfl (by decide +kernel) ⟨Nat.le_of_ble_eq_true rfl, Nat.le_of_ble_eq_true rfl⟩) (z_hs hK (z_apR hP) (z_dR hD) hZ hLx hS hA) rfl rfl hl.1 rfl (lv_room (Nat.le_of_ble_eq_true rfl)) dL_valves_507 ⟨(show 8 + (8 + zmc (sK2 ((sIx (0 : Int32) 9) && (sIx (8 : Int32) 8)) ((sMay N T (0 : Int32)) && !decide (N 2 = 40))) (N 1) (N 1 + 1)) ≤ 400 by omega), (show 200 + (200 + zms (sK2 ((sIx (0 : Int32) 9) && (sIx (8 : Int32) 8)) ((sMay N T (0 : Int32)) && !decide (N 2 = 40))) (N 1) (N 1 + 1)) ≤ 2400 by omega)⟩) hP hD hS hA (show 8 + (8 + zmc (sK2 ((sIx (0 : Int32) 9) && (sIx (8 : Int32) 8)) ((sMay N T (0 : Int32)) && !decide (N 2 = 40))) (N 1) (N 1 + 1)) ≤ 16 by omega) (show 200 + (200 + zms (sK2 ((sIx (0 : Int32) 9) && (sIx (8 : Int32) 8)) ((sMay N T (0 : Int32)) && !decide (N 2 = 40))) (N 1) (N 1 + 1)) ≤ 400 by omega) (fun rz_3 zw_3 Hz Lz hq hP hD hS => ?_)
  obtain ⟨hr9, hw9⟩ := hq.2 (by rw [hkz_507]; decide)
  rw [hw9] at hP hD
  rw [hr9, show zCx [-7100, -7300] (sK2 ((sIx (0 : Int32) 9) && (sIx (8 : Int32) 8)) ((sMay N T (0 : Int32)) && !decide (N 2 = 40))) = (-7100) from by rw [hkz_507]; rfl]
  refine lv_sipush (v := (-7100)) hx hb dL_valves_510 (by decide) ?_
  refine lv_icmp_eq (tgt := 518) hx hb dL_valves_513 (by decide) (fun _ => ?_) (fun zc_4 => absurd zc_4 (by decide))
  refine lv_aload hx hb dL_valves_518 (lv_at hl 4 rfl) ?_
  refine lv_aload hx hb dL_valves_520 (lv_at hl 7 rfl) ?_
  refine lv_aload hx hb dL_valves_522 (lv_at hl 9 rfl) ?_
  refine lv_aload hx hb dL_valves_524 (lv_at hl 10 rfl) ?_
  refine lv_iload hx hb dL_valves_526 (lv_at hl 11 rfl) ?_
  refine z_csi (va_Run.run (va_runS (As := [.ref (u 0), .ref (u 4), .ref (u 6), .ref (u 9), .int (nI jp)]) (rest := []) ⟨hx, hb, hml, hown, hts⟩ (c_L_mayAct l G u E F N T (nI jp) hQ (vp_in_nI (by omega) (by omega))) (va_cwS 5 hts gL_valves_L_mayAct rfl rfl rfl (by decide +kernel) ⟨Nat.le_of_ble_eq_true rfl, Nat.le_of_ble_eq_true rfl⟩) (z_ps hK (z_apL hP)) rfl rfl hl.1 rfl (lv_room (Nat.le_of_ble_eq_true rfl)) dL_valves_528 ⟨(show 16 + 0 ≤ 400 by omega), (show 400 + 0 ≤ 2400 by omega)⟩)) (fun zr_5 hzr_5 => ?_)
  subst hzr_5
  refine lv_if_eq (tgt := 543) hx hb dL_valves_531 (by decide) (fun zc_6 => ?_) (fun zc_6 => ?_)
  · skip
    have zc_6 := zb_0.mp zc_6
    have hmz := zc_6
    refine lv_aload_n hx hb dL_valves_543 rfl (lv_at hl 0 rfl) ?_
    refine lv_iload hx hb dL_valves_544 (lv_at hl 11 rfl) ?_
    refine lv_iload hx hb dL_valves_546 (lv_at hl 12 rfl) ?_
    have hkz_548 : sK2 ((sIx (nI jp) 9) && (sIx (nI jv) 8)) ((sMay N T (nI jp)) && !decide (N 2 = 40)) = 2 := (sK2_2' (sAnd_y (sIx_y hjp (by omega)) (sIx_y hjv (by omega))) (sAnd_l hmz))
    have hzb_548 : (8 + zmc (sK2 ((sIx (nI jp) 9) && (sIx (nI jv) 8)) ((sMay N T (nI jp)) && !decide (N 2 = 40))) (N 1) (N 1 + 1)) ≤ 8 ∧ (200 + zms (sK2 ((sIx (nI jp) 9) && (sIx (nI jv) 8)) ((sMay N T (nI jp)) && !decide (N 2 = 40))) (N 1) (N 1 + 1)) ≤ 200 := zmc_n8 (by rw [hkz_548]; decide)
    refine z_xR (G := G) (w := w) (c2 := 24) (s2 := 600) (vx_runSX (hh := [(0, 7, 10, 14), (0, 7, 16, 18)]) (As := [.ref (r 0), .int (nI jp), .int (nI jv)]) (rest := []) ⟨hx, hb, hml, hown, hts⟩ (h_hang l hst G d r A mc g N T w K (nI jp) (nI jv) Hz.size hC hJ.1.1 (by omega) ) (vx_cwSW 3 hts gL_valves_L_hang rfl rfl rfl (by decide +kernel) ⟨Nat.le_of_ble_eq_true rfl, Nat.le_of_ble_eq_true rfl⟩) (z_hs hK (z_apR hP) (z_dR hD) hZ hLx hS hA) rfl rfl hl.1 rfl (lv_room (Nat.le_of_ble_eq_true rfl)) dL_valves_548 ⟨(show 16 + (8 + zmc (sK2 ((sIx (nI jp) 9) && (sIx (nI jv) 8)) ((sMay N T (nI jp)) && !decide (N 2 = 40))) (N 1) (N 1 + 1)) ≤ 400 by omega), (show 400 + (200 + zms (sK2 ((sIx (nI jp) 9) && (sIx (nI jv) 8)) ((sMay N T (nI jp)) && !decide (N 2 = 40))) (N 1) (N 1 + 1)) ≤ 2400 by omega)⟩) hP hD hS hA (show 16 + (8 + zmc (sK2 ((sIx (nI jp) 9) && (sIx (nI jv) 8)) ((sMay N T (nI jp)) && !decide (N 2 = 40))) (N 1) (N 1 + 1)) ≤ 24 by omega) (show 400 + (200 + zms (sK2 ((sIx (nI jp) 9) && (sIx (nI jv) 8)) ((sMay N T (nI jp)) && !decide (N 2 = 40))) (N 1) (N 1 + 1)) ≤ 600 by omega) (fun rz_7 zw_7 Hz Lz hq hP hD hS => ?_)
    obtain ⟨hr9, hw9⟩ := hq.2 (by rw [hkz_548]; decide)
    rw [hw9] at hP hD
    rw [hr9, show zCx [-7100, -7300] (sK2 ((sIx (nI jp) 9) && (sIx (nI jv) 8)) ((sMay N T (nI jp)) && !decide (N 2 = 40))) = (-7300) from by rw [hkz_548]; rfl]
    refine lv_sipush (v := (-7300)) hx hb dL_valves_551 (by decide) ?_
    refine lv_icmp_ne (tgt := 561) hx hb dL_valves_554 (by decide) (fun zc_8 => absurd zc_8 (by decide)) (fun _ => ?_)
    refine lv_iconst (v := 1) hx hb dL_valves_557 (by decide) ?_
    refine lv_goto (tgt := 562) hx hb dL_valves_558 (by decide) ?_
    exact z_widen (k := 400) (n := 2400) (show 24 ≤ 400 by omega) (show 600 ≤ 2400 by omega) (W.zret (v := 1) hx hb hr rfl (fun t ht hW => ⟨⟨1, (([(u 0, .inl (G.2 1, 64, .inr (.inl E))), (u 1, .inl (G.2 0, 8, .inl (F 1))), (u 2, .inl (G.2 0, 3, .inl (F 2))), (u 3, .inl (G.2 0, 3, .inl (F 3))), (u 4, .inl (G.2 0, 40, .inl (F 4))), (u 5, .inl (G.2 0, 40, .inl (F 5))), (u 6, .inl (G.2 0, 9, .inl (F 6))), (u 7, .inl (G.2 0, 12, .inl (F 7))), (u 8, .inl (G.2 0, 12, .inl (F 8))), (u 9, .inl (G.2 0, 10, .inl (F 9)))] : va_W) ++ w), rfl, ⟨rfl, N, T, E, F, w, rfl, ⟨A, mc, g, hC⟩, hR, (hJ.mono (by omega))⟩, ⟨by rw [ht]; exact hP, hD⟩⟩, hS.F ht⟩) hS.2.2 dL_valves_562 hlocks)
  · skip
    have zc_6 := zb_n0 zc_6
    have hmz := zc_6
    refine lv_aload hx hb dL_valves_534 (lv_at hl 10 rfl) ?_
    refine lv_iconst (v := 5) hx hb dL_valves_536 (by decide) ?_
    refine va_iald hx hb hK (z_apL hP) 9 0 rfl rfl (vp_in_nI (n := 5) (by decide) (by decide)) dL_valves_537 ?_
    refine W.eq (g2 := F0 m 538 ls [.int (nI (N 2))]) (by rw [show (F 9) (5 : Int32).toNatClampNeg = nI (N 2) from hg5]) ?_
    refine lv_bipush (v := 40) hx hb dL_valves_538 (by decide) ?_
    refine lv_icmp_ne (tgt := 563) hx hb dL_valves_540 (by decide) (fun zc_9 => ?_) (fun zc_9 => ?_)
    · skip
      have h40 : ¬ N 2 = 40 := fun z => zc_9 (by rw [z]; rfl)
      refine lv_aload hx hb dL_valves_563 (lv_at hl 7 rfl) ?_
      refine lv_aload hx hb dL_valves_565 (lv_at hl 10 rfl) ?_
      refine lv_iconst (v := 5) hx hb dL_valves_567 (by decide) ?_
      refine va_iald hx hb hK (z_apL hP) 9 0 rfl rfl (vp_in_nI (n := 5) (by decide) (by decide)) dL_valves_568 ?_
      refine W.eq (g2 := F0 m 569 ls [.int (nI (N 2)), .ref (u 4)]) (by rw [show (F 9) (5 : Int32).toNatClampNeg = nI (N 2) from hg5]) ?_
      refine lv_iload hx hb dL_valves_569 (lv_at hl 12 rfl) ?_
      refine va_iast hx hb hK hP hD hS 4 0 rfl rfl (vp_in_nI (by omega) (by omega)) dL_valves_571 (fun Hz Lz hP hD hS => ?_)
      rw [nI_clamp (by omega)] at hP hD
      have hP : va_P G.1 vwCl (([(u 0, .inl (G.2 1, 64, .inr (.inl E))), (u 1, .inl (G.2 0, 8, .inl (F 1))), (u 2, .inl (G.2 0, 3, .inl (F 2))), (u 3, .inl (G.2 0, 3, .inl (F 3))), (u 4, .inl (G.2 0, 40, .inl (upd (F 4) (N 2) (nI jv)))), (u 5, .inl (G.2 0, 40, .inl (F 5))), (u 6, .inl (G.2 0, 9, .inl (F 6))), (u 7, .inl (G.2 0, 12, .inl (F 7))), (u 8, .inl (G.2 0, 12, .inl (F 8))), (u 9, .inl (G.2 0, 10, .inl (F 9)))] : va_W) ++ w) Hz := hP
      have hD : va_D Aw (([(u 0, .inl (G.2 1, 64, .inr (.inl E))), (u 1, .inl (G.2 0, 8, .inl (F 1))), (u 2, .inl (G.2 0, 3, .inl (F 2))), (u 3, .inl (G.2 0, 3, .inl (F 3))), (u 4, .inl (G.2 0, 40, .inl (upd (F 4) (N 2) (nI jv)))), (u 5, .inl (G.2 0, 40, .inl (F 5))), (u 6, .inl (G.2 0, 9, .inl (F 6))), (u 7, .inl (G.2 0, 12, .inl (F 7))), (u 8, .inl (G.2 0, 12, .inl (F 8))), (u 9, .inl (G.2 0, 10, .inl (F 9)))] : va_W) ++ w) := hD
      refine lv_aload hx hb dL_valves_572 (lv_at hl 4 rfl) ?_
      refine lv_aload hx hb dL_valves_574 (lv_at hl 10 rfl) ?_
      refine lv_iconst (v := 1) hx hb dL_valves_576 (by decide) ?_
      refine lv_iload hx hb dL_valves_577 (lv_at hl 11 rfl) ?_
      refine lv_aload hx hb dL_valves_579 (lv_at hl 10 rfl) ?_
      refine lv_iconst (v := 5) hx hb dL_valves_581 (by decide) ?_
      refine va_iald hx hb hK (z_apL hP) 9 0 rfl rfl (vp_in_nI (n := 5) (by decide) (by decide)) dL_valves_582 ?_
      refine W.eq (g2 := F0 m 583 ls [.int (nI (N 2)), .int (nI jp), .int 1, .ref (u 9), .ref (u 0)]) (by rw [show (F 9) (5 : Int32).toNatClampNeg = nI (N 2) from hg5]) ?_
      refine z_lv (G := G) (w := (LW G u E (va_up F 4 (upd (F 4) (N 2) (nI jv))))) (wr := w) (va_runS (As := [.ref (u 0), .ref (u 9), .int 1, .int (nI jp), .int (nI (N 2))]) (rest := []) ⟨hx, hb, hml, hown, hts⟩ (c_L_note l G u E (va_up F 4 (upd (F 4) (N 2) (nI jv))) (T 0) (N 1) (N 0) 1 (nI jp) (nI (N 2)) Hz.size hR.1 (by omega) hg0 hg1 hi0 ⟨1, by decide, rfl⟩ ⟨jp + 1, by omega, nI_1 jp⟩ ⟨N 2, by omega, rfl⟩) (va_cwS 5 hts gL_valves_L_note rfl rfl rfl (by decide +kernel) ⟨Nat.le_of_ble_eq_true rfl, Nat.le_of_ble_eq_true rfl⟩) (z_us hK (z_apL hP) (z_dL hD)) rfl rfl hl.1 rfl (lv_room (Nat.le_of_ble_eq_true rfl)) dL_valves_583 ⟨(show 16 + 0 ≤ 400 by omega), (show 400 + 0 ≤ 2400 by omega)⟩) hP hD hS hA (fun w1 Hz Lz hw hP hD hS => ?_)
      obtain ⟨zE_10, rfl, hzE_10⟩ := hw
      have hP : va_P G.1 vwCl (([(u 0, .inl (G.2 1, 64, .inr (.inl zE_10))), (u 1, .inl (G.2 0, 8, .inl (F 1))), (u 2, .inl (G.2 0, 3, .inl (F 2))), (u 3, .inl (G.2 0, 3, .inl (F 3))), (u 4, .inl (G.2 0, 40, .inl (upd (F 4) (N 2) (nI jv)))), (u 5, .inl (G.2 0, 40, .inl (F 5))), (u 6, .inl (G.2 0, 9, .inl (F 6))), (u 7, .inl (G.2 0, 12, .inl (F 7))), (u 8, .inl (G.2 0, 12, .inl (F 8))), (u 9, .inl (G.2 0, 10, .inl (upd (F 9) 1 (nI (N 1 + 1)))))] : va_W) ++ w) Hz := hP
      have hD : va_D Aw (([(u 0, .inl (G.2 1, 64, .inr (.inl zE_10))), (u 1, .inl (G.2 0, 8, .inl (F 1))), (u 2, .inl (G.2 0, 3, .inl (F 2))), (u 3, .inl (G.2 0, 3, .inl (F 3))), (u 4, .inl (G.2 0, 40, .inl (upd (F 4) (N 2) (nI jv)))), (u 5, .inl (G.2 0, 40, .inl (F 5))), (u 6, .inl (G.2 0, 9, .inl (F 6))), (u 7, .inl (G.2 0, 12, .inl (F 7))), (u 8, .inl (G.2 0, 12, .inl (F 8))), (u 9, .inl (G.2 0, 10, .inl (upd (F 9) 1 (nI (N 1 + 1)))))] : va_W) ++ w) := hD
      refine lv_aload hx hb dL_valves_586 (lv_at hl 10 rfl) ?_
      refine lv_iconst (v := 5) hx hb dL_valves_588 (by decide) ?_
      refine lv_dup2_11 hx hb dL_valves_589 rfl rfl ?_
      refine va_iald hx hb hK (z_apL hP) 9 0 rfl rfl (vp_in_nI (n := 5) (by decide) (by decide)) dL_valves_590 ?_
      refine W.eq (g2 := F0 m 591 ls [.int (nI (N 2)), .int 5, .ref (u 9)]) (by rw [show (upd (F 9) 1 (nI (N 1 + 1))) (5 : Int32).toNatClampNeg = nI (N 2) from hg5]) ?_
      refine lv_iconst (v := 1) hx hb dL_valves_591 (by decide) ?_
      refine lv_iadd hx hb dL_valves_592 ?_
      refine W.eq (g2 := F0 m 593 ls [.int (nI (N 2 + 1)), .int 5, .ref (u 9)]) (by first | (rw [nI_1]; done) | (rw [nI_1]; rfl)) ?_
      refine va_iast hx hb hK hP hD hS 9 0 rfl rfl (vp_in_nI (n := 5) (by decide) (by decide)) dL_valves_593 (fun Hz Lz hP hD hS => ?_)
      have hP : va_P G.1 vwCl (([(u 0, .inl (G.2 1, 64, .inr (.inl zE_10))), (u 1, .inl (G.2 0, 8, .inl (F 1))), (u 2, .inl (G.2 0, 3, .inl (F 2))), (u 3, .inl (G.2 0, 3, .inl (F 3))), (u 4, .inl (G.2 0, 40, .inl (upd (F 4) (N 2) (nI jv)))), (u 5, .inl (G.2 0, 40, .inl (F 5))), (u 6, .inl (G.2 0, 9, .inl (F 6))), (u 7, .inl (G.2 0, 12, .inl (F 7))), (u 8, .inl (G.2 0, 12, .inl (F 8))), (u 9, .inl (G.2 0, 10, .inl (upd (upd (F 9) 1 (nI (N 1 + 1))) 5 (nI (N 2 + 1)))))] : va_W) ++ w) Hz := hP
      have hD : va_D Aw (([(u 0, .inl (G.2 1, 64, .inr (.inl zE_10))), (u 1, .inl (G.2 0, 8, .inl (F 1))), (u 2, .inl (G.2 0, 3, .inl (F 2))), (u 3, .inl (G.2 0, 3, .inl (F 3))), (u 4, .inl (G.2 0, 40, .inl (upd (F 4) (N 2) (nI jv)))), (u 5, .inl (G.2 0, 40, .inl (F 5))), (u 6, .inl (G.2 0, 9, .inl (F 6))), (u 7, .inl (G.2 0, 12, .inl (F 7))), (u 8, .inl (G.2 0, 12, .inl (F 8))), (u 9, .inl (G.2 0, 10, .inl (upd (upd (F 9) 1 (nI (N 1 + 1))) 5 (nI (N 2 + 1)))))] : va_W) ++ w) := hD
      have hRn := sLR_hang (p := nI jp) (v := nI jv) hR hzE_10
      have hP : va_P G.1 vwCl (([(u 0, .inl (G.2 1, 64, .inr (.inl zE_10))), (u 1, .inl (G.2 0, 8, .inl (F 1))), (u 2, .inl (G.2 0, 3, .inl (F 2))), (u 3, .inl (G.2 0, 3, .inl (F 3))), (u 4, .inl (G.2 0, 40, .inl (upd (F 4) (N 2) (nI jv)))), (u 5, .inl (G.2 0, 40, .inl (F 5))), (u 6, .inl (G.2 0, 9, .inl (F 6))), (u 7, .inl (G.2 0, 12, .inl (F 7))), (u 8, .inl (G.2 0, 12, .inl (F 8))), (u 9, .inl (G.2 0, 10, .inl (upd (upd (F 9) 1 (nI (N 1 + 1))) 5 (nI (N 2 + 1)))))] : va_W) ++ w) Hz := hP
      have hD : va_D Aw (([(u 0, .inl (G.2 1, 64, .inr (.inl zE_10))), (u 1, .inl (G.2 0, 8, .inl (F 1))), (u 2, .inl (G.2 0, 3, .inl (F 2))), (u 3, .inl (G.2 0, 3, .inl (F 3))), (u 4, .inl (G.2 0, 40, .inl (upd (F 4) (N 2) (nI jv)))), (u 5, .inl (G.2 0, 40, .inl (F 5))), (u 6, .inl (G.2 0, 9, .inl (F 6))), (u 7, .inl (G.2 0, 12, .inl (F 7))), (u 8, .inl (G.2 0, 12, .inl (F 8))), (u 9, .inl (G.2 0, 10, .inl (upd (upd (F 9) 1 (nI (N 1 + 1))) 5 (nI (N 2 + 1)))))] : va_W) ++ w) := hD
      refine lv_aload_n hx hb dL_valves_594 rfl (lv_at hl 0 rfl) ?_
      refine lv_iload hx hb dL_valves_595 (lv_at hl 11 rfl) ?_
      refine lv_iload hx hb dL_valves_597 (lv_at hl 12 rfl) ?_
      have hkz_599 : sK2 ((sIx (nI jp) 9) && (sIx (nI jv) 8)) ((sMay N T (nI jp)) && !decide (N 2 = 40)) = 0 := (sK2_ok (sAnd_y (sIx_y hjp (by omega)) (sIx_y hjv (by omega))) (sAnd_y hmz (by simp [h40])))
      have hzb_599 : (8 + zmc (sK2 ((sIx (nI jp) 9) && (sIx (nI jv) 8)) ((sMay N T (nI jp)) && !decide (N 2 = 40))) (N 1) (N 1 + 1)) ≤ 136 ∧ (200 + zms (sK2 ((sIx (nI jp) 9) && (sIx (nI jv) 8)) ((sMay N T (nI jp)) && !decide (N 2 = 40))) (N 1) (N 1 + 1)) ≤ 744 := zmc_b8 (show N 1 + 1 ≤ 128 by omega)
      refine z_xR (G := G) (w := w) (c2 := 152) (s2 := 1144) (vx_runSX (hh := [(0, 7, 10, 14), (0, 7, 16, 18)]) (As := [.ref (r 0), .int (nI jp), .int (nI jv)]) (rest := []) ⟨hx, hb, hml, hown, hts⟩ (h_hang l hst G d r A mc g N T w K (nI jp) (nI jv) Hz.size hC hJ.1.1 (by omega) ) (vx_cwSW 3 hts gL_valves_L_hang rfl rfl rfl (by decide +kernel) ⟨Nat.le_of_ble_eq_true rfl, Nat.le_of_ble_eq_true rfl⟩) (z_hs hK (z_apR hP) (z_dR hD) hZ hLx hS hA) rfl rfl hl.1 rfl (lv_room (Nat.le_of_ble_eq_true rfl)) dL_valves_599 ⟨(show 16 + (8 + zmc (sK2 ((sIx (nI jp) 9) && (sIx (nI jv) 8)) ((sMay N T (nI jp)) && !decide (N 2 = 40))) (N 1) (N 1 + 1)) ≤ 400 by omega), (show 400 + (200 + zms (sK2 ((sIx (nI jp) 9) && (sIx (nI jv) 8)) ((sMay N T (nI jp)) && !decide (N 2 = 40))) (N 1) (N 1 + 1)) ≤ 2400 by omega)⟩) hP hD hS hA (show 16 + (8 + zmc (sK2 ((sIx (nI jp) 9) && (sIx (nI jv) 8)) ((sMay N T (nI jp)) && !decide (N 2 = 40))) (N 1) (N 1 + 1)) ≤ 152 by omega) (show 400 + (200 + zms (sK2 ((sIx (nI jp) 9) && (sIx (nI jv) 8)) ((sMay N T (nI jp)) && !decide (N 2 = 40))) (N 1) (N 1 + 1)) ≤ 1144 by omega) (fun rz_11 zw_11 Hz Lz hq hP hD hS => ?_)
      obtain ⟨hr9, A, mc, g, hC⟩ := hq.1 hkz_599
      rw [hr9]
      refine lv_aload hx hb dL_valves_602 (lv_at hl 10 rfl) ?_
      refine lv_iconst (v := 5) hx hb dL_valves_604 (by decide) ?_
      refine va_iald hx hb hK (z_apL hP) 9 0 rfl rfl (vp_in_nI (n := 5) (by decide) (by decide)) dL_valves_605 ?_
      refine W.eq (g2 := F0 m 606 ls [.int (nI (N 2 + 1)), .int (nI (N 2))]) (by rw [show (upd (upd (F 9) 1 (nI (N 1 + 1))) 5 (nI (N 2 + 1))) (5 : Int32).toNatClampNeg = nI (N 2 + 1) from rfl]) ?_
      refine lv_iconst (v := 1) hx hb dL_valves_606 (by decide) ?_
      refine lv_isub hx hb dL_valves_607 ?_
      refine W.eq (g2 := F0 m 608 ls [.int (nI (N 2)), .int (nI (N 2))]) (by first | (rw [nI_pred]; done) | (rw [nI_pred]; rfl)) ?_
      refine lv_icmp_ne (tgt := 615) hx hb dL_valves_608 (by decide) (fun zc_12 => absurd rfl zc_12) (fun _ => ?_)
      refine lv_iconst (v := 1) hx hb dL_valves_611 (by decide) ?_
      refine lv_goto (tgt := 616) hx hb dL_valves_612 (by decide) ?_
      exact z_widen (k := 400) (n := 2400) (show 152 ≤ 400 by omega) (show 1144 ≤ 2400 by omega) (W.zret (v := 1) hx hb hr rfl (fun t ht hW => ⟨⟨1, (([(u 0, .inl (G.2 1, 64, .inr (.inl zE_10))), (u 1, .inl (G.2 0, 8, .inl (F 1))), (u 2, .inl (G.2 0, 3, .inl (F 2))), (u 3, .inl (G.2 0, 3, .inl (F 3))), (u 4, .inl (G.2 0, 40, .inl (upd (F 4) (N 2) (nI jv)))), (u 5, .inl (G.2 0, 40, .inl (F 5))), (u 6, .inl (G.2 0, 9, .inl (F 6))), (u 7, .inl (G.2 0, 12, .inl (F 7))), (u 8, .inl (G.2 0, 12, .inl (F 8))), (u 9, .inl (G.2 0, 10, .inl (upd (upd (F 9) 1 (nI (N 1 + 1))) 5 (nI (N 2 + 1)))))] : va_W) ++ zw_11), rfl, ⟨rfl, ((nHang N T (nI jp) (nI jv)).1), ((nHang N T (nI jp) (nI jv)).2), zE_10, (va_up (va_up F 4 (upd (F 4) (N 2) (nI jv))) 9 (upd (upd (F 9) 1 (nI (N 1 + 1))) 5 (nI (N 2 + 1)))), zw_11, rfl, ⟨A, mc, g, hC⟩, hRn, ((sLJ_hang hJ hh9.1 hkz_599).mono (by omega))⟩, ⟨by rw [ht]; exact hP, hD⟩⟩, hS.F ht⟩) hS.2.2 dL_valves_616 hlocks)
    · skip
      have h40 : N 2 = 40 := (nI_eq (b := 40) (by omega) (by omega)).mp zc_9
      refine lv_aload_n hx hb dL_valves_543 rfl (lv_at hl 0 rfl) ?_
      refine lv_iload hx hb dL_valves_544 (lv_at hl 11 rfl) ?_
      refine lv_iload hx hb dL_valves_546 (lv_at hl 12 rfl) ?_
      have hkz_548 : sK2 ((sIx (nI jp) 9) && (sIx (nI jv) 8)) ((sMay N T (nI jp)) && !decide (N 2 = 40)) = 2 := (sK2_2' (sAnd_y (sIx_y hjp (by omega)) (sIx_y hjv (by omega))) (sAnd_r (by simp [h40])))
      have hzb_548 : (8 + zmc (sK2 ((sIx (nI jp) 9) && (sIx (nI jv) 8)) ((sMay N T (nI jp)) && !decide (N 2 = 40))) (N 1) (N 1 + 1)) ≤ 8 ∧ (200 + zms (sK2 ((sIx (nI jp) 9) && (sIx (nI jv) 8)) ((sMay N T (nI jp)) && !decide (N 2 = 40))) (N 1) (N 1 + 1)) ≤ 200 := zmc_n8 (by rw [hkz_548]; decide)
      refine z_xR (G := G) (w := w) (c2 := 24) (s2 := 600) (vx_runSX (hh := [(0, 7, 10, 14), (0, 7, 16, 18)]) (As := [.ref (r 0), .int (nI jp), .int (nI jv)]) (rest := []) ⟨hx, hb, hml, hown, hts⟩ (h_hang l hst G d r A mc g N T w K (nI jp) (nI jv) Hz.size hC hJ.1.1 (by omega) ) (vx_cwSW 3 hts gL_valves_L_hang rfl rfl rfl (by decide +kernel) ⟨Nat.le_of_ble_eq_true rfl, Nat.le_of_ble_eq_true rfl⟩) (z_hs hK (z_apR hP) (z_dR hD) hZ hLx hS hA) rfl rfl hl.1 rfl (lv_room (Nat.le_of_ble_eq_true rfl)) dL_valves_548 ⟨(show 16 + (8 + zmc (sK2 ((sIx (nI jp) 9) && (sIx (nI jv) 8)) ((sMay N T (nI jp)) && !decide (N 2 = 40))) (N 1) (N 1 + 1)) ≤ 400 by omega), (show 400 + (200 + zms (sK2 ((sIx (nI jp) 9) && (sIx (nI jv) 8)) ((sMay N T (nI jp)) && !decide (N 2 = 40))) (N 1) (N 1 + 1)) ≤ 2400 by omega)⟩) hP hD hS hA (show 16 + (8 + zmc (sK2 ((sIx (nI jp) 9) && (sIx (nI jv) 8)) ((sMay N T (nI jp)) && !decide (N 2 = 40))) (N 1) (N 1 + 1)) ≤ 24 by omega) (show 400 + (200 + zms (sK2 ((sIx (nI jp) 9) && (sIx (nI jv) 8)) ((sMay N T (nI jp)) && !decide (N 2 = 40))) (N 1) (N 1 + 1)) ≤ 600 by omega) (fun rz_13 zw_13 Hz Lz hq hP hD hS => ?_)
      obtain ⟨hr9, hw9⟩ := hq.2 (by rw [hkz_548]; decide)
      rw [hw9] at hP hD
      rw [hr9, show zCx [-7100, -7300] (sK2 ((sIx (nI jp) 9) && (sIx (nI jv) 8)) ((sMay N T (nI jp)) && !decide (N 2 = 40))) = (-7300) from by rw [hkz_548]; rfl]
      refine lv_sipush (v := (-7300)) hx hb dL_valves_551 (by decide) ?_
      refine lv_icmp_ne (tgt := 561) hx hb dL_valves_554 (by decide) (fun zc_14 => absurd zc_14 (by decide)) (fun _ => ?_)
      refine lv_iconst (v := 1) hx hb dL_valves_557 (by decide) ?_
      refine lv_goto (tgt := 562) hx hb dL_valves_558 (by decide) ?_
      exact z_widen (k := 400) (n := 2400) (show 24 ≤ 400 by omega) (show 600 ≤ 2400 by omega) (W.zret (v := 1) hx hb hr rfl (fun t ht hW => ⟨⟨1, (([(u 0, .inl (G.2 1, 64, .inr (.inl E))), (u 1, .inl (G.2 0, 8, .inl (F 1))), (u 2, .inl (G.2 0, 3, .inl (F 2))), (u 3, .inl (G.2 0, 3, .inl (F 3))), (u 4, .inl (G.2 0, 40, .inl (F 4))), (u 5, .inl (G.2 0, 40, .inl (F 5))), (u 6, .inl (G.2 0, 9, .inl (F 6))), (u 7, .inl (G.2 0, 12, .inl (F 7))), (u 8, .inl (G.2 0, 12, .inl (F 8))), (u 9, .inl (G.2 0, 10, .inl (F 9)))] : va_W) ++ w), rfl, ⟨rfl, N, T, E, F, w, rfl, ⟨A, mc, g, hC⟩, hR, (hJ.mono (by omega))⟩, ⟨by rw [ht]; exact hP, hD⟩⟩, hS.F ht⟩) hS.2.2 dL_valves_562 hlocks)

set_option maxHeartbeats 4000000 in
set_option maxRecDepth 100000 in
theorem vvalves_695 {p : Program} {l : Launch} {e : Env} {s : State} {m : MethodId} {below : List Frame} {meth : Method} {c : Code} {G : zG} {d : Nat} {r u : Nat → Nat} {act x y : Int32} {Aw : Nat → Prop} (hst : l.stackTraces = false) (hx : p.tables.exec = Jvm.exec) (hb : c.code = cL_valves) (hr : meth.sig.returnType = some .boolean) (hml : c.maxLocals = 17) (hown : s.vm.findClass RL = some m.cls) (hts : ∀ w ∈ wsL_valves, w.before ([.ref (r 0), .int act, .int x, .int y, .ref (u 0), .ref (u 1), .ref (u 3), .ref (u 4), .ref (u 5), .ref (u 6), .ref (u 9)] : List Value).toArray s = true) (hlocks : meth.locks = false) (hK : va_K G.1 vwCl (zT G.2) s) (hZ : zCe Aw d s s.heap) (hLx : zLx s) (hA : ∀ q : Nat, s.heap.size ≤ q → Aw q) {A : Nat → Nat} {mc : Nat → Int32} {g : Nat → Nat → Int32} {N : Nat → Nat} {T : Nat → Nat → Int32} {w : va_W} {E : Nat → Int64} {F : Nat → Nat → Int32} {K : Nat} (hC : sCQ G d r A mc g N T w) (hR : sLR N T E F) (hJ : sLJ N T K) (hK5 : K ≤ 400) (hh9 : N 1 ≤ 90 ∧ N 0 ≤ 1900) {jp jv jt : Nat} (hjp : jp < 9) (hjv : jv < 8) (hjt : jt < N 2 + 1) {H : Heap} {locs : List Loc} (hP : va_P G.1 vwCl (([(u 0, .inl (G.2 1, 64, .inr (.inl E))), (u 1, .inl (G.2 0, 8, .inl (F 1))), (u 2, .inl (G.2 0, 3, .inl (F 2))), (u 3, .inl (G.2 0, 3, .inl (F 3))), (u 4, .inl (G.2 0, 40, .inl (F 4))), (u 5, .inl (G.2 0, 40, .inl (F 5))), (u 6, .inl (G.2 0, 9, .inl (F 6))), (u 7, .inl (G.2 0, 12, .inl (F 7))), (u 8, .inl (G.2 0, 12, .inl (F 8))), (u 9, .inl (G.2 0, 10, .inl (F 9)))] : va_W) ++ w) H) (hD : va_D Aw (([(u 0, .inl (G.2 1, 64, .inr (.inl E))), (u 1, .inl (G.2 0, 8, .inl (F 1))), (u 2, .inl (G.2 0, 3, .inl (F 2))), (u 3, .inl (G.2 0, 3, .inl (F 3))), (u 4, .inl (G.2 0, 40, .inl (F 4))), (u 5, .inl (G.2 0, 40, .inl (F 5))), (u 6, .inl (G.2 0, 9, .inl (F 6))), (u 7, .inl (G.2 0, 12, .inl (F 7))), (u 8, .inl (G.2 0, 12, .inl (F 8))), (u 9, .inl (G.2 0, 10, .inl (F 9)))] : va_W) ++ w)) (hS : va_S Aw s.heap H locs) {ls : Array Slot} (hl : lv_has ls 17 [(0, .ref (r 0)), (1, .int act), (2, .int x), (3, .int y), (4, .ref (u 0)), (5, .ref (u 1)), (6, .ref (u 3)), (7, .ref (u 4)), (8, .ref (u 5)), (9, .ref (u 6)), (10, .ref (u 9)), (11, .int (nI jp)), (12, .int (nI jv)), (13, .int (nI jt))]) : W p l e (headSpec wsL_valves ({ frames := 9, cells := 400, slots := 2400, locals := 223 })).room s m ([.ref (r 0), .int act, .int x, .int y, .ref (u 0), .ref (u 1), .ref (u 3), .ref (u 4), .ref (u 5), .ref (u 6), .ref (u 9)] : List Value).toArray below meth c H locs 10 60 (MQ below (va_Qi (fun (r1 : Int32) (wz : va_W) => r1 = 1 ∧ ∃ (N2 : Nat → Nat) (T2 : Nat → Nat → Int32) (E2 : Nat → Int64) (F2 : Nat → Nat → Int32) (w2 : va_W), wz = LW G u E2 F2 ++ w2 ∧ sCO G d r N2 T2 w2 ∧ sLR N2 T2 E2 F2 ∧ sLJ N2 T2 (K + 2)) (zB G Aw) Aw) ([.ref (r 0), .int act, .int x, .int y, .ref (u 0), .ref (u 1), .ref (u 3), .ref (u 4), .ref (u 5), .ref (u 6), .ref (u 9)] : List Value).toArray s 400 2400 Aw) (F0 m 695 ls []) := by
  have hQ := hR.q hJ
  obtain ⟨hg0, hg1, hg2, hg3, hg4, hg5, hg6, hg7, hg8⟩ := hR.2.2.2.2.2.2.2.2.2
  obtain ⟨⟨hb1, hb0, hb3, hb4, hb5⟩, hlv, hlm, hLH⟩ := id hJ.2
  obtain ⟨⟨hi0, hi2, hi3, hi4, hi5, hi6, hi1⟩, hiB, hiE, hiT, hiA, hiA0, hiM, hiK, hiK0, hiX⟩ := id hJ.1.1
  have hLG := hJ.1.2
  have hS0z : va_S Aw s.heap s.heap [] := va_S.rf
  refine lv_iload hx hb dL_valves_695 (lv_at hl 13 rfl) ?_
  refine lv_aload hx hb dL_valves_697 (lv_at hl 10 rfl) ?_
  refine lv_iconst (v := 5) hx hb dL_valves_699 (by decide) ?_
  refine va_iald hx hb hK (z_apL hP) 9 0 rfl rfl (vp_in_nI (n := 5) (by decide) (by decide)) dL_valves_700 ?_
  refine W.eq (g2 := F0 m 701 ls [.int (nI (N 2)), .int (nI jt)]) (by rw [show (F 9) (5 : Int32).toNatClampNeg = nI (N 2) from hg5]) ?_
  refine lv_icmp_ne (tgt := 748) hx hb dL_valves_701 (by decide) (fun zc_1 => ?_) (fun zc_1 => ?_)
  · skip
    have hjn : ¬ jt = N 2 := fun z => zc_1 (by rw [z])
    have hjt2 : jt < N 2 := by omega
    have hcj : (nI jt).toNatClampNeg = jt := nI_clamp (by omega)
    refine lv_aload hx hb dL_valves_748 (lv_at hl 4 rfl) ?_
    refine lv_aload hx hb dL_valves_750 (lv_at hl 10 rfl) ?_
    refine lv_iload hx hb dL_valves_752 (lv_at hl 13 rfl) ?_
    refine z_csi (va_Run.run (va_runS (As := [.ref (u 0), .ref (u 9), .int (nI jt)]) (rest := []) ⟨hx, hb, hml, hown, hts⟩ (c_L_hanger l G u E F N T (nI jt) hQ (vp_in_nI hjt2 (by omega))) (va_cwS 3 hts gL_valves_L_hanger rfl rfl rfl (by decide +kernel) ⟨Nat.le_of_ble_eq_true rfl, Nat.le_of_ble_eq_true rfl⟩) (z_ps hK (z_apL hP)) rfl rfl hl.1 rfl (lv_room (Nat.le_of_ble_eq_true rfl)) dL_valves_754 ⟨(show 10 + 0 ≤ 400 by omega), (show 60 + 0 ≤ 2400 by omega)⟩)) (fun zr_2 hzr_2 => ?_)
    subst hzr_2
    refine lv_istore (lv' := [(14, .int (sHo T (nI jt))), (0, .ref (r 0)), (1, .int act), (2, .int x), (3, .int y), (4, .ref (u 0)), (5, .ref (u 1)), (6, .ref (u 3)), (7, .ref (u 4)), (8, .ref (u 5)), (9, .ref (u 6)), (10, .ref (u 9)), (11, .int (nI jp)), (12, .int (nI jv)), (13, .int (nI jt))]) hx hb dL_valves_757 hl (by decide) rfl (fun ls hl => ?_)
    refine lv_aload_n hx hb dL_valves_759 rfl (lv_at hl 1 rfl) ?_
    refine lv_bipush (v := 9) hx hb dL_valves_760 (by decide) ?_
    refine lv_iload hx hb dL_valves_762 (lv_at hl 14 rfl) ?_
    have hkz_764 : sK2 ((sIx (9 : Int32) 9) && (sIx (nI jt) (N 2))) (((decide (T 10 (nI jt).toNatClampNeg = 0)) && (sMay N T (9 : Int32))) && (decide ((9 : Int32) = T 7 (nI jt).toNatClampNeg) || !decide (T 2 (T 7 (nI jt).toNatClampNeg).toNatClampNeg = 0))) = 1 := (sK2_1' (sAnd_l (show sIx (9 : Int32) 9 = false from by decide)))
    have hzb_764 : (8 + zmc (sK2 ((sIx (9 : Int32) 9) && (sIx (nI jt) (N 2))) (((decide (T 10 (nI jt).toNatClampNeg = 0)) && (sMay N T (9 : Int32))) && (decide ((9 : Int32) = T 7 (nI jt).toNatClampNeg) || !decide (T 2 (T 7 (nI jt).toNatClampNeg).toNatClampNeg = 0)))) (N 1) ((nTake N T (9 : Int32) (nI jt)).1 1)) ≤ 8 ∧ (200 + zms (sK2 ((sIx (9 : Int32) 9) && (sIx (nI jt) (N 2))) (((decide (T 10 (nI jt).toNatClampNeg = 0)) && (sMay N T (9 : Int32))) && (decide ((9 : Int32) = T 7 (nI jt).toNatClampNeg) || !decide (T 2 (T 7 (nI jt).toNatClampNeg).toNatClampNeg = 0)))) (N 1) ((nTake N T (9 : Int32) (nI jt)).1 1)) ≤ 200 := zmc_n8 (by rw [hkz_764]; decide)
    refine z_xR (G := G) (w := w) (c2 := 18) (s2 := 260) (vx_runSX (hh := [(0, 7, 10, 14), (0, 7, 16, 18)]) (As := [.ref (r 0), .int 9, .int (nI jt)]) (rest := []) ⟨hx, hb, hml, hown, hts⟩ (h_takeOff l hst G d r A mc g N T w K (9 : Int32) (nI jt) H.size hC hJ.1.1 (by omega) ) (vx_cwSW 3 hts gL_valves_L_takeOff rfl rfl rfl (by decide +kernel) ⟨Nat.le_of_ble_eq_true rfl, Nat.le_of_ble_eq_true rfl⟩) (z_hs hK (z_apR hP) (z_dR hD) hZ hLx hS hA) rfl rfl hl.1 rfl (lv_room (Nat.le_of_ble_eq_true rfl)) dL_valves_764 ⟨(show 10 + (8 + zmc (sK2 ((sIx (9 : Int32) 9) && (sIx (nI jt) (N 2))) (((decide (T 10 (nI jt).toNatClampNeg = 0)) && (sMay N T (9 : Int32))) && (decide ((9 : Int32) = T 7 (nI jt).toNatClampNeg) || !decide (T 2 (T 7 (nI jt).toNatClampNeg).toNatClampNeg = 0)))) (N 1) ((nTake N T (9 : Int32) (nI jt)).1 1)) ≤ 400 by omega), (show 60 + (200 + zms (sK2 ((sIx (9 : Int32) 9) && (sIx (nI jt) (N 2))) (((decide (T 10 (nI jt).toNatClampNeg = 0)) && (sMay N T (9 : Int32))) && (decide ((9 : Int32) = T 7 (nI jt).toNatClampNeg) || !decide (T 2 (T 7 (nI jt).toNatClampNeg).toNatClampNeg = 0)))) (N 1) ((nTake N T (9 : Int32) (nI jt)).1 1)) ≤ 2400 by omega)⟩) hP hD hS hA (show 10 + (8 + zmc (sK2 ((sIx (9 : Int32) 9) && (sIx (nI jt) (N 2))) (((decide (T 10 (nI jt).toNatClampNeg = 0)) && (sMay N T (9 : Int32))) && (decide ((9 : Int32) = T 7 (nI jt).toNatClampNeg) || !decide (T 2 (T 7 (nI jt).toNatClampNeg).toNatClampNeg = 0)))) (N 1) ((nTake N T (9 : Int32) (nI jt)).1 1)) ≤ 18 by omega) (show 60 + (200 + zms (sK2 ((sIx (9 : Int32) 9) && (sIx (nI jt) (N 2))) (((decide (T 10 (nI jt).toNatClampNeg = 0)) && (sMay N T (9 : Int32))) && (decide ((9 : Int32) = T 7 (nI jt).toNatClampNeg) || !decide (T 2 (T 7 (nI jt).toNatClampNeg).toNatClampNeg = 0)))) (N 1) ((nTake N T (9 : Int32) (nI jt)).1 1)) ≤ 260 by omega) (fun rz_3 zw_3 Hz Lz hq hP hD hS => ?_)
    obtain ⟨hr9, hw9⟩ := hq.2 (by rw [hkz_764]; decide)
    rw [hw9] at hP hD
    rw [hr9, show zCx [-7100, -7300] (sK2 ((sIx (9 : Int32) 9) && (sIx (nI jt) (N 2))) (((decide (T 10 (nI jt).toNatClampNeg = 0)) && (sMay N T (9 : Int32))) && (decide ((9 : Int32) = T 7 (nI jt).toNatClampNeg) || !decide (T 2 (T 7 (nI jt).toNatClampNeg).toNatClampNeg = 0)))) = (-7100) from by rw [hkz_764]; rfl]
    refine lv_sipush (v := (-7100)) hx hb dL_valves_767 (by decide) ?_
    refine lv_icmp_eq (tgt := 775) hx hb dL_valves_770 (by decide) (fun _ => ?_) (fun zc_4 => absurd zc_4 (by decide))
    refine lv_iload hx hb dL_valves_775 (lv_at hl 0 rfl) ?_
    refine lv_if_lt (tgt := 815) hx hb dL_valves_777 (by decide) (fun zc_5 => ?_) (fun zc_5 => ?_)
    · skip
      have zd_5 := Int32.not_le.mpr zc_5
      have hon := (sHo_n hQ.2.2.2.2.2.2.2.1 hjt2 hi2).1.mp zc_5
      refine lv_aload_n hx hb dL_valves_815 rfl (lv_at hl 1 rfl) ?_
      refine lv_iload hx hb dL_valves_816 (lv_at hl 12 rfl) ?_
      refine lv_iload hx hb dL_valves_818 (lv_at hl 14 rfl) ?_
      have hkz_820 : sK2 ((sIx (nI jp) 9) && (sIx (nI jt) (N 2))) (((decide (T 10 (nI jt).toNatClampNeg = 0)) && (sMay N T (nI jp))) && (decide ((nI jp) = T 7 (nI jt).toNatClampNeg) || !decide (T 2 (T 7 (nI jt).toNatClampNeg).toNatClampNeg = 0))) = 2 := (sK2_2' (sAnd_y (sIx_y hjp (by omega)) (sIx_y hjt2 (by omega))) (by rw [hcj]; simp [hon]))
      have hzb_820 : (8 + zmc (sK2 ((sIx (nI jp) 9) && (sIx (nI jt) (N 2))) (((decide (T 10 (nI jt).toNatClampNeg = 0)) && (sMay N T (nI jp))) && (decide ((nI jp) = T 7 (nI jt).toNatClampNeg) || !decide (T 2 (T 7 (nI jt).toNatClampNeg).toNatClampNeg = 0)))) (N 1) ((nTake N T (nI jp) (nI jt)).1 1)) ≤ 8 ∧ (200 + zms (sK2 ((sIx (nI jp) 9) && (sIx (nI jt) (N 2))) (((decide (T 10 (nI jt).toNatClampNeg = 0)) && (sMay N T (nI jp))) && (decide ((nI jp) = T 7 (nI jt).toNatClampNeg) || !decide (T 2 (T 7 (nI jt).toNatClampNeg).toNatClampNeg = 0)))) (N 1) ((nTake N T (nI jp) (nI jt)).1 1)) ≤ 200 := zmc_n8 (by rw [hkz_820]; decide)
      refine z_xR (G := G) (w := w) (c2 := 26) (s2 := 460) (vx_runSX (hh := [(0, 7, 10, 14), (0, 7, 16, 18)]) (As := [.ref (r 0), .int (nI jp), .int (nI jt)]) (rest := []) ⟨hx, hb, hml, hown, hts⟩ (h_takeOff l hst G d r A mc g N T w K (nI jp) (nI jt) Hz.size hC hJ.1.1 (by omega) ) (vx_cwSW 3 hts gL_valves_L_takeOff rfl rfl rfl (by decide +kernel) ⟨Nat.le_of_ble_eq_true rfl, Nat.le_of_ble_eq_true rfl⟩) (z_hs hK (z_apR hP) (z_dR hD) hZ hLx hS hA) rfl rfl hl.1 rfl (lv_room (Nat.le_of_ble_eq_true rfl)) dL_valves_820 ⟨(show 18 + (8 + zmc (sK2 ((sIx (nI jp) 9) && (sIx (nI jt) (N 2))) (((decide (T 10 (nI jt).toNatClampNeg = 0)) && (sMay N T (nI jp))) && (decide ((nI jp) = T 7 (nI jt).toNatClampNeg) || !decide (T 2 (T 7 (nI jt).toNatClampNeg).toNatClampNeg = 0)))) (N 1) ((nTake N T (nI jp) (nI jt)).1 1)) ≤ 400 by omega), (show 260 + (200 + zms (sK2 ((sIx (nI jp) 9) && (sIx (nI jt) (N 2))) (((decide (T 10 (nI jt).toNatClampNeg = 0)) && (sMay N T (nI jp))) && (decide ((nI jp) = T 7 (nI jt).toNatClampNeg) || !decide (T 2 (T 7 (nI jt).toNatClampNeg).toNatClampNeg = 0)))) (N 1) ((nTake N T (nI jp) (nI jt)).1 1)) ≤ 2400 by omega)⟩) hP hD hS hA (show 18 + (8 + zmc (sK2 ((sIx (nI jp) 9) && (sIx (nI jt) (N 2))) (((decide (T 10 (nI jt).toNatClampNeg = 0)) && (sMay N T (nI jp))) && (decide ((nI jp) = T 7 (nI jt).toNatClampNeg) || !decide (T 2 (T 7 (nI jt).toNatClampNeg).toNatClampNeg = 0)))) (N 1) ((nTake N T (nI jp) (nI jt)).1 1)) ≤ 26 by omega) (show 260 + (200 + zms (sK2 ((sIx (nI jp) 9) && (sIx (nI jt) (N 2))) (((decide (T 10 (nI jt).toNatClampNeg = 0)) && (sMay N T (nI jp))) && (decide ((nI jp) = T 7 (nI jt).toNatClampNeg) || !decide (T 2 (T 7 (nI jt).toNatClampNeg).toNatClampNeg = 0)))) (N 1) ((nTake N T (nI jp) (nI jt)).1 1)) ≤ 460 by omega) (fun rz_6 zw_6 Hz Lz hq hP hD hS => ?_)
      obtain ⟨hr9, hw9⟩ := hq.2 (by rw [hkz_820]; decide)
      rw [hw9] at hP hD
      rw [hr9, show zCx [-7100, -7300] (sK2 ((sIx (nI jp) 9) && (sIx (nI jt) (N 2))) (((decide (T 10 (nI jt).toNatClampNeg = 0)) && (sMay N T (nI jp))) && (decide ((nI jp) = T 7 (nI jt).toNatClampNeg) || !decide (T 2 (T 7 (nI jt).toNatClampNeg).toNatClampNeg = 0)))) = (-7300) from by rw [hkz_820]; rfl]
      refine lv_sipush (v := (-7300)) hx hb dL_valves_823 (by decide) ?_
      refine lv_icmp_ne (tgt := 833) hx hb dL_valves_826 (by decide) (fun zc_7 => absurd zc_7 (by decide)) (fun _ => ?_)
      refine lv_iconst (v := 1) hx hb dL_valves_829 (by decide) ?_
      refine lv_goto (tgt := 834) hx hb dL_valves_830 (by decide) ?_
      exact z_widen (k := 400) (n := 2400) (show 26 ≤ 400 by omega) (show 460 ≤ 2400 by omega) (W.zret (v := 1) hx hb hr rfl (fun t ht hW => ⟨⟨1, (([(u 0, .inl (G.2 1, 64, .inr (.inl E))), (u 1, .inl (G.2 0, 8, .inl (F 1))), (u 2, .inl (G.2 0, 3, .inl (F 2))), (u 3, .inl (G.2 0, 3, .inl (F 3))), (u 4, .inl (G.2 0, 40, .inl (F 4))), (u 5, .inl (G.2 0, 40, .inl (F 5))), (u 6, .inl (G.2 0, 9, .inl (F 6))), (u 7, .inl (G.2 0, 12, .inl (F 7))), (u 8, .inl (G.2 0, 12, .inl (F 8))), (u 9, .inl (G.2 0, 10, .inl (F 9)))] : va_W) ++ w), rfl, ⟨rfl, N, T, E, F, w, rfl, ⟨A, mc, g, hC⟩, hR, (hJ.mono (by omega))⟩, ⟨by rw [ht]; exact hP, hD⟩⟩, hS.F ht⟩) hS.2.2 dL_valves_834 hlocks)
    · skip
      have zd_5 := Int32.not_lt.mp zc_5
      have hon : T 10 jt = 0 := Decidable.byContradiction (fun z9 => zc_5 ((sHo_n hQ.2.2.2.2.2.2.2.1 hjt2 hi2).1.mpr z9))
      have ho9 := (sHo_n hQ.2.2.2.2.2.2.2.1 hjt2 hi2).2 hon
      rw [ho9] at hl
      have hf5 := hR.2.2.2.2.2.1.2 jt hjt2 hon
      refine lv_aload hx hb dL_valves_780 (lv_at hl 5 rfl) ?_
      refine lv_aload hx hb dL_valves_782 (lv_at hl 8 rfl) ?_
      refine lv_aload hx hb dL_valves_784 (lv_at hl 10 rfl) ?_
      refine lv_aload hx hb dL_valves_786 (lv_at hl 11 rfl) ?_
      refine lv_iload hx hb dL_valves_788 (lv_at hl 12 rfl) ?_
      refine z_csi (va_Run.run (va_runS (As := [.ref (u 0), .ref (u 4), .ref (u 6), .ref (u 9), .int (nI jp)]) (rest := []) ⟨hx, hb, hml, hown, hts⟩ (c_L_mayAct l G u E F N T (nI jp) hQ (vp_in_nI (by omega) (by omega))) (va_cwS 5 hts gL_valves_L_mayAct rfl rfl rfl (by decide +kernel) ⟨Nat.le_of_ble_eq_true rfl, Nat.le_of_ble_eq_true rfl⟩) (z_ps hK (z_apL hP)) rfl rfl hl.1 rfl (lv_room (Nat.le_of_ble_eq_true rfl)) dL_valves_790 ⟨(show 18 + 0 ≤ 400 by omega), (show 260 + 0 ≤ 2400 by omega)⟩)) (fun zr_8 hzr_8 => ?_)
      subst hzr_8
      refine lv_if_eq (tgt := 815) hx hb dL_valves_793 (by decide) (fun zc_9 => ?_) (fun zc_9 => ?_)
      · skip
        have zc_9 := zb_0.mp zc_9
        have hmz := zc_9
        refine lv_aload_n hx hb dL_valves_815 rfl (lv_at hl 1 rfl) ?_
        refine lv_iload hx hb dL_valves_816 (lv_at hl 12 rfl) ?_
        refine lv_iload hx hb dL_valves_818 (lv_at hl 14 rfl) ?_
        have hkz_820 : sK2 ((sIx (nI jp) 9) && (sIx (nI jt) (N 2))) (((decide (T 10 (nI jt).toNatClampNeg = 0)) && (sMay N T (nI jp))) && (decide ((nI jp) = T 7 (nI jt).toNatClampNeg) || !decide (T 2 (T 7 (nI jt).toNatClampNeg).toNatClampNeg = 0))) = 2 := (sK2_2' (sAnd_y (sIx_y hjp (by omega)) (sIx_y hjt2 (by omega))) (by rw [hcj]; simp [hmz]))
        have hzb_820 : (8 + zmc (sK2 ((sIx (nI jp) 9) && (sIx (nI jt) (N 2))) (((decide (T 10 (nI jt).toNatClampNeg = 0)) && (sMay N T (nI jp))) && (decide ((nI jp) = T 7 (nI jt).toNatClampNeg) || !decide (T 2 (T 7 (nI jt).toNatClampNeg).toNatClampNeg = 0)))) (N 1) ((nTake N T (nI jp) (nI jt)).1 1)) ≤ 8 ∧ (200 + zms (sK2 ((sIx (nI jp) 9) && (sIx (nI jt) (N 2))) (((decide (T 10 (nI jt).toNatClampNeg = 0)) && (sMay N T (nI jp))) && (decide ((nI jp) = T 7 (nI jt).toNatClampNeg) || !decide (T 2 (T 7 (nI jt).toNatClampNeg).toNatClampNeg = 0)))) (N 1) ((nTake N T (nI jp) (nI jt)).1 1)) ≤ 200 := zmc_n8 (by rw [hkz_820]; decide)
        refine z_xR (G := G) (w := w) (c2 := 26) (s2 := 460) (vx_runSX (hh := [(0, 7, 10, 14), (0, 7, 16, 18)]) (As := [.ref (r 0), .int (nI jp), .int (nI jt)]) (rest := []) ⟨hx, hb, hml, hown, hts⟩ (h_takeOff l hst G d r A mc g N T w K (nI jp) (nI jt) Hz.size hC hJ.1.1 (by omega) ) (vx_cwSW 3 hts gL_valves_L_takeOff rfl rfl rfl (by decide +kernel) ⟨Nat.le_of_ble_eq_true rfl, Nat.le_of_ble_eq_true rfl⟩) (z_hs hK (z_apR hP) (z_dR hD) hZ hLx hS hA) rfl rfl hl.1 rfl (lv_room (Nat.le_of_ble_eq_true rfl)) dL_valves_820 ⟨(show 18 + (8 + zmc (sK2 ((sIx (nI jp) 9) && (sIx (nI jt) (N 2))) (((decide (T 10 (nI jt).toNatClampNeg = 0)) && (sMay N T (nI jp))) && (decide ((nI jp) = T 7 (nI jt).toNatClampNeg) || !decide (T 2 (T 7 (nI jt).toNatClampNeg).toNatClampNeg = 0)))) (N 1) ((nTake N T (nI jp) (nI jt)).1 1)) ≤ 400 by omega), (show 260 + (200 + zms (sK2 ((sIx (nI jp) 9) && (sIx (nI jt) (N 2))) (((decide (T 10 (nI jt).toNatClampNeg = 0)) && (sMay N T (nI jp))) && (decide ((nI jp) = T 7 (nI jt).toNatClampNeg) || !decide (T 2 (T 7 (nI jt).toNatClampNeg).toNatClampNeg = 0)))) (N 1) ((nTake N T (nI jp) (nI jt)).1 1)) ≤ 2400 by omega)⟩) hP hD hS hA (show 18 + (8 + zmc (sK2 ((sIx (nI jp) 9) && (sIx (nI jt) (N 2))) (((decide (T 10 (nI jt).toNatClampNeg = 0)) && (sMay N T (nI jp))) && (decide ((nI jp) = T 7 (nI jt).toNatClampNeg) || !decide (T 2 (T 7 (nI jt).toNatClampNeg).toNatClampNeg = 0)))) (N 1) ((nTake N T (nI jp) (nI jt)).1 1)) ≤ 26 by omega) (show 260 + (200 + zms (sK2 ((sIx (nI jp) 9) && (sIx (nI jt) (N 2))) (((decide (T 10 (nI jt).toNatClampNeg = 0)) && (sMay N T (nI jp))) && (decide ((nI jp) = T 7 (nI jt).toNatClampNeg) || !decide (T 2 (T 7 (nI jt).toNatClampNeg).toNatClampNeg = 0)))) (N 1) ((nTake N T (nI jp) (nI jt)).1 1)) ≤ 460 by omega) (fun rz_10 zw_10 Hz Lz hq hP hD hS => ?_)
        obtain ⟨hr9, hw9⟩ := hq.2 (by rw [hkz_820]; decide)
        rw [hw9] at hP hD
        rw [hr9, show zCx [-7100, -7300] (sK2 ((sIx (nI jp) 9) && (sIx (nI jt) (N 2))) (((decide (T 10 (nI jt).toNatClampNeg = 0)) && (sMay N T (nI jp))) && (decide ((nI jp) = T 7 (nI jt).toNatClampNeg) || !decide (T 2 (T 7 (nI jt).toNatClampNeg).toNatClampNeg = 0)))) = (-7300) from by rw [hkz_820]; rfl]
        refine lv_sipush (v := (-7300)) hx hb dL_valves_823 (by decide) ?_
        refine lv_icmp_ne (tgt := 833) hx hb dL_valves_826 (by decide) (fun zc_11 => absurd zc_11 (by decide)) (fun _ => ?_)
        refine lv_iconst (v := 1) hx hb dL_valves_829 (by decide) ?_
        refine lv_goto (tgt := 834) hx hb dL_valves_830 (by decide) ?_
        exact z_widen (k := 400) (n := 2400) (show 26 ≤ 400 by omega) (show 460 ≤ 2400 by omega) (W.zret (v := 1) hx hb hr rfl (fun t ht hW => ⟨⟨1, (([(u 0, .inl (G.2 1, 64, .inr (.inl E))), (u 1, .inl (G.2 0, 8, .inl (F 1))), (u 2, .inl (G.2 0, 3, .inl (F 2))), (u 3, .inl (G.2 0, 3, .inl (F 3))), (u 4, .inl (G.2 0, 40, .inl (F 4))), (u 5, .inl (G.2 0, 40, .inl (F 5))), (u 6, .inl (G.2 0, 9, .inl (F 6))), (u 7, .inl (G.2 0, 12, .inl (F 7))), (u 8, .inl (G.2 0, 12, .inl (F 8))), (u 9, .inl (G.2 0, 10, .inl (F 9)))] : va_W) ++ w), rfl, ⟨rfl, N, T, E, F, w, rfl, ⟨A, mc, g, hC⟩, hR, (hJ.mono (by omega))⟩, ⟨by rw [ht]; exact hP, hD⟩⟩, hS.F ht⟩) hS.2.2 dL_valves_834 hlocks)
      · skip
        have zc_9 := zb_n0 zc_9
        have hmz := zc_9
        refine lv_iload hx hb dL_valves_796 (lv_at hl 0 rfl) ?_
        refine lv_iload hx hb dL_valves_798 (lv_at hl 12 rfl) ?_
        refine lv_icmp_eq (tgt := 835) hx hb dL_valves_800 (by decide) (fun zc_12 => ?_) (fun zc_12 => ?_)
        · skip
          have how := zc_12
          refine lv_iconst (v := 0) hx hb dL_valves_835 (by decide) ?_
          refine lv_istore (lv' := [(15, .int 0), (14, .int (T 7 jt)), (0, .ref (r 0)), (1, .int act), (2, .int x), (3, .int y), (4, .ref (u 0)), (5, .ref (u 1)), (6, .ref (u 3)), (7, .ref (u 4)), (8, .ref (u 5)), (9, .ref (u 6)), (10, .ref (u 9)), (11, .int (nI jp)), (12, .int (nI jv)), (13, .int (nI jt))]) hx hb dL_valves_836 hl (by decide) rfl (fun ls hl => ?_)
          refine lv_aload hx hb dL_valves_838 (lv_at hl 10 rfl) ?_
          refine lv_iload hx hb dL_valves_840 (lv_at hl 15 rfl) ?_
          refine lv_dup2_11 hx hb dL_valves_842 rfl rfl ?_
          refine va_iald hx hb hK (z_apL hP) 5 0 rfl rfl (vp_in_nI (by omega) (by omega)) dL_valves_843 ?_
          rw [nI_clamp (by omega)]
          refine lv_iconst (v := 1) hx hb dL_valves_844 (by decide) ?_
          refine lv_iload hx hb dL_valves_845 (lv_at hl 13 rfl) ?_
          refine lv_ishl hx hb dL_valves_847 ?_
          refine lv_ior hx hb dL_valves_848 ?_
          refine va_iast hx hb hK hP hD hS 5 0 rfl rfl (vp_in_nI (by omega) (by omega)) dL_valves_849 (fun Hz Lz hP hD hS => ?_)
          rw [nI_clamp (by omega)] at hP hD
          have hP : va_P G.1 vwCl (([(u 0, .inl (G.2 1, 64, .inr (.inl E))), (u 1, .inl (G.2 0, 8, .inl (F 1))), (u 2, .inl (G.2 0, 3, .inl (F 2))), (u 3, .inl (G.2 0, 3, .inl (F 3))), (u 4, .inl (G.2 0, 40, .inl (F 4))), (u 5, .inl (G.2 0, 40, .inl (upd (F 5) jt (((F 5) jt) ||| ((1 : Int32) <<< ((nI jp) &&& 31)))))), (u 6, .inl (G.2 0, 9, .inl (F 6))), (u 7, .inl (G.2 0, 12, .inl (F 7))), (u 8, .inl (G.2 0, 12, .inl (F 8))), (u 9, .inl (G.2 0, 10, .inl (F 9)))] : va_W) ++ w) Hz := hP
          have hD : va_D Aw (([(u 0, .inl (G.2 1, 64, .inr (.inl E))), (u 1, .inl (G.2 0, 8, .inl (F 1))), (u 2, .inl (G.2 0, 3, .inl (F 2))), (u 3, .inl (G.2 0, 3, .inl (F 3))), (u 4, .inl (G.2 0, 40, .inl (F 4))), (u 5, .inl (G.2 0, 40, .inl (upd (F 5) jt (((F 5) jt) ||| ((1 : Int32) <<< ((nI jp) &&& 31)))))), (u 6, .inl (G.2 0, 9, .inl (F 6))), (u 7, .inl (G.2 0, 12, .inl (F 7))), (u 8, .inl (G.2 0, 12, .inl (F 8))), (u 9, .inl (G.2 0, 10, .inl (F 9)))] : va_W) ++ w) := hD
          refine lv_iconst (v := 0) hx hb dL_valves_850 (by decide) ?_
          refine lv_istore (lv' := [(16, .int 0), (15, .int 0), (14, .int (T 7 jt)), (0, .ref (r 0)), (1, .int act), (2, .int x), (3, .int y), (4, .ref (u 0)), (5, .ref (u 1)), (6, .ref (u 3)), (7, .ref (u 4)), (8, .ref (u 5)), (9, .ref (u 6)), (10, .ref (u 9)), (11, .int (nI jp)), (12, .int (nI jv)), (13, .int (nI jt))]) hx hb dL_valves_851 hl (by decide) rfl (fun ls hl => ?_)
          have key_853 : ∀ (n i : Nat), i ≤ 9 → 9 < i + n → ∀ (Hz : Heap) (Lz : List Loc), va_P G.1 vwCl (([(u 0, .inl (G.2 1, 64, .inr (.inl E))), (u 1, .inl (G.2 0, 8, .inl (F 1))), (u 2, .inl (G.2 0, 3, .inl (F 2))), (u 3, .inl (G.2 0, 3, .inl (F 3))), (u 4, .inl (G.2 0, 40, .inl (F 4))), (u 5, .inl (G.2 0, 40, .inl (upd (F 5) jt (((F 5) jt) ||| ((1 : Int32) <<< ((nI jp) &&& 31)))))), (u 6, .inl (G.2 0, 9, .inl (F 6))), (u 7, .inl (G.2 0, 12, .inl (F 7))), (u 8, .inl (G.2 0, 12, .inl (F 8))), (u 9, .inl (G.2 0, 10, .inl (F 9)))] : va_W) ++ w) Hz → va_D Aw (([(u 0, .inl (G.2 1, 64, .inr (.inl E))), (u 1, .inl (G.2 0, 8, .inl (F 1))), (u 2, .inl (G.2 0, 3, .inl (F 2))), (u 3, .inl (G.2 0, 3, .inl (F 3))), (u 4, .inl (G.2 0, 40, .inl (F 4))), (u 5, .inl (G.2 0, 40, .inl (upd (F 5) jt (((F 5) jt) ||| ((1 : Int32) <<< ((nI jp) &&& 31)))))), (u 6, .inl (G.2 0, 9, .inl (F 6))), (u 7, .inl (G.2 0, 12, .inl (F 7))), (u 8, .inl (G.2 0, 12, .inl (F 8))), (u 9, .inl (G.2 0, 10, .inl (F 9)))] : va_W) ++ w) → va_S Aw s.heap Hz Lz → ∀ ls : Array Slot, lv_has ls 17 [(0, .ref (r 0)), (1, .int act), (2, .int x), (3, .int y), (4, .ref (u 0)), (5, .ref (u 1)), (6, .ref (u 3)), (7, .ref (u 4)), (8, .ref (u 5)), (9, .ref (u 6)), (10, .ref (u 9)), (11, .int (nI jp)), (12, .int (nI jv)), (13, .int (nI jt)), (14, .int (T 7 jt)), (15, .int (zAsk ((if T 9 jt = -1 then 0 else (1 : Int32) <<< (T 9 jt &&& 31)) ||| ((1 : Int32) <<< ((nI jp) &&& 31))) i)), (16, .int (nI i))] → W p l e (headSpec wsL_valves ({ frames := 9, cells := 400, slots := 2400, locals := 223 })).room s m ([.ref (r 0), .int act, .int x, .int y, .ref (u 0), .ref (u 1), .ref (u 3), .ref (u 4), .ref (u 5), .ref (u 6), .ref (u 9)] : List Value).toArray below meth c Hz Lz (40) (400) (MQ below (va_Qi (fun (r1 : Int32) (wz : va_W) => r1 = 1 ∧ ∃ (N2 : Nat → Nat) (T2 : Nat → Nat → Int32) (E2 : Nat → Int64) (F2 : Nat → Nat → Int32) (w2 : va_W), wz = LW G u E2 F2 ++ w2 ∧ sCO G d r N2 T2 w2 ∧ sLR N2 T2 E2 F2 ∧ sLJ N2 T2 (K + 2)) (zB G Aw) Aw) ([.ref (r 0), .int act, .int x, .int y, .ref (u 0), .ref (u 1), .ref (u 3), .ref (u 4), .ref (u 5), .ref (u 6), .ref (u 9)] : List Value).toArray s 400 2400 Aw) (F0 m 853 ls []) := by
            intro n
            induction n with
            | zero => intro i hi_a hi_b; exact absurd hi_b (by omega)
            | succ n ih =>
              intro i hil hin    Hz Lz hP hD hS ls hl
              refine lv_iload hx hb dL_valves_853 (lv_at hl 16 rfl) ?_
              refine lv_bipush (v := 9) hx hb dL_valves_855 (by decide) ?_
              refine lv_icmp_ge (tgt := 881) hx hb dL_valves_857 (by decide) (fun zc_13 => ?_) (fun zc_13 => ?_)
              · skip
                have zd_13 := Int32.not_lt.mpr zc_13
                have zhc : 9 ≤ i := (nI_leI (a := 9) (b := i) (by omega) (by omega)).mp zc_13
                have zie : 9 = i := Nat.le_antisymm zhc hil
                subst zie
                refine lv_iload hx hb dL_valves_881 (lv_at hl 14 rfl) ?_
                refine lv_iload hx hb dL_valves_883 (lv_at hl 11 rfl) ?_
                refine lv_icmp_eq (tgt := 911) hx hb dL_valves_885 (by decide) (fun zc_14 => ?_) (fun zc_14 => ?_)
                · skip
                  have hcm : sComes T (nI jp) jt = true := by rw [sComes, decide_eq_true how.symm]; rfl
                  refine lv_aload hx hb dL_valves_911 (lv_at hl 4 rfl) ?_
                  refine lv_aload hx hb dL_valves_913 (lv_at hl 10 rfl) ?_
                  refine lv_iconst (v := 2) hx hb dL_valves_915 (by decide) ?_
                  refine lv_iload hx hb dL_valves_916 (lv_at hl 11 rfl) ?_
                  refine lv_iload hx hb dL_valves_918 (lv_at hl 13 rfl) ?_
                  refine z_lv (G := G) (w := (LW G u E (va_up F 5 (upd (F 5) jt (((F 5) jt) ||| ((1 : Int32) <<< ((nI jp) &&& 31))))))) (wr := w) (va_runS (As := [.ref (u 0), .ref (u 9), .int 2, .int (nI jp), .int (nI jt)]) (rest := []) ⟨hx, hb, hml, hown, hts⟩ (c_L_note l G u E (va_up F 5 (upd (F 5) jt (((F 5) jt) ||| ((1 : Int32) <<< ((nI jp) &&& 31))))) (T 0) (N 1) (N 0) 2 (nI jp) (nI jt) Hz.size hR.1 (by omega) hg0 hg1 hi0 ⟨2, by decide, rfl⟩ ⟨jp + 1, by omega, nI_1 jp⟩ ⟨jt, by omega, rfl⟩) (va_cwS 5 hts gL_valves_L_note rfl rfl rfl (by decide +kernel) ⟨Nat.le_of_ble_eq_true rfl, Nat.le_of_ble_eq_true rfl⟩) (z_us hK (z_apL hP) (z_dL hD)) rfl rfl hl.1 rfl (lv_room (Nat.le_of_ble_eq_true rfl)) dL_valves_920 ⟨(show 40 + 0 ≤ 400 by omega), (show 400 + 0 ≤ 2400 by omega)⟩) hP hD hS hA (fun w1 Hz Lz hw hP hD hS => ?_)
                  obtain ⟨zE_15, rfl, hzE_15⟩ := hw
                  have hP : va_P G.1 vwCl (([(u 0, .inl (G.2 1, 64, .inr (.inl zE_15))), (u 1, .inl (G.2 0, 8, .inl (F 1))), (u 2, .inl (G.2 0, 3, .inl (F 2))), (u 3, .inl (G.2 0, 3, .inl (F 3))), (u 4, .inl (G.2 0, 40, .inl (F 4))), (u 5, .inl (G.2 0, 40, .inl (upd (F 5) jt (((F 5) jt) ||| ((1 : Int32) <<< ((nI jp) &&& 31)))))), (u 6, .inl (G.2 0, 9, .inl (F 6))), (u 7, .inl (G.2 0, 12, .inl (F 7))), (u 8, .inl (G.2 0, 12, .inl (F 8))), (u 9, .inl (G.2 0, 10, .inl (upd (F 9) 1 (nI (N 1 + 1)))))] : va_W) ++ w) Hz := hP
                  have hD : va_D Aw (([(u 0, .inl (G.2 1, 64, .inr (.inl zE_15))), (u 1, .inl (G.2 0, 8, .inl (F 1))), (u 2, .inl (G.2 0, 3, .inl (F 2))), (u 3, .inl (G.2 0, 3, .inl (F 3))), (u 4, .inl (G.2 0, 40, .inl (F 4))), (u 5, .inl (G.2 0, 40, .inl (upd (F 5) jt (((F 5) jt) ||| ((1 : Int32) <<< ((nI jp) &&& 31)))))), (u 6, .inl (G.2 0, 9, .inl (F 6))), (u 7, .inl (G.2 0, 12, .inl (F 7))), (u 8, .inl (G.2 0, 12, .inl (F 8))), (u 9, .inl (G.2 0, 10, .inl (upd (F 9) 1 (nI (N 1 + 1)))))] : va_W) ++ w) := hD
                  have hRn : sLR (nTake N T (nI jp) (nI jt)).1 (nTake N T (nI jp) (nI jt)).2 zE_15 (va_up (va_up F 5 (upd (F 5) jt ((F 5 jt) ||| ((1 : Int32) <<< ((nI jp) &&& 31))))) 9 (upd (F 9) 1 (nI (N 1 + 1)))) := by
                    rw [nTake_y (show sComes T (nI jp) (nI jt).toNatClampNeg = true from by rw [hcj]; exact hcm)]
                    exact sLR_off (p := nI jp) (x := nI jt) hR (by rw [hcj]; exact hjt2) (fun k hk => by rw [hcj] at hk; exact upd_no hk) hzE_15
                  refine lv_aload_n hx hb dL_valves_923 rfl (lv_at hl 0 rfl) ?_
                  refine lv_iload hx hb dL_valves_924 (lv_at hl 11 rfl) ?_
                  refine lv_iload hx hb dL_valves_926 (lv_at hl 13 rfl) ?_
                  have hkz_928 : sK2 ((sIx (nI jp) 9) && (sIx (nI jt) (N 2))) (((decide (T 10 (nI jt).toNatClampNeg = 0)) && (sMay N T (nI jp))) && (decide ((nI jp) = T 7 (nI jt).toNatClampNeg) || !decide (T 2 (T 7 (nI jt).toNatClampNeg).toNatClampNeg = 0))) = 0 := (sK2_ok (sAnd_y (sIx_y hjp (by omega)) (sIx_y hjt2 (by omega))) (by rw [hcj]; simp [hon, hmz, how]))
                  have hzb_928 : (8 + zmc (sK2 ((sIx (nI jp) 9) && (sIx (nI jt) (N 2))) (((decide (T 10 (nI jt).toNatClampNeg = 0)) && (sMay N T (nI jp))) && (decide ((nI jp) = T 7 (nI jt).toNatClampNeg) || !decide (T 2 (T 7 (nI jt).toNatClampNeg).toNatClampNeg = 0)))) (N 1) ((nTake N T (nI jp) (nI jt)).1 1)) ≤ 136 ∧ (200 + zms (sK2 ((sIx (nI jp) 9) && (sIx (nI jt) (N 2))) (((decide (T 10 (nI jt).toNatClampNeg = 0)) && (sMay N T (nI jp))) && (decide ((nI jp) = T 7 (nI jt).toNatClampNeg) || !decide (T 2 (T 7 (nI jt).toNatClampNeg).toNatClampNeg = 0)))) (N 1) ((nTake N T (nI jp) (nI jt)).1 1)) ≤ 744 := zmc_b8 (show (nTake N T (nI jp) (nI jt)).1 1 ≤ 128 by have := nTake_1 (N := N) (T := T) (p := nI jp) (t := nI jt); omega)
                  refine z_xR (G := G) (w := w) (c2 := 176) (s2 := 1144) (vx_runSX (hh := [(0, 7, 10, 14), (0, 7, 16, 18)]) (As := [.ref (r 0), .int (nI jp), .int (nI jt)]) (rest := []) ⟨hx, hb, hml, hown, hts⟩ (h_takeOff l hst G d r A mc g N T w K (nI jp) (nI jt) Hz.size hC hJ.1.1 (by omega) ) (vx_cwSW 3 hts gL_valves_L_takeOff rfl rfl rfl (by decide +kernel) ⟨Nat.le_of_ble_eq_true rfl, Nat.le_of_ble_eq_true rfl⟩) (z_hs hK (z_apR hP) (z_dR hD) hZ hLx hS hA) rfl rfl hl.1 rfl (lv_room (Nat.le_of_ble_eq_true rfl)) dL_valves_928 ⟨(show 40 + (8 + zmc (sK2 ((sIx (nI jp) 9) && (sIx (nI jt) (N 2))) (((decide (T 10 (nI jt).toNatClampNeg = 0)) && (sMay N T (nI jp))) && (decide ((nI jp) = T 7 (nI jt).toNatClampNeg) || !decide (T 2 (T 7 (nI jt).toNatClampNeg).toNatClampNeg = 0)))) (N 1) ((nTake N T (nI jp) (nI jt)).1 1)) ≤ 400 by omega), (show 400 + (200 + zms (sK2 ((sIx (nI jp) 9) && (sIx (nI jt) (N 2))) (((decide (T 10 (nI jt).toNatClampNeg = 0)) && (sMay N T (nI jp))) && (decide ((nI jp) = T 7 (nI jt).toNatClampNeg) || !decide (T 2 (T 7 (nI jt).toNatClampNeg).toNatClampNeg = 0)))) (N 1) ((nTake N T (nI jp) (nI jt)).1 1)) ≤ 2400 by omega)⟩) hP hD hS hA (show 40 + (8 + zmc (sK2 ((sIx (nI jp) 9) && (sIx (nI jt) (N 2))) (((decide (T 10 (nI jt).toNatClampNeg = 0)) && (sMay N T (nI jp))) && (decide ((nI jp) = T 7 (nI jt).toNatClampNeg) || !decide (T 2 (T 7 (nI jt).toNatClampNeg).toNatClampNeg = 0)))) (N 1) ((nTake N T (nI jp) (nI jt)).1 1)) ≤ 176 by omega) (show 400 + (200 + zms (sK2 ((sIx (nI jp) 9) && (sIx (nI jt) (N 2))) (((decide (T 10 (nI jt).toNatClampNeg = 0)) && (sMay N T (nI jp))) && (decide ((nI jp) = T 7 (nI jt).toNatClampNeg) || !decide (T 2 (T 7 (nI jt).toNatClampNeg).toNatClampNeg = 0)))) (N 1) ((nTake N T (nI jp) (nI jt)).1 1)) ≤ 1144 by omega) (fun rz_16 zw_16 Hz Lz hq hP hD hS => ?_)
                  obtain ⟨hr9, A, mc, g, hC⟩ := hq.1 hkz_928
                  rw [hr9]
                  refine W.eq (g2 := F0 m 931 ls [.int 1]) (by first | (rw [show sComes T (nI jp) (nI jt).toNatClampNeg = true from by rw [hcj]; exact hcm]; done) | (rw [show sComes T (nI jp) (nI jt).toNatClampNeg = true from by rw [hcj]; exact hcm]; rfl)) ?_
                  refine lv_iconst (v := 1) hx hb dL_valves_931 (by decide) ?_
                  refine lv_icmp_ne (tgt := 939) hx hb dL_valves_932 (by decide) (fun zc_17 => absurd zc_17 (by decide)) (fun _ => ?_)
                  refine lv_iconst (v := 1) hx hb dL_valves_935 (by decide) ?_
                  refine lv_goto (tgt := 940) hx hb dL_valves_936 (by decide) ?_
                  exact z_widen (k := 400) (n := 2400) (show 176 ≤ 400 by omega) (show 1144 ≤ 2400 by omega) (W.zret (v := 1) hx hb hr rfl (fun t ht hW => ⟨⟨1, (([(u 0, .inl (G.2 1, 64, .inr (.inl zE_15))), (u 1, .inl (G.2 0, 8, .inl (F 1))), (u 2, .inl (G.2 0, 3, .inl (F 2))), (u 3, .inl (G.2 0, 3, .inl (F 3))), (u 4, .inl (G.2 0, 40, .inl (F 4))), (u 5, .inl (G.2 0, 40, .inl (upd (F 5) jt (((F 5) jt) ||| ((1 : Int32) <<< ((nI jp) &&& 31)))))), (u 6, .inl (G.2 0, 9, .inl (F 6))), (u 7, .inl (G.2 0, 12, .inl (F 7))), (u 8, .inl (G.2 0, 12, .inl (F 8))), (u 9, .inl (G.2 0, 10, .inl (upd (F 9) 1 (nI (N 1 + 1)))))] : va_W) ++ zw_16), rfl, ⟨rfl, ((nTake N T (nI jp) (nI jt)).1), ((nTake N T (nI jp) (nI jt)).2), zE_15, (va_up (va_up F 5 (upd (F 5) jt ((F 5 jt) ||| ((1 : Int32) <<< ((nI jp) &&& 31))))) 9 (upd (F 9) 1 (nI (N 1 + 1)))), zw_16, rfl, ⟨A, mc, g, hC⟩, hRn, ((sLJ_take hJ hh9.1 hkz_928).mono (by omega))⟩, ⟨by rw [ht]; exact hP, hD⟩⟩, hS.F ht⟩) hS.2.2 dL_valves_940 hlocks)
                · skip
                  exact absurd how zc_14
              · skip
                have zd_13 := Int32.not_le.mp zc_13
                have hlt9 : i < 9 := Nat.lt_of_not_le (fun z => zc_13 ((nI_leI (a := 9) (b := i) (by omega) (by omega)).mpr z))
                refine lv_iload hx hb dL_valves_860 (lv_at hl 15 rfl) ?_
                refine lv_aload hx hb dL_valves_862 (lv_at hl 8 rfl) ?_
                refine lv_iload hx hb dL_valves_864 (lv_at hl 13 rfl) ?_
                refine va_iald hx hb hK (z_apL hP) 5 0 rfl rfl (vp_in_nI (by omega) (by omega)) dL_valves_866 ?_
                refine W.eq (g2 := F0 m 867 ls [.int ((if T 9 jt = -1 then 0 else (1 : Int32) <<< (T 9 jt &&& 31)) ||| ((1 : Int32) <<< ((nI jp) &&& 31))), .int (zAsk ((if T 9 jt = -1 then 0 else (1 : Int32) <<< (T 9 jt &&& 31)) ||| ((1 : Int32) <<< ((nI jp) &&& 31))) i)]) (by first | (rw [nI_clamp (by omega), upd_at, hf5]; done) | (rw [nI_clamp (by omega), upd_at, hf5]; rfl)) ?_
                refine lv_iload hx hb dL_valves_867 (lv_at hl 16 rfl) ?_
                refine lv_ishr hx hb dL_valves_869 ?_
                refine lv_iconst (v := 1) hx hb dL_valves_870 (by decide) ?_
                refine lv_iand hx hb dL_valves_871 ?_
                refine lv_iadd hx hb dL_valves_872 ?_
                refine lv_istore (lv' := [(15, .int ((zAsk ((if T 9 jt = -1 then 0 else (1 : Int32) <<< (T 9 jt &&& 31)) ||| ((1 : Int32) <<< ((nI jp) &&& 31))) i) + ((((if T 9 jt = -1 then 0 else (1 : Int32) <<< (T 9 jt &&& 31)) ||| ((1 : Int32) <<< ((nI jp) &&& 31))) >>> ((nI i) &&& 31)) &&& 1))), (0, .ref (r 0)), (1, .int act), (2, .int x), (3, .int y), (4, .ref (u 0)), (5, .ref (u 1)), (6, .ref (u 3)), (7, .ref (u 4)), (8, .ref (u 5)), (9, .ref (u 6)), (10, .ref (u 9)), (11, .int (nI jp)), (12, .int (nI jv)), (13, .int (nI jt)), (14, .int (T 7 jt)), (16, .int (nI i))]) hx hb dL_valves_873 hl (by decide) rfl (fun ls hl => ?_)
                refine lv_iinc (v := (nI (i + 1))) (lv' := [(16, .int (nI (i + 1))), (15, .int ((zAsk ((if T 9 jt = -1 then 0 else (1 : Int32) <<< (T 9 jt &&& 31)) ||| ((1 : Int32) <<< ((nI jp) &&& 31))) i) + ((((if T 9 jt = -1 then 0 else (1 : Int32) <<< (T 9 jt &&& 31)) ||| ((1 : Int32) <<< ((nI jp) &&& 31))) >>> ((nI i) &&& 31)) &&& 1))), (0, .ref (r 0)), (1, .int act), (2, .int x), (3, .int y), (4, .ref (u 0)), (5, .ref (u 1)), (6, .ref (u 3)), (7, .ref (u 4)), (8, .ref (u 5)), (9, .ref (u 6)), (10, .ref (u 9)), (11, .int (nI jp)), (12, .int (nI jv)), (13, .int (nI jt)), (14, .int (T 7 jt))]) hx hb dL_valves_875 hl (k := 16) rfl (by first | exact nI_1 _ | rfl) (by decide) rfl (fun ls hl => ?_)
                refine lv_goto (tgt := 853) hx hb dL_valves_878 (by decide) ?_
                have hl2 := lv_sub (l' := [(0, .ref (r 0)), (1, .int act), (2, .int x), (3, .int y), (4, .ref (u 0)), (5, .ref (u 1)), (6, .ref (u 3)), (7, .ref (u 4)), (8, .ref (u 5)), (9, .ref (u 6)), (10, .ref (u 9)), (11, .int (nI jp)), (12, .int (nI jv)), (13, .int (nI jt)), (14, .int (T 7 jt)), (15, .int ((zAsk ((if T 9 jt = -1 then 0 else (1 : Int32) <<< (T 9 jt &&& 31)) ||| ((1 : Int32) <<< ((nI jp) &&& 31))) i) + ((((if T 9 jt = -1 then 0 else (1 : Int32) <<< (T 9 jt &&& 31)) ||| ((1 : Int32) <<< ((nI jp) &&& 31))) >>> ((nI i) &&& 31)) &&& 1))), (16, .int (nI (i + 1)))]) hl [2, 3, 4, 5, 6, 7, 8, 9, 10, 11, 12, 13, 14, 15, 16, 1, 0] rfl
                have e_15 : (zAsk ((if T 9 jt = -1 then 0 else (1 : Int32) <<< (T 9 jt &&& 31)) ||| ((1 : Int32) <<< ((nI jp) &&& 31))) i) + ((((if T 9 jt = -1 then 0 else (1 : Int32) <<< (T 9 jt &&& 31)) ||| ((1 : Int32) <<< ((nI jp) &&& 31))) >>> ((nI i) &&& 31)) &&& 1) = zAsk ((if T 9 jt = -1 then 0 else (1 : Int32) <<< (T 9 jt &&& 31)) ||| ((1 : Int32) <<< ((nI jp) &&& 31))) (i + 1) := by rfl
                have hl2 : lv_has ls 17 [(0, .ref (r 0)), (1, .int act), (2, .int x), (3, .int y), (4, .ref (u 0)), (5, .ref (u 1)), (6, .ref (u 3)), (7, .ref (u 4)), (8, .ref (u 5)), (9, .ref (u 6)), (10, .ref (u 9)), (11, .int (nI jp)), (12, .int (nI jv)), (13, .int (nI jt)), (14, .int (T 7 jt)), (15, .int (zAsk ((if T 9 jt = -1 then 0 else (1 : Int32) <<< (T 9 jt &&& 31)) ||| ((1 : Int32) <<< ((nI jp) &&& 31))) (i + 1))), (16, .int (nI (i + 1)))] := by rw [← e_15]; exact hl2
                exact z_widen (show 40 ≤ 40 by omega) (show 400 ≤ 400 by omega) (ih (i + 1) (by omega) (by omega)   _ _ hP hD hS ls hl2)
          exact z_widen (show 18 ≤ 40 by omega) (show 260 ≤ 400 by omega) (key_853 (9 + 1) 0 (Nat.zero_le _) (by omega)   _ _ hP hD hS ls (lv_sub hl [3, 4, 5, 6, 7, 8, 9, 10, 11, 12, 13, 14, 15, 16, 2, 1, 0] rfl))
        · skip
          have hno := zc_12
          refine lv_aload hx hb dL_valves_803 (lv_at hl 5 rfl) ?_
          refine lv_aload hx hb dL_valves_805 (lv_at hl 11 rfl) ?_
          refine lv_iload hx hb dL_valves_807 (lv_at hl 0 rfl) ?_
          refine z_csi (va_Run.run (va_runS (As := [.ref (u 0), .ref (u 9), .int (T 7 jt)]) (rest := []) ⟨hx, hb, hml, hown, hts⟩ (c_L_hasLeft l G u E F N T (T 7 jt) hQ (hiT jt hjt2).1) (va_cwS 3 hts gL_valves_L_hasLeft rfl rfl rfl (by decide +kernel) ⟨Nat.le_of_ble_eq_true rfl, Nat.le_of_ble_eq_true rfl⟩) (z_ps hK (z_apL hP)) rfl rfl hl.1 rfl (lv_room (Nat.le_of_ble_eq_true rfl)) dL_valves_809 ⟨(show 18 + 0 ≤ 400 by omega), (show 260 + 0 ≤ 2400 by omega)⟩)) (fun zr_18 hzr_18 => ?_)
          subst hzr_18
          refine lv_if_ne (tgt := 835) hx hb dL_valves_812 (by decide) (fun zc_19 => ?_) (fun zc_19 => ?_)
          · skip
            have hlf := zc_19
            refine lv_iconst (v := 0) hx hb dL_valves_835 (by decide) ?_
            refine lv_istore (lv' := [(15, .int 0), (14, .int (T 7 jt)), (0, .ref (r 0)), (1, .int act), (2, .int x), (3, .int y), (4, .ref (u 0)), (5, .ref (u 1)), (6, .ref (u 3)), (7, .ref (u 4)), (8, .ref (u 5)), (9, .ref (u 6)), (10, .ref (u 9)), (11, .int (nI jp)), (12, .int (nI jv)), (13, .int (nI jt))]) hx hb dL_valves_836 hl (by decide) rfl (fun ls hl => ?_)
            refine lv_aload hx hb dL_valves_838 (lv_at hl 10 rfl) ?_
            refine lv_iload hx hb dL_valves_840 (lv_at hl 15 rfl) ?_
            refine lv_dup2_11 hx hb dL_valves_842 rfl rfl ?_
            refine va_iald hx hb hK (z_apL hP) 5 0 rfl rfl (vp_in_nI (by omega) (by omega)) dL_valves_843 ?_
            rw [nI_clamp (by omega)]
            refine lv_iconst (v := 1) hx hb dL_valves_844 (by decide) ?_
            refine lv_iload hx hb dL_valves_845 (lv_at hl 13 rfl) ?_
            refine lv_ishl hx hb dL_valves_847 ?_
            refine lv_ior hx hb dL_valves_848 ?_
            refine va_iast hx hb hK hP hD hS 5 0 rfl rfl (vp_in_nI (by omega) (by omega)) dL_valves_849 (fun Hz Lz hP hD hS => ?_)
            rw [nI_clamp (by omega)] at hP hD
            have hP : va_P G.1 vwCl (([(u 0, .inl (G.2 1, 64, .inr (.inl E))), (u 1, .inl (G.2 0, 8, .inl (F 1))), (u 2, .inl (G.2 0, 3, .inl (F 2))), (u 3, .inl (G.2 0, 3, .inl (F 3))), (u 4, .inl (G.2 0, 40, .inl (F 4))), (u 5, .inl (G.2 0, 40, .inl (upd (F 5) jt (((F 5) jt) ||| ((1 : Int32) <<< ((nI jp) &&& 31)))))), (u 6, .inl (G.2 0, 9, .inl (F 6))), (u 7, .inl (G.2 0, 12, .inl (F 7))), (u 8, .inl (G.2 0, 12, .inl (F 8))), (u 9, .inl (G.2 0, 10, .inl (F 9)))] : va_W) ++ w) Hz := hP
            have hD : va_D Aw (([(u 0, .inl (G.2 1, 64, .inr (.inl E))), (u 1, .inl (G.2 0, 8, .inl (F 1))), (u 2, .inl (G.2 0, 3, .inl (F 2))), (u 3, .inl (G.2 0, 3, .inl (F 3))), (u 4, .inl (G.2 0, 40, .inl (F 4))), (u 5, .inl (G.2 0, 40, .inl (upd (F 5) jt (((F 5) jt) ||| ((1 : Int32) <<< ((nI jp) &&& 31)))))), (u 6, .inl (G.2 0, 9, .inl (F 6))), (u 7, .inl (G.2 0, 12, .inl (F 7))), (u 8, .inl (G.2 0, 12, .inl (F 8))), (u 9, .inl (G.2 0, 10, .inl (F 9)))] : va_W) ++ w) := hD
            refine lv_iconst (v := 0) hx hb dL_valves_850 (by decide) ?_
            refine lv_istore (lv' := [(16, .int 0), (15, .int 0), (14, .int (T 7 jt)), (0, .ref (r 0)), (1, .int act), (2, .int x), (3, .int y), (4, .ref (u 0)), (5, .ref (u 1)), (6, .ref (u 3)), (7, .ref (u 4)), (8, .ref (u 5)), (9, .ref (u 6)), (10, .ref (u 9)), (11, .int (nI jp)), (12, .int (nI jv)), (13, .int (nI jt))]) hx hb dL_valves_851 hl (by decide) rfl (fun ls hl => ?_)
            have key_853 : ∀ (n i : Nat), i ≤ 9 → 9 < i + n → ∀ (Hz : Heap) (Lz : List Loc), va_P G.1 vwCl (([(u 0, .inl (G.2 1, 64, .inr (.inl E))), (u 1, .inl (G.2 0, 8, .inl (F 1))), (u 2, .inl (G.2 0, 3, .inl (F 2))), (u 3, .inl (G.2 0, 3, .inl (F 3))), (u 4, .inl (G.2 0, 40, .inl (F 4))), (u 5, .inl (G.2 0, 40, .inl (upd (F 5) jt (((F 5) jt) ||| ((1 : Int32) <<< ((nI jp) &&& 31)))))), (u 6, .inl (G.2 0, 9, .inl (F 6))), (u 7, .inl (G.2 0, 12, .inl (F 7))), (u 8, .inl (G.2 0, 12, .inl (F 8))), (u 9, .inl (G.2 0, 10, .inl (F 9)))] : va_W) ++ w) Hz → va_D Aw (([(u 0, .inl (G.2 1, 64, .inr (.inl E))), (u 1, .inl (G.2 0, 8, .inl (F 1))), (u 2, .inl (G.2 0, 3, .inl (F 2))), (u 3, .inl (G.2 0, 3, .inl (F 3))), (u 4, .inl (G.2 0, 40, .inl (F 4))), (u 5, .inl (G.2 0, 40, .inl (upd (F 5) jt (((F 5) jt) ||| ((1 : Int32) <<< ((nI jp) &&& 31)))))), (u 6, .inl (G.2 0, 9, .inl (F 6))), (u 7, .inl (G.2 0, 12, .inl (F 7))), (u 8, .inl (G.2 0, 12, .inl (F 8))), (u 9, .inl (G.2 0, 10, .inl (F 9)))] : va_W) ++ w) → va_S Aw s.heap Hz Lz → ∀ ls : Array Slot, lv_has ls 17 [(0, .ref (r 0)), (1, .int act), (2, .int x), (3, .int y), (4, .ref (u 0)), (5, .ref (u 1)), (6, .ref (u 3)), (7, .ref (u 4)), (8, .ref (u 5)), (9, .ref (u 6)), (10, .ref (u 9)), (11, .int (nI jp)), (12, .int (nI jv)), (13, .int (nI jt)), (14, .int (T 7 jt)), (15, .int (zAsk ((if T 9 jt = -1 then 0 else (1 : Int32) <<< (T 9 jt &&& 31)) ||| ((1 : Int32) <<< ((nI jp) &&& 31))) i)), (16, .int (nI i))] → W p l e (headSpec wsL_valves ({ frames := 9, cells := 400, slots := 2400, locals := 223 })).room s m ([.ref (r 0), .int act, .int x, .int y, .ref (u 0), .ref (u 1), .ref (u 3), .ref (u 4), .ref (u 5), .ref (u 6), .ref (u 9)] : List Value).toArray below meth c Hz Lz (40) (400) (MQ below (va_Qi (fun (r1 : Int32) (wz : va_W) => r1 = 1 ∧ ∃ (N2 : Nat → Nat) (T2 : Nat → Nat → Int32) (E2 : Nat → Int64) (F2 : Nat → Nat → Int32) (w2 : va_W), wz = LW G u E2 F2 ++ w2 ∧ sCO G d r N2 T2 w2 ∧ sLR N2 T2 E2 F2 ∧ sLJ N2 T2 (K + 2)) (zB G Aw) Aw) ([.ref (r 0), .int act, .int x, .int y, .ref (u 0), .ref (u 1), .ref (u 3), .ref (u 4), .ref (u 5), .ref (u 6), .ref (u 9)] : List Value).toArray s 400 2400 Aw) (F0 m 853 ls []) := by
              intro n
              induction n with
              | zero => intro i hi_a hi_b; exact absurd hi_b (by omega)
              | succ n ih =>
                intro i hil hin    Hz Lz hP hD hS ls hl
                refine lv_iload hx hb dL_valves_853 (lv_at hl 16 rfl) ?_
                refine lv_bipush (v := 9) hx hb dL_valves_855 (by decide) ?_
                refine lv_icmp_ge (tgt := 881) hx hb dL_valves_857 (by decide) (fun zc_20 => ?_) (fun zc_20 => ?_)
                · skip
                  have zd_20 := Int32.not_lt.mpr zc_20
                  have zhc : 9 ≤ i := (nI_leI (a := 9) (b := i) (by omega) (by omega)).mp zc_20
                  have zie : 9 = i := Nat.le_antisymm zhc hil
                  subst zie
                  refine lv_iload hx hb dL_valves_881 (lv_at hl 14 rfl) ?_
                  refine lv_iload hx hb dL_valves_883 (lv_at hl 11 rfl) ?_
                  refine lv_icmp_eq (tgt := 911) hx hb dL_valves_885 (by decide) (fun zc_21 => ?_) (fun zc_21 => ?_)
                  · skip
                    exact absurd zc_21 hno
                  · skip
                    refine lv_iload hx hb dL_valves_888 (lv_at hl 15 rfl) ?_
                    refine lv_iconst (v := 2) hx hb dL_valves_890 (by decide) ?_
                    refine lv_icmp_ge (tgt := 911) hx hb dL_valves_891 (by decide) (fun zc_22 => ?_) (fun zc_22 => ?_)
                    · skip
                      have zd_22 := Int32.not_lt.mpr zc_22
                      have hge2 := zc_22
                      have h9 : ¬ (T 9 jt = -1 ∨ T 9 jt = nI jp) := (zAsk_2 (hiT jt hjt2).2.2 (vp_in_nI hjp (by omega))).mp hge2
                      have hcm : sComes T (nI jp) jt = true := by
                        have ha : ¬ T 9 jt = -1 := fun z => h9 (Or.inl z)
                        have hb9 : ¬ T 9 jt = nI jp := fun z => h9 (Or.inr z)
                        simp [sComes, ha, hb9]
                      refine lv_aload hx hb dL_valves_911 (lv_at hl 4 rfl) ?_
                      refine lv_aload hx hb dL_valves_913 (lv_at hl 10 rfl) ?_
                      refine lv_iconst (v := 2) hx hb dL_valves_915 (by decide) ?_
                      refine lv_iload hx hb dL_valves_916 (lv_at hl 11 rfl) ?_
                      refine lv_iload hx hb dL_valves_918 (lv_at hl 13 rfl) ?_
                      refine z_lv (G := G) (w := (LW G u E (va_up F 5 (upd (F 5) jt (((F 5) jt) ||| ((1 : Int32) <<< ((nI jp) &&& 31))))))) (wr := w) (va_runS (As := [.ref (u 0), .ref (u 9), .int 2, .int (nI jp), .int (nI jt)]) (rest := []) ⟨hx, hb, hml, hown, hts⟩ (c_L_note l G u E (va_up F 5 (upd (F 5) jt (((F 5) jt) ||| ((1 : Int32) <<< ((nI jp) &&& 31))))) (T 0) (N 1) (N 0) 2 (nI jp) (nI jt) Hz.size hR.1 (by omega) hg0 hg1 hi0 ⟨2, by decide, rfl⟩ ⟨jp + 1, by omega, nI_1 jp⟩ ⟨jt, by omega, rfl⟩) (va_cwS 5 hts gL_valves_L_note rfl rfl rfl (by decide +kernel) ⟨Nat.le_of_ble_eq_true rfl, Nat.le_of_ble_eq_true rfl⟩) (z_us hK (z_apL hP) (z_dL hD)) rfl rfl hl.1 rfl (lv_room (Nat.le_of_ble_eq_true rfl)) dL_valves_920 ⟨(show 40 + 0 ≤ 400 by omega), (show 400 + 0 ≤ 2400 by omega)⟩) hP hD hS hA (fun w1 Hz Lz hw hP hD hS => ?_)
                      obtain ⟨zE_23, rfl, hzE_23⟩ := hw
                      have hP : va_P G.1 vwCl (([(u 0, .inl (G.2 1, 64, .inr (.inl zE_23))), (u 1, .inl (G.2 0, 8, .inl (F 1))), (u 2, .inl (G.2 0, 3, .inl (F 2))), (u 3, .inl (G.2 0, 3, .inl (F 3))), (u 4, .inl (G.2 0, 40, .inl (F 4))), (u 5, .inl (G.2 0, 40, .inl (upd (F 5) jt (((F 5) jt) ||| ((1 : Int32) <<< ((nI jp) &&& 31)))))), (u 6, .inl (G.2 0, 9, .inl (F 6))), (u 7, .inl (G.2 0, 12, .inl (F 7))), (u 8, .inl (G.2 0, 12, .inl (F 8))), (u 9, .inl (G.2 0, 10, .inl (upd (F 9) 1 (nI (N 1 + 1)))))] : va_W) ++ w) Hz := hP
                      have hD : va_D Aw (([(u 0, .inl (G.2 1, 64, .inr (.inl zE_23))), (u 1, .inl (G.2 0, 8, .inl (F 1))), (u 2, .inl (G.2 0, 3, .inl (F 2))), (u 3, .inl (G.2 0, 3, .inl (F 3))), (u 4, .inl (G.2 0, 40, .inl (F 4))), (u 5, .inl (G.2 0, 40, .inl (upd (F 5) jt (((F 5) jt) ||| ((1 : Int32) <<< ((nI jp) &&& 31)))))), (u 6, .inl (G.2 0, 9, .inl (F 6))), (u 7, .inl (G.2 0, 12, .inl (F 7))), (u 8, .inl (G.2 0, 12, .inl (F 8))), (u 9, .inl (G.2 0, 10, .inl (upd (F 9) 1 (nI (N 1 + 1)))))] : va_W) ++ w) := hD
                      have hRn : sLR (nTake N T (nI jp) (nI jt)).1 (nTake N T (nI jp) (nI jt)).2 zE_23 (va_up (va_up F 5 (upd (F 5) jt ((F 5 jt) ||| ((1 : Int32) <<< ((nI jp) &&& 31))))) 9 (upd (F 9) 1 (nI (N 1 + 1)))) := by
                        rw [nTake_y (show sComes T (nI jp) (nI jt).toNatClampNeg = true from by rw [hcj]; exact hcm)]
                        exact sLR_off (p := nI jp) (x := nI jt) hR (by rw [hcj]; exact hjt2) (fun k hk => by rw [hcj] at hk; exact upd_no hk) hzE_23
                      refine lv_aload_n hx hb dL_valves_923 rfl (lv_at hl 0 rfl) ?_
                      refine lv_iload hx hb dL_valves_924 (lv_at hl 11 rfl) ?_
                      refine lv_iload hx hb dL_valves_926 (lv_at hl 13 rfl) ?_
                      have hkz_928 : sK2 ((sIx (nI jp) 9) && (sIx (nI jt) (N 2))) (((decide (T 10 (nI jt).toNatClampNeg = 0)) && (sMay N T (nI jp))) && (decide ((nI jp) = T 7 (nI jt).toNatClampNeg) || !decide (T 2 (T 7 (nI jt).toNatClampNeg).toNatClampNeg = 0))) = 0 := (sK2_ok (sAnd_y (sIx_y hjp (by omega)) (sIx_y hjt2 (by omega))) (by rw [hcj]; simp [hon, hmz, hlf]))
                      have hzb_928 : (8 + zmc (sK2 ((sIx (nI jp) 9) && (sIx (nI jt) (N 2))) (((decide (T 10 (nI jt).toNatClampNeg = 0)) && (sMay N T (nI jp))) && (decide ((nI jp) = T 7 (nI jt).toNatClampNeg) || !decide (T 2 (T 7 (nI jt).toNatClampNeg).toNatClampNeg = 0)))) (N 1) ((nTake N T (nI jp) (nI jt)).1 1)) ≤ 136 ∧ (200 + zms (sK2 ((sIx (nI jp) 9) && (sIx (nI jt) (N 2))) (((decide (T 10 (nI jt).toNatClampNeg = 0)) && (sMay N T (nI jp))) && (decide ((nI jp) = T 7 (nI jt).toNatClampNeg) || !decide (T 2 (T 7 (nI jt).toNatClampNeg).toNatClampNeg = 0)))) (N 1) ((nTake N T (nI jp) (nI jt)).1 1)) ≤ 744 := zmc_b8 (show (nTake N T (nI jp) (nI jt)).1 1 ≤ 128 by have := nTake_1 (N := N) (T := T) (p := nI jp) (t := nI jt); omega)
                      refine z_xR (G := G) (w := w) (c2 := 176) (s2 := 1144) (vx_runSX (hh := [(0, 7, 10, 14), (0, 7, 16, 18)]) (As := [.ref (r 0), .int (nI jp), .int (nI jt)]) (rest := []) ⟨hx, hb, hml, hown, hts⟩ (h_takeOff l hst G d r A mc g N T w K (nI jp) (nI jt) Hz.size hC hJ.1.1 (by omega) ) (vx_cwSW 3 hts gL_valves_L_takeOff rfl rfl rfl (by decide +kernel) ⟨Nat.le_of_ble_eq_true rfl, Nat.le_of_ble_eq_true rfl⟩) (z_hs hK (z_apR hP) (z_dR hD) hZ hLx hS hA) rfl rfl hl.1 rfl (lv_room (Nat.le_of_ble_eq_true rfl)) dL_valves_928 ⟨(show 40 + (8 + zmc (sK2 ((sIx (nI jp) 9) && (sIx (nI jt) (N 2))) (((decide (T 10 (nI jt).toNatClampNeg = 0)) && (sMay N T (nI jp))) && (decide ((nI jp) = T 7 (nI jt).toNatClampNeg) || !decide (T 2 (T 7 (nI jt).toNatClampNeg).toNatClampNeg = 0)))) (N 1) ((nTake N T (nI jp) (nI jt)).1 1)) ≤ 400 by omega), (show 400 + (200 + zms (sK2 ((sIx (nI jp) 9) && (sIx (nI jt) (N 2))) (((decide (T 10 (nI jt).toNatClampNeg = 0)) && (sMay N T (nI jp))) && (decide ((nI jp) = T 7 (nI jt).toNatClampNeg) || !decide (T 2 (T 7 (nI jt).toNatClampNeg).toNatClampNeg = 0)))) (N 1) ((nTake N T (nI jp) (nI jt)).1 1)) ≤ 2400 by omega)⟩) hP hD hS hA (show 40 + (8 + zmc (sK2 ((sIx (nI jp) 9) && (sIx (nI jt) (N 2))) (((decide (T 10 (nI jt).toNatClampNeg = 0)) && (sMay N T (nI jp))) && (decide ((nI jp) = T 7 (nI jt).toNatClampNeg) || !decide (T 2 (T 7 (nI jt).toNatClampNeg).toNatClampNeg = 0)))) (N 1) ((nTake N T (nI jp) (nI jt)).1 1)) ≤ 176 by omega) (show 400 + (200 + zms (sK2 ((sIx (nI jp) 9) && (sIx (nI jt) (N 2))) (((decide (T 10 (nI jt).toNatClampNeg = 0)) && (sMay N T (nI jp))) && (decide ((nI jp) = T 7 (nI jt).toNatClampNeg) || !decide (T 2 (T 7 (nI jt).toNatClampNeg).toNatClampNeg = 0)))) (N 1) ((nTake N T (nI jp) (nI jt)).1 1)) ≤ 1144 by omega) (fun rz_24 zw_24 Hz Lz hq hP hD hS => ?_)
                      obtain ⟨hr9, A, mc, g, hC⟩ := hq.1 hkz_928
                      rw [hr9]
                      refine W.eq (g2 := F0 m 931 ls [.int 1]) (by first | (rw [show sComes T (nI jp) (nI jt).toNatClampNeg = true from by rw [hcj]; exact hcm]; done) | (rw [show sComes T (nI jp) (nI jt).toNatClampNeg = true from by rw [hcj]; exact hcm]; rfl)) ?_
                      refine lv_iconst (v := 1) hx hb dL_valves_931 (by decide) ?_
                      refine lv_icmp_ne (tgt := 939) hx hb dL_valves_932 (by decide) (fun zc_25 => absurd zc_25 (by decide)) (fun _ => ?_)
                      refine lv_iconst (v := 1) hx hb dL_valves_935 (by decide) ?_
                      refine lv_goto (tgt := 940) hx hb dL_valves_936 (by decide) ?_
                      exact z_widen (k := 400) (n := 2400) (show 176 ≤ 400 by omega) (show 1144 ≤ 2400 by omega) (W.zret (v := 1) hx hb hr rfl (fun t ht hW => ⟨⟨1, (([(u 0, .inl (G.2 1, 64, .inr (.inl zE_23))), (u 1, .inl (G.2 0, 8, .inl (F 1))), (u 2, .inl (G.2 0, 3, .inl (F 2))), (u 3, .inl (G.2 0, 3, .inl (F 3))), (u 4, .inl (G.2 0, 40, .inl (F 4))), (u 5, .inl (G.2 0, 40, .inl (upd (F 5) jt (((F 5) jt) ||| ((1 : Int32) <<< ((nI jp) &&& 31)))))), (u 6, .inl (G.2 0, 9, .inl (F 6))), (u 7, .inl (G.2 0, 12, .inl (F 7))), (u 8, .inl (G.2 0, 12, .inl (F 8))), (u 9, .inl (G.2 0, 10, .inl (upd (F 9) 1 (nI (N 1 + 1)))))] : va_W) ++ zw_24), rfl, ⟨rfl, ((nTake N T (nI jp) (nI jt)).1), ((nTake N T (nI jp) (nI jt)).2), zE_23, (va_up (va_up F 5 (upd (F 5) jt ((F 5 jt) ||| ((1 : Int32) <<< ((nI jp) &&& 31))))) 9 (upd (F 9) 1 (nI (N 1 + 1)))), zw_24, rfl, ⟨A, mc, g, hC⟩, hRn, ((sLJ_take hJ hh9.1 hkz_928).mono (by omega))⟩, ⟨by rw [ht]; exact hP, hD⟩⟩, hS.F ht⟩) hS.2.2 dL_valves_940 hlocks)
                    · skip
                      have zd_22 := Int32.not_le.mp zc_22
                      have hlt2 := zc_22
                      have hcm : sComes T (nI jp) jt = false := by
                        have h9 : T 9 jt = -1 ∨ T 9 jt = nI jp := Decidable.byContradiction (fun z => hlt2 ((zAsk_2 (hiT jt hjt2).2.2 (vp_in_nI hjp (by omega))).mpr z))
                        rw [sComes, decide_eq_false (fun z => hno z.symm)]
                        rcases h9 with h9 | h9 <;> simp [h9]
                      have h9z : T 9 jt = -1 ∨ T 9 jt = nI jp := Decidable.byContradiction (fun z => hlt2 ((zAsk_2 (hiT jt hjt2).2.2 (vp_in_nI hjp (by omega))).mpr z))
                      have hRn : sLR (nTake N T (nI jp) (nI jt)).1 (nTake N T (nI jp) (nI jt)).2 E (va_up F 5 (upd (F 5) jt ((F 5 jt) ||| ((1 : Int32) <<< ((nI jp) &&& 31))))) := by
                        rw [nTake_n (show sComes T (nI jp) (nI jt).toNatClampNeg = false from by rw [hcj]; exact hcm)]
                        have h9 := sLR_ask (p := nI jp) (x := nI jt) (z := ((F 5 jt) ||| ((1 : Int32) <<< ((nI jp) &&& 31)))) hR (by rw [hcj]; exact hjt2) (by rw [hf5]; exact zAsk_z (zNm1 (by omega)) h9z)
                        rw [hcj] at h9 ⊢
                        exact h9
                      refine lv_aload_n hx hb dL_valves_894 rfl (lv_at hl 0 rfl) ?_
                      refine lv_iload hx hb dL_valves_895 (lv_at hl 11 rfl) ?_
                      refine lv_iload hx hb dL_valves_897 (lv_at hl 13 rfl) ?_
                      have hkz_899 : sK2 ((sIx (nI jp) 9) && (sIx (nI jt) (N 2))) (((decide (T 10 (nI jt).toNatClampNeg = 0)) && (sMay N T (nI jp))) && (decide ((nI jp) = T 7 (nI jt).toNatClampNeg) || !decide (T 2 (T 7 (nI jt).toNatClampNeg).toNatClampNeg = 0))) = 0 := (sK2_ok (sAnd_y (sIx_y hjp (by omega)) (sIx_y hjt2 (by omega))) (by rw [hcj]; simp [hon, hmz, hlf]))
                      have hzb_899 : (8 + zmc (sK2 ((sIx (nI jp) 9) && (sIx (nI jt) (N 2))) (((decide (T 10 (nI jt).toNatClampNeg = 0)) && (sMay N T (nI jp))) && (decide ((nI jp) = T 7 (nI jt).toNatClampNeg) || !decide (T 2 (T 7 (nI jt).toNatClampNeg).toNatClampNeg = 0)))) (N 1) ((nTake N T (nI jp) (nI jt)).1 1)) ≤ 136 ∧ (200 + zms (sK2 ((sIx (nI jp) 9) && (sIx (nI jt) (N 2))) (((decide (T 10 (nI jt).toNatClampNeg = 0)) && (sMay N T (nI jp))) && (decide ((nI jp) = T 7 (nI jt).toNatClampNeg) || !decide (T 2 (T 7 (nI jt).toNatClampNeg).toNatClampNeg = 0)))) (N 1) ((nTake N T (nI jp) (nI jt)).1 1)) ≤ 744 := zmc_b8 (show (nTake N T (nI jp) (nI jt)).1 1 ≤ 128 by have := nTake_1 (N := N) (T := T) (p := nI jp) (t := nI jt); omega)
                      refine z_xR (G := G) (w := w) (c2 := 176) (s2 := 1144) (vx_runSX (hh := [(0, 7, 10, 14), (0, 7, 16, 18)]) (As := [.ref (r 0), .int (nI jp), .int (nI jt)]) (rest := []) ⟨hx, hb, hml, hown, hts⟩ (h_takeOff l hst G d r A mc g N T w K (nI jp) (nI jt) Hz.size hC hJ.1.1 (by omega) ) (vx_cwSW 3 hts gL_valves_L_takeOff rfl rfl rfl (by decide +kernel) ⟨Nat.le_of_ble_eq_true rfl, Nat.le_of_ble_eq_true rfl⟩) (z_hs hK (z_apR hP) (z_dR hD) hZ hLx hS hA) rfl rfl hl.1 rfl (lv_room (Nat.le_of_ble_eq_true rfl)) dL_valves_899 ⟨(show 40 + (8 + zmc (sK2 ((sIx (nI jp) 9) && (sIx (nI jt) (N 2))) (((decide (T 10 (nI jt).toNatClampNeg = 0)) && (sMay N T (nI jp))) && (decide ((nI jp) = T 7 (nI jt).toNatClampNeg) || !decide (T 2 (T 7 (nI jt).toNatClampNeg).toNatClampNeg = 0)))) (N 1) ((nTake N T (nI jp) (nI jt)).1 1)) ≤ 400 by omega), (show 400 + (200 + zms (sK2 ((sIx (nI jp) 9) && (sIx (nI jt) (N 2))) (((decide (T 10 (nI jt).toNatClampNeg = 0)) && (sMay N T (nI jp))) && (decide ((nI jp) = T 7 (nI jt).toNatClampNeg) || !decide (T 2 (T 7 (nI jt).toNatClampNeg).toNatClampNeg = 0)))) (N 1) ((nTake N T (nI jp) (nI jt)).1 1)) ≤ 2400 by omega)⟩) hP hD hS hA (show 40 + (8 + zmc (sK2 ((sIx (nI jp) 9) && (sIx (nI jt) (N 2))) (((decide (T 10 (nI jt).toNatClampNeg = 0)) && (sMay N T (nI jp))) && (decide ((nI jp) = T 7 (nI jt).toNatClampNeg) || !decide (T 2 (T 7 (nI jt).toNatClampNeg).toNatClampNeg = 0)))) (N 1) ((nTake N T (nI jp) (nI jt)).1 1)) ≤ 176 by omega) (show 400 + (200 + zms (sK2 ((sIx (nI jp) 9) && (sIx (nI jt) (N 2))) (((decide (T 10 (nI jt).toNatClampNeg = 0)) && (sMay N T (nI jp))) && (decide ((nI jp) = T 7 (nI jt).toNatClampNeg) || !decide (T 2 (T 7 (nI jt).toNatClampNeg).toNatClampNeg = 0)))) (N 1) ((nTake N T (nI jp) (nI jt)).1 1)) ≤ 1144 by omega) (fun rz_26 zw_26 Hz Lz hq hP hD hS => ?_)
                      obtain ⟨hr9, A, mc, g, hC⟩ := hq.1 hkz_899
                      rw [hr9]
                      refine W.eq (g2 := F0 m 902 ls [.int 0]) (by first | (rw [show sComes T (nI jp) (nI jt).toNatClampNeg = false from by rw [hcj]; exact hcm]; done) | (rw [show sComes T (nI jp) (nI jt).toNatClampNeg = false from by rw [hcj]; exact hcm]; rfl)) ?_
                      refine lv_if_ne (tgt := 909) hx hb dL_valves_902 (by decide) (fun zc_27 => absurd zc_27 (by decide)) (fun _ => ?_)
                      refine lv_iconst (v := 1) hx hb dL_valves_905 (by decide) ?_
                      refine lv_goto (tgt := 910) hx hb dL_valves_906 (by decide) ?_
                      exact z_widen (k := 400) (n := 2400) (show 176 ≤ 400 by omega) (show 1144 ≤ 2400 by omega) (W.zret (v := 1) hx hb hr rfl (fun t ht hW => ⟨⟨1, (([(u 0, .inl (G.2 1, 64, .inr (.inl E))), (u 1, .inl (G.2 0, 8, .inl (F 1))), (u 2, .inl (G.2 0, 3, .inl (F 2))), (u 3, .inl (G.2 0, 3, .inl (F 3))), (u 4, .inl (G.2 0, 40, .inl (F 4))), (u 5, .inl (G.2 0, 40, .inl (upd (F 5) jt (((F 5) jt) ||| ((1 : Int32) <<< ((nI jp) &&& 31)))))), (u 6, .inl (G.2 0, 9, .inl (F 6))), (u 7, .inl (G.2 0, 12, .inl (F 7))), (u 8, .inl (G.2 0, 12, .inl (F 8))), (u 9, .inl (G.2 0, 10, .inl (F 9)))] : va_W) ++ zw_26), rfl, ⟨rfl, ((nTake N T (nI jp) (nI jt)).1), ((nTake N T (nI jp) (nI jt)).2), E, (va_up F 5 (upd (F 5) jt (((F 5) jt) ||| ((1 : Int32) <<< ((nI jp) &&& 31))))), zw_26, rfl, ⟨A, mc, g, hC⟩, hRn, ((sLJ_take hJ hh9.1 hkz_899).mono (by omega))⟩, ⟨by rw [ht]; exact hP, hD⟩⟩, hS.F ht⟩) hS.2.2 dL_valves_910 hlocks)
                · skip
                  have zd_20 := Int32.not_le.mp zc_20
                  have hlt9 : i < 9 := Nat.lt_of_not_le (fun z => zc_20 ((nI_leI (a := 9) (b := i) (by omega) (by omega)).mpr z))
                  refine lv_iload hx hb dL_valves_860 (lv_at hl 15 rfl) ?_
                  refine lv_aload hx hb dL_valves_862 (lv_at hl 8 rfl) ?_
                  refine lv_iload hx hb dL_valves_864 (lv_at hl 13 rfl) ?_
                  refine va_iald hx hb hK (z_apL hP) 5 0 rfl rfl (vp_in_nI (by omega) (by omega)) dL_valves_866 ?_
                  refine W.eq (g2 := F0 m 867 ls [.int ((if T 9 jt = -1 then 0 else (1 : Int32) <<< (T 9 jt &&& 31)) ||| ((1 : Int32) <<< ((nI jp) &&& 31))), .int (zAsk ((if T 9 jt = -1 then 0 else (1 : Int32) <<< (T 9 jt &&& 31)) ||| ((1 : Int32) <<< ((nI jp) &&& 31))) i)]) (by first | (rw [nI_clamp (by omega), upd_at, hf5]; done) | (rw [nI_clamp (by omega), upd_at, hf5]; rfl)) ?_
                  refine lv_iload hx hb dL_valves_867 (lv_at hl 16 rfl) ?_
                  refine lv_ishr hx hb dL_valves_869 ?_
                  refine lv_iconst (v := 1) hx hb dL_valves_870 (by decide) ?_
                  refine lv_iand hx hb dL_valves_871 ?_
                  refine lv_iadd hx hb dL_valves_872 ?_
                  refine lv_istore (lv' := [(15, .int ((zAsk ((if T 9 jt = -1 then 0 else (1 : Int32) <<< (T 9 jt &&& 31)) ||| ((1 : Int32) <<< ((nI jp) &&& 31))) i) + ((((if T 9 jt = -1 then 0 else (1 : Int32) <<< (T 9 jt &&& 31)) ||| ((1 : Int32) <<< ((nI jp) &&& 31))) >>> ((nI i) &&& 31)) &&& 1))), (0, .ref (r 0)), (1, .int act), (2, .int x), (3, .int y), (4, .ref (u 0)), (5, .ref (u 1)), (6, .ref (u 3)), (7, .ref (u 4)), (8, .ref (u 5)), (9, .ref (u 6)), (10, .ref (u 9)), (11, .int (nI jp)), (12, .int (nI jv)), (13, .int (nI jt)), (14, .int (T 7 jt)), (16, .int (nI i))]) hx hb dL_valves_873 hl (by decide) rfl (fun ls hl => ?_)
                  refine lv_iinc (v := (nI (i + 1))) (lv' := [(16, .int (nI (i + 1))), (15, .int ((zAsk ((if T 9 jt = -1 then 0 else (1 : Int32) <<< (T 9 jt &&& 31)) ||| ((1 : Int32) <<< ((nI jp) &&& 31))) i) + ((((if T 9 jt = -1 then 0 else (1 : Int32) <<< (T 9 jt &&& 31)) ||| ((1 : Int32) <<< ((nI jp) &&& 31))) >>> ((nI i) &&& 31)) &&& 1))), (0, .ref (r 0)), (1, .int act), (2, .int x), (3, .int y), (4, .ref (u 0)), (5, .ref (u 1)), (6, .ref (u 3)), (7, .ref (u 4)), (8, .ref (u 5)), (9, .ref (u 6)), (10, .ref (u 9)), (11, .int (nI jp)), (12, .int (nI jv)), (13, .int (nI jt)), (14, .int (T 7 jt))]) hx hb dL_valves_875 hl (k := 16) rfl (by first | exact nI_1 _ | rfl) (by decide) rfl (fun ls hl => ?_)
                  refine lv_goto (tgt := 853) hx hb dL_valves_878 (by decide) ?_
                  have hl2 := lv_sub (l' := [(0, .ref (r 0)), (1, .int act), (2, .int x), (3, .int y), (4, .ref (u 0)), (5, .ref (u 1)), (6, .ref (u 3)), (7, .ref (u 4)), (8, .ref (u 5)), (9, .ref (u 6)), (10, .ref (u 9)), (11, .int (nI jp)), (12, .int (nI jv)), (13, .int (nI jt)), (14, .int (T 7 jt)), (15, .int ((zAsk ((if T 9 jt = -1 then 0 else (1 : Int32) <<< (T 9 jt &&& 31)) ||| ((1 : Int32) <<< ((nI jp) &&& 31))) i) + ((((if T 9 jt = -1 then 0 else (1 : Int32) <<< (T 9 jt &&& 31)) ||| ((1 : Int32) <<< ((nI jp) &&& 31))) >>> ((nI i) &&& 31)) &&& 1))), (16, .int (nI (i + 1)))]) hl [2, 3, 4, 5, 6, 7, 8, 9, 10, 11, 12, 13, 14, 15, 16, 1, 0] rfl
                  have e_15 : (zAsk ((if T 9 jt = -1 then 0 else (1 : Int32) <<< (T 9 jt &&& 31)) ||| ((1 : Int32) <<< ((nI jp) &&& 31))) i) + ((((if T 9 jt = -1 then 0 else (1 : Int32) <<< (T 9 jt &&& 31)) ||| ((1 : Int32) <<< ((nI jp) &&& 31))) >>> ((nI i) &&& 31)) &&& 1) = zAsk ((if T 9 jt = -1 then 0 else (1 : Int32) <<< (T 9 jt &&& 31)) ||| ((1 : Int32) <<< ((nI jp) &&& 31))) (i + 1) := by rfl
                  have hl2 : lv_has ls 17 [(0, .ref (r 0)), (1, .int act), (2, .int x), (3, .int y), (4, .ref (u 0)), (5, .ref (u 1)), (6, .ref (u 3)), (7, .ref (u 4)), (8, .ref (u 5)), (9, .ref (u 6)), (10, .ref (u 9)), (11, .int (nI jp)), (12, .int (nI jv)), (13, .int (nI jt)), (14, .int (T 7 jt)), (15, .int (zAsk ((if T 9 jt = -1 then 0 else (1 : Int32) <<< (T 9 jt &&& 31)) ||| ((1 : Int32) <<< ((nI jp) &&& 31))) (i + 1))), (16, .int (nI (i + 1)))] := by rw [← e_15]; exact hl2
                  exact z_widen (show 40 ≤ 40 by omega) (show 400 ≤ 400 by omega) (ih (i + 1) (by omega) (by omega)   _ _ hP hD hS ls hl2)
            exact z_widen (show 18 ≤ 40 by omega) (show 260 ≤ 400 by omega) (key_853 (9 + 1) 0 (Nat.zero_le _) (by omega)   _ _ hP hD hS ls (lv_sub hl [3, 4, 5, 6, 7, 8, 9, 10, 11, 12, 13, 14, 15, 16, 2, 1, 0] rfl))
          · skip
            have hlf := zc_19
            refine lv_aload_n hx hb dL_valves_815 rfl (lv_at hl 1 rfl) ?_
            refine lv_iload hx hb dL_valves_816 (lv_at hl 12 rfl) ?_
            refine lv_iload hx hb dL_valves_818 (lv_at hl 14 rfl) ?_
            have hkz_820 : sK2 ((sIx (nI jp) 9) && (sIx (nI jt) (N 2))) (((decide (T 10 (nI jt).toNatClampNeg = 0)) && (sMay N T (nI jp))) && (decide ((nI jp) = T 7 (nI jt).toNatClampNeg) || !decide (T 2 (T 7 (nI jt).toNatClampNeg).toNatClampNeg = 0))) = 2 := (sK2_2' (sAnd_y (sIx_y hjp (by omega)) (sIx_y hjt2 (by omega))) (by rw [hcj]; have hn9 : ¬ nI jp = T 7 jt := fun z => hno z.symm; simp [hlf, hn9]))
            have hzb_820 : (8 + zmc (sK2 ((sIx (nI jp) 9) && (sIx (nI jt) (N 2))) (((decide (T 10 (nI jt).toNatClampNeg = 0)) && (sMay N T (nI jp))) && (decide ((nI jp) = T 7 (nI jt).toNatClampNeg) || !decide (T 2 (T 7 (nI jt).toNatClampNeg).toNatClampNeg = 0)))) (N 1) ((nTake N T (nI jp) (nI jt)).1 1)) ≤ 8 ∧ (200 + zms (sK2 ((sIx (nI jp) 9) && (sIx (nI jt) (N 2))) (((decide (T 10 (nI jt).toNatClampNeg = 0)) && (sMay N T (nI jp))) && (decide ((nI jp) = T 7 (nI jt).toNatClampNeg) || !decide (T 2 (T 7 (nI jt).toNatClampNeg).toNatClampNeg = 0)))) (N 1) ((nTake N T (nI jp) (nI jt)).1 1)) ≤ 200 := zmc_n8 (by rw [hkz_820]; decide)
            refine z_xR (G := G) (w := w) (c2 := 26) (s2 := 460) (vx_runSX (hh := [(0, 7, 10, 14), (0, 7, 16, 18)]) (As := [.ref (r 0), .int (nI jp), .int (nI jt)]) (rest := []) ⟨hx, hb, hml, hown, hts⟩ (h_takeOff l hst G d r A mc g N T w K (nI jp) (nI jt) Hz.size hC hJ.1.1 (by omega) ) (vx_cwSW 3 hts gL_valves_L_takeOff rfl rfl rfl (by decide +kernel) ⟨Nat.le_of_ble_eq_true rfl, Nat.le_of_ble_eq_true rfl⟩) (z_hs hK (z_apR hP) (z_dR hD) hZ hLx hS hA) rfl rfl hl.1 rfl (lv_room (Nat.le_of_ble_eq_true rfl)) dL_valves_820 ⟨(show 18 + (8 + zmc (sK2 ((sIx (nI jp) 9) && (sIx (nI jt) (N 2))) (((decide (T 10 (nI jt).toNatClampNeg = 0)) && (sMay N T (nI jp))) && (decide ((nI jp) = T 7 (nI jt).toNatClampNeg) || !decide (T 2 (T 7 (nI jt).toNatClampNeg).toNatClampNeg = 0)))) (N 1) ((nTake N T (nI jp) (nI jt)).1 1)) ≤ 400 by omega), (show 260 + (200 + zms (sK2 ((sIx (nI jp) 9) && (sIx (nI jt) (N 2))) (((decide (T 10 (nI jt).toNatClampNeg = 0)) && (sMay N T (nI jp))) && (decide ((nI jp) = T 7 (nI jt).toNatClampNeg) || !decide (T 2 (T 7 (nI jt).toNatClampNeg).toNatClampNeg = 0)))) (N 1) ((nTake N T (nI jp) (nI jt)).1 1)) ≤ 2400 by omega)⟩) hP hD hS hA (show 18 + (8 + zmc (sK2 ((sIx (nI jp) 9) && (sIx (nI jt) (N 2))) (((decide (T 10 (nI jt).toNatClampNeg = 0)) && (sMay N T (nI jp))) && (decide ((nI jp) = T 7 (nI jt).toNatClampNeg) || !decide (T 2 (T 7 (nI jt).toNatClampNeg).toNatClampNeg = 0)))) (N 1) ((nTake N T (nI jp) (nI jt)).1 1)) ≤ 26 by omega) (show 260 + (200 + zms (sK2 ((sIx (nI jp) 9) && (sIx (nI jt) (N 2))) (((decide (T 10 (nI jt).toNatClampNeg = 0)) && (sMay N T (nI jp))) && (decide ((nI jp) = T 7 (nI jt).toNatClampNeg) || !decide (T 2 (T 7 (nI jt).toNatClampNeg).toNatClampNeg = 0)))) (N 1) ((nTake N T (nI jp) (nI jt)).1 1)) ≤ 460 by omega) (fun rz_28 zw_28 Hz Lz hq hP hD hS => ?_)
            obtain ⟨hr9, hw9⟩ := hq.2 (by rw [hkz_820]; decide)
            rw [hw9] at hP hD
            rw [hr9, show zCx [-7100, -7300] (sK2 ((sIx (nI jp) 9) && (sIx (nI jt) (N 2))) (((decide (T 10 (nI jt).toNatClampNeg = 0)) && (sMay N T (nI jp))) && (decide ((nI jp) = T 7 (nI jt).toNatClampNeg) || !decide (T 2 (T 7 (nI jt).toNatClampNeg).toNatClampNeg = 0)))) = (-7300) from by rw [hkz_820]; rfl]
            refine lv_sipush (v := (-7300)) hx hb dL_valves_823 (by decide) ?_
            refine lv_icmp_ne (tgt := 833) hx hb dL_valves_826 (by decide) (fun zc_29 => absurd zc_29 (by decide)) (fun _ => ?_)
            refine lv_iconst (v := 1) hx hb dL_valves_829 (by decide) ?_
            refine lv_goto (tgt := 834) hx hb dL_valves_830 (by decide) ?_
            exact z_widen (k := 400) (n := 2400) (show 26 ≤ 400 by omega) (show 460 ≤ 2400 by omega) (W.zret (v := 1) hx hb hr rfl (fun t ht hW => ⟨⟨1, (([(u 0, .inl (G.2 1, 64, .inr (.inl E))), (u 1, .inl (G.2 0, 8, .inl (F 1))), (u 2, .inl (G.2 0, 3, .inl (F 2))), (u 3, .inl (G.2 0, 3, .inl (F 3))), (u 4, .inl (G.2 0, 40, .inl (F 4))), (u 5, .inl (G.2 0, 40, .inl (F 5))), (u 6, .inl (G.2 0, 9, .inl (F 6))), (u 7, .inl (G.2 0, 12, .inl (F 7))), (u 8, .inl (G.2 0, 12, .inl (F 8))), (u 9, .inl (G.2 0, 10, .inl (F 9)))] : va_W) ++ w), rfl, ⟨rfl, N, T, E, F, w, rfl, ⟨A, mc, g, hC⟩, hR, (hJ.mono (by omega))⟩, ⟨by rw [ht]; exact hP, hD⟩⟩, hS.F ht⟩) hS.2.2 dL_valves_834 hlocks)
  · skip
    have hjn : jt = N 2 := (nI_eq (by omega) (by omega)).mp zc_1
    subst hjn
    refine lv_aload_n hx hb dL_valves_704 rfl (lv_at hl 0 rfl) ?_
    refine lv_iload hx hb dL_valves_705 (lv_at hl 11 rfl) ?_
    refine lv_iload hx hb dL_valves_707 (lv_at hl 13 rfl) ?_
    have hkz_709 : sK2 ((sIx (nI jp) 9) && (sIx (nI (N 2)) (N 2))) (((decide (T 10 (nI (N 2)).toNatClampNeg = 0)) && (sMay N T (nI jp))) && (decide ((nI jp) = T 7 (nI (N 2)).toNatClampNeg) || !decide (T 2 (T 7 (nI (N 2)).toNatClampNeg).toNatClampNeg = 0))) = 1 := (sK2_1' (sAnd_r (sIx_e (by omega))))
    have hzb_709 : (8 + zmc (sK2 ((sIx (nI jp) 9) && (sIx (nI (N 2)) (N 2))) (((decide (T 10 (nI (N 2)).toNatClampNeg = 0)) && (sMay N T (nI jp))) && (decide ((nI jp) = T 7 (nI (N 2)).toNatClampNeg) || !decide (T 2 (T 7 (nI (N 2)).toNatClampNeg).toNatClampNeg = 0)))) (N 1) ((nTake N T (nI jp) (nI (N 2))).1 1)) ≤ 8 ∧ (200 + zms (sK2 ((sIx (nI jp) 9) && (sIx (nI (N 2)) (N 2))) (((decide (T 10 (nI (N 2)).toNatClampNeg = 0)) && (sMay N T (nI jp))) && (decide ((nI jp) = T 7 (nI (N 2)).toNatClampNeg) || !decide (T 2 (T 7 (nI (N 2)).toNatClampNeg).toNatClampNeg = 0)))) (N 1) ((nTake N T (nI jp) (nI (N 2))).1 1)) ≤ 200 := zmc_n8 (by rw [hkz_709]; decide)
    refine z_xR (G := G) (w := w) (c2 := 18) (s2 := 260) (vx_runSX (hh := [(0, 7, 10, 14), (0, 7, 16, 18)]) (As := [.ref (r 0), .int (nI jp), .int (nI (N 2))]) (rest := []) ⟨hx, hb, hml, hown, hts⟩ (h_takeOff l hst G d r A mc g N T w K (nI jp) (nI (N 2)) H.size hC hJ.1.1 (by omega) ) (vx_cwSW 3 hts gL_valves_L_takeOff rfl rfl rfl (by decide +kernel) ⟨Nat.le_of_ble_eq_true rfl, Nat.le_of_ble_eq_true rfl⟩) (z_hs hK (z_apR hP) (z_dR hD) hZ hLx hS hA) rfl rfl hl.1 rfl (lv_room (Nat.le_of_ble_eq_true rfl)) dL_valves_709 ⟨(show 10 + (8 + zmc (sK2 ((sIx (nI jp) 9) && (sIx (nI (N 2)) (N 2))) (((decide (T 10 (nI (N 2)).toNatClampNeg = 0)) && (sMay N T (nI jp))) && (decide ((nI jp) = T 7 (nI (N 2)).toNatClampNeg) || !decide (T 2 (T 7 (nI (N 2)).toNatClampNeg).toNatClampNeg = 0)))) (N 1) ((nTake N T (nI jp) (nI (N 2))).1 1)) ≤ 400 by omega), (show 60 + (200 + zms (sK2 ((sIx (nI jp) 9) && (sIx (nI (N 2)) (N 2))) (((decide (T 10 (nI (N 2)).toNatClampNeg = 0)) && (sMay N T (nI jp))) && (decide ((nI jp) = T 7 (nI (N 2)).toNatClampNeg) || !decide (T 2 (T 7 (nI (N 2)).toNatClampNeg).toNatClampNeg = 0)))) (N 1) ((nTake N T (nI jp) (nI (N 2))).1 1)) ≤ 2400 by omega)⟩) hP hD hS hA (show 10 + (8 + zmc (sK2 ((sIx (nI jp) 9) && (sIx (nI (N 2)) (N 2))) (((decide (T 10 (nI (N 2)).toNatClampNeg = 0)) && (sMay N T (nI jp))) && (decide ((nI jp) = T 7 (nI (N 2)).toNatClampNeg) || !decide (T 2 (T 7 (nI (N 2)).toNatClampNeg).toNatClampNeg = 0)))) (N 1) ((nTake N T (nI jp) (nI (N 2))).1 1)) ≤ 18 by omega) (show 60 + (200 + zms (sK2 ((sIx (nI jp) 9) && (sIx (nI (N 2)) (N 2))) (((decide (T 10 (nI (N 2)).toNatClampNeg = 0)) && (sMay N T (nI jp))) && (decide ((nI jp) = T 7 (nI (N 2)).toNatClampNeg) || !decide (T 2 (T 7 (nI (N 2)).toNatClampNeg).toNatClampNeg = 0)))) (N 1) ((nTake N T (nI jp) (nI (N 2))).1 1)) ≤ 260 by omega) (fun rz_30 zw_30 Hz Lz hq hP hD hS => ?_)
    obtain ⟨hr9, hw9⟩ := hq.2 (by rw [hkz_709]; decide)
    rw [hw9] at hP hD
    rw [hr9, show zCx [-7100, -7300] (sK2 ((sIx (nI jp) 9) && (sIx (nI (N 2)) (N 2))) (((decide (T 10 (nI (N 2)).toNatClampNeg = 0)) && (sMay N T (nI jp))) && (decide ((nI jp) = T 7 (nI (N 2)).toNatClampNeg) || !decide (T 2 (T 7 (nI (N 2)).toNatClampNeg).toNatClampNeg = 0)))) = (-7100) from by rw [hkz_709]; rfl]
    refine lv_sipush (v := (-7100)) hx hb dL_valves_712 (by decide) ?_
    refine lv_icmp_ne (tgt := 746) hx hb dL_valves_715 (by decide) (fun zc_31 => absurd zc_31 (by decide)) (fun _ => ?_)
    refine lv_aload_n hx hb dL_valves_718 rfl (lv_at hl 0 rfl) ?_
    refine lv_iload hx hb dL_valves_719 (lv_at hl 13 rfl) ?_
    have hkz_721 : sK1 (sIx (nI (N 2)) (N 2)) = 1 := (sK1_1' (sIx_e (by omega)))
    refine z_xR (G := G) (w := w) (c2 := 20) (s2 := 272) (vx_runSX (hh := [(0, 6, 9, 14)]) (As := [.ref (r 0), .int (nI (N 2))]) (rest := []) ⟨hx, hb, hml, hown, hts⟩ (h_valveOf l hst G d r A mc g N T w K (nI (N 2)) Hz.size hC hJ.1.1 (by omega) ) (vx_cwSW 2 hts gL_valves_L_valveOf rfl rfl rfl (by decide +kernel) ⟨Nat.le_of_ble_eq_true rfl, Nat.le_of_ble_eq_true rfl⟩) (z_hs hK (z_apR hP) (z_dR hD) hZ hLx hS hA) rfl rfl hl.1 rfl (lv_room (Nat.le_of_ble_eq_true rfl)) dL_valves_721 ⟨(show 18 + 2 ≤ 400 by omega), (show 260 + 12 ≤ 2400 by omega)⟩) hP hD hS hA (show 18 + 2 ≤ 20 by omega) (show 260 + 12 ≤ 272 by omega) (fun rz_32 zw_32 Hz Lz hq hP hD hS => ?_)
    obtain ⟨hr9, hw9⟩ := hq.2 (by rw [hkz_721]; decide)
    rw [hw9] at hP hD
    rw [hr9, show zCx [-7100] (sK1 (sIx (nI (N 2)) (N 2))) = (-7100) from by rw [hkz_721]; rfl]
    refine lv_sipush (v := (-7100)) hx hb dL_valves_724 (by decide) ?_
    refine lv_icmp_ne (tgt := 746) hx hb dL_valves_727 (by decide) (fun zc_33 => absurd zc_33 (by decide)) (fun _ => ?_)
    refine lv_aload_n hx hb dL_valves_730 rfl (lv_at hl 0 rfl) ?_
    refine lv_iconst (v := 0) hx hb dL_valves_731 (by decide) ?_
    refine lv_iconst (v := (-1)) hx hb dL_valves_732 (by decide) ?_
    have hkz_733 : sK2 ((sIx (0 : Int32) 9) && (sIx (-1 : Int32) (N 2))) (((decide (T 10 (-1 : Int32).toNatClampNeg = 0)) && (sMay N T (0 : Int32))) && (decide ((0 : Int32) = T 7 (-1 : Int32).toNatClampNeg) || !decide (T 2 (T 7 (-1 : Int32).toNatClampNeg).toNatClampNeg = 0))) = 1 := (sK2_1' (sAnd_r (zIx_neg (by decide))))
    have hzb_733 : (8 + zmc (sK2 ((sIx (0 : Int32) 9) && (sIx (-1 : Int32) (N 2))) (((decide (T 10 (-1 : Int32).toNatClampNeg = 0)) && (sMay N T (0 : Int32))) && (decide ((0 : Int32) = T 7 (-1 : Int32).toNatClampNeg) || !decide (T 2 (T 7 (-1 : Int32).toNatClampNeg).toNatClampNeg = 0)))) (N 1) ((nTake N T (0 : Int32) (-1 : Int32)).1 1)) ≤ 8 ∧ (200 + zms (sK2 ((sIx (0 : Int32) 9) && (sIx (-1 : Int32) (N 2))) (((decide (T 10 (-1 : Int32).toNatClampNeg = 0)) && (sMay N T (0 : Int32))) && (decide ((0 : Int32) = T 7 (-1 : Int32).toNatClampNeg) || !decide (T 2 (T 7 (-1 : Int32).toNatClampNeg).toNatClampNeg = 0)))) (N 1) ((nTake N T (0 : Int32) (-1 : Int32)).1 1)) ≤ 200 := zmc_n8 (by rw [hkz_733]; decide)
    refine z_xR (G := G) (w := w) (c2 := 28) (s2 := 472) (vx_runSX (hh := [(0, 7, 10, 14), (0, 7, 16, 18)]) (As := [.ref (r 0), .int 0, .int (-1)]) (rest := []) ⟨hx, hb, hml, hown, hts⟩ (h_takeOff l hst G d r A mc g N T w K (0 : Int32) (-1 : Int32) Hz.size hC hJ.1.1 (by omega) ) (vx_cwSW 3 hts gL_valves_L_takeOff rfl rfl rfl (by decide +kernel) ⟨Nat.le_of_ble_eq_true rfl, Nat.le_of_ble_eq_true rfl⟩) (z_hs hK (z_apR hP) (z_dR hD) hZ hLx hS hA) rfl rfl hl.1 rfl (lv_room (Nat.le_of_ble_eq_true rfl)) dL_valves_733 ⟨(show 20 + (8 + zmc (sK2 ((sIx (0 : Int32) 9) && (sIx (-1 : Int32) (N 2))) (((decide (T 10 (-1 : Int32).toNatClampNeg = 0)) && (sMay N T (0 : Int32))) && (decide ((0 : Int32) = T 7 (-1 : Int32).toNatClampNeg) || !decide (T 2 (T 7 (-1 : Int32).toNatClampNeg).toNatClampNeg = 0)))) (N 1) ((nTake N T (0 : Int32) (-1 : Int32)).1 1)) ≤ 400 by omega), (show 272 + (200 + zms (sK2 ((sIx (0 : Int32) 9) && (sIx (-1 : Int32) (N 2))) (((decide (T 10 (-1 : Int32).toNatClampNeg = 0)) && (sMay N T (0 : Int32))) && (decide ((0 : Int32) = T 7 (-1 : Int32).toNatClampNeg) || !decide (T 2 (T 7 (-1 : Int32).toNatClampNeg).toNatClampNeg = 0)))) (N 1) ((nTake N T (0 : Int32) (-1 : Int32)).1 1)) ≤ 2400 by omega)⟩) hP hD hS hA (show 20 + (8 + zmc (sK2 ((sIx (0 : Int32) 9) && (sIx (-1 : Int32) (N 2))) (((decide (T 10 (-1 : Int32).toNatClampNeg = 0)) && (sMay N T (0 : Int32))) && (decide ((0 : Int32) = T 7 (-1 : Int32).toNatClampNeg) || !decide (T 2 (T 7 (-1 : Int32).toNatClampNeg).toNatClampNeg = 0)))) (N 1) ((nTake N T (0 : Int32) (-1 : Int32)).1 1)) ≤ 28 by omega) (show 272 + (200 + zms (sK2 ((sIx (0 : Int32) 9) && (sIx (-1 : Int32) (N 2))) (((decide (T 10 (-1 : Int32).toNatClampNeg = 0)) && (sMay N T (0 : Int32))) && (decide ((0 : Int32) = T 7 (-1 : Int32).toNatClampNeg) || !decide (T 2 (T 7 (-1 : Int32).toNatClampNeg).toNatClampNeg = 0)))) (N 1) ((nTake N T (0 : Int32) (-1 : Int32)).1 1)) ≤ 472 by omega) (fun rz_34 zw_34 Hz Lz hq hP hD hS => ?_)
    obtain ⟨hr9, hw9⟩ := hq.2 (by rw [hkz_733]; decide)
    rw [hw9] at hP hD
    rw [hr9, show zCx [-7100, -7300] (sK2 ((sIx (0 : Int32) 9) && (sIx (-1 : Int32) (N 2))) (((decide (T 10 (-1 : Int32).toNatClampNeg = 0)) && (sMay N T (0 : Int32))) && (decide ((0 : Int32) = T 7 (-1 : Int32).toNatClampNeg) || !decide (T 2 (T 7 (-1 : Int32).toNatClampNeg).toNatClampNeg = 0)))) = (-7100) from by rw [hkz_733]; rfl]
    refine lv_sipush (v := (-7100)) hx hb dL_valves_736 (by decide) ?_
    refine lv_icmp_ne (tgt := 746) hx hb dL_valves_739 (by decide) (fun zc_35 => absurd zc_35 (by decide)) (fun _ => ?_)
    refine lv_iconst (v := 1) hx hb dL_valves_742 (by decide) ?_
    refine lv_goto (tgt := 747) hx hb dL_valves_743 (by decide) ?_
    exact z_widen (k := 400) (n := 2400) (show 28 ≤ 400 by omega) (show 472 ≤ 2400 by omega) (W.zret (v := 1) hx hb hr rfl (fun t ht hW => ⟨⟨1, (([(u 0, .inl (G.2 1, 64, .inr (.inl E))), (u 1, .inl (G.2 0, 8, .inl (F 1))), (u 2, .inl (G.2 0, 3, .inl (F 2))), (u 3, .inl (G.2 0, 3, .inl (F 3))), (u 4, .inl (G.2 0, 40, .inl (F 4))), (u 5, .inl (G.2 0, 40, .inl (F 5))), (u 6, .inl (G.2 0, 9, .inl (F 6))), (u 7, .inl (G.2 0, 12, .inl (F 7))), (u 8, .inl (G.2 0, 12, .inl (F 8))), (u 9, .inl (G.2 0, 10, .inl (F 9)))] : va_W) ++ w), rfl, ⟨rfl, N, T, E, F, w, rfl, ⟨A, mc, g, hC⟩, hR, (hJ.mono (by omega))⟩, ⟨by rw [ht]; exact hP, hD⟩⟩, hS.F ht⟩) hS.2.2 dL_valves_747 hlocks)

set_option maxHeartbeats 4000000 in
set_option maxRecDepth 100000 in
theorem vvalves_623 {p : Program} {l : Launch} {e : Env} {s : State} {m : MethodId} {below : List Frame} {meth : Method} {c : Code} {G : zG} {d : Nat} {r u : Nat → Nat} {act x y : Int32} {Aw : Nat → Prop} (hst : l.stackTraces = false) (hx : p.tables.exec = Jvm.exec) (hb : c.code = cL_valves) (hr : meth.sig.returnType = some .boolean) (hml : c.maxLocals = 17) (hown : s.vm.findClass RL = some m.cls) (hts : ∀ w ∈ wsL_valves, w.before ([.ref (r 0), .int act, .int x, .int y, .ref (u 0), .ref (u 1), .ref (u 3), .ref (u 4), .ref (u 5), .ref (u 6), .ref (u 9)] : List Value).toArray s = true) (hlocks : meth.locks = false) (hK : va_K G.1 vwCl (zT G.2) s) (hZ : zCe Aw d s s.heap) (hLx : zLx s) (hA : ∀ q : Nat, s.heap.size ≤ q → Aw q) {A : Nat → Nat} {mc : Nat → Int32} {g : Nat → Nat → Int32} {N : Nat → Nat} {T : Nat → Nat → Int32} {w : va_W} {E : Nat → Int64} {F : Nat → Nat → Int32} {K : Nat} (hC : sCQ G d r A mc g N T w) (hR : sLR N T E F) (hJ : sLJ N T K) (hK5 : K ≤ 400) (hh9 : N 1 ≤ 90 ∧ N 0 ≤ 1900) {jp jv : Nat} (hjp : jp < 9) (hjv : jv < 8) {H : Heap} {locs : List Loc} (hP : va_P G.1 vwCl (([(u 0, .inl (G.2 1, 64, .inr (.inl E))), (u 1, .inl (G.2 0, 8, .inl (F 1))), (u 2, .inl (G.2 0, 3, .inl (F 2))), (u 3, .inl (G.2 0, 3, .inl (F 3))), (u 4, .inl (G.2 0, 40, .inl (F 4))), (u 5, .inl (G.2 0, 40, .inl (F 5))), (u 6, .inl (G.2 0, 9, .inl (F 6))), (u 7, .inl (G.2 0, 12, .inl (F 7))), (u 8, .inl (G.2 0, 12, .inl (F 8))), (u 9, .inl (G.2 0, 10, .inl (F 9)))] : va_W) ++ w) H) (hD : va_D Aw (([(u 0, .inl (G.2 1, 64, .inr (.inl E))), (u 1, .inl (G.2 0, 8, .inl (F 1))), (u 2, .inl (G.2 0, 3, .inl (F 2))), (u 3, .inl (G.2 0, 3, .inl (F 3))), (u 4, .inl (G.2 0, 40, .inl (F 4))), (u 5, .inl (G.2 0, 40, .inl (F 5))), (u 6, .inl (G.2 0, 9, .inl (F 6))), (u 7, .inl (G.2 0, 12, .inl (F 7))), (u 8, .inl (G.2 0, 12, .inl (F 8))), (u 9, .inl (G.2 0, 10, .inl (F 9)))] : va_W) ++ w)) (hS : va_S Aw s.heap H locs) {ls : Array Slot} (hl : lv_has ls 17 [(0, .ref (r 0)), (1, .int act), (2, .int x), (3, .int y), (4, .ref (u 0)), (5, .ref (u 1)), (6, .ref (u 3)), (7, .ref (u 4)), (8, .ref (u 5)), (9, .ref (u 6)), (10, .ref (u 9)), (11, .int (nI jp)), (12, .int (nI jv))]) : W p l e (headSpec wsL_valves ({ frames := 9, cells := 400, slots := 2400, locals := 223 })).room s m ([.ref (r 0), .int act, .int x, .int y, .ref (u 0), .ref (u 1), .ref (u 3), .ref (u 4), .ref (u 5), .ref (u 6), .ref (u 9)] : List Value).toArray below meth c H locs 0 0 (MQ below (va_Qi (fun (r1 : Int32) (wz : va_W) => r1 = 1 ∧ ∃ (N2 : Nat → Nat) (T2 : Nat → Nat → Int32) (E2 : Nat → Int64) (F2 : Nat → Nat → Int32) (w2 : va_W), wz = LW G u E2 F2 ++ w2 ∧ sCO G d r N2 T2 w2 ∧ sLR N2 T2 E2 F2 ∧ sLJ N2 T2 (K + 2)) (zB G Aw) Aw) ([.ref (r 0), .int act, .int x, .int y, .ref (u 0), .ref (u 1), .ref (u 3), .ref (u 4), .ref (u 5), .ref (u 6), .ref (u 9)] : List Value).toArray s 400 2400 Aw) (F0 m 623 ls []) := by
  have hQ := hR.q hJ
  obtain ⟨hg0, hg1, hg2, hg3, hg4, hg5, hg6, hg7, hg8⟩ := hR.2.2.2.2.2.2.2.2.2
  obtain ⟨⟨hb1, hb0, hb3, hb4, hb5⟩, hlv, hlm, hLH⟩ := id hJ.2
  obtain ⟨⟨hi0, hi2, hi3, hi4, hi5, hi6, hi1⟩, hiB, hiE, hiT, hiA, hiA0, hiM, hiK, hiK0, hiX⟩ := id hJ.1.1
  have hLG := hJ.1.2
  have hS0z : va_S Aw s.heap s.heap [] := va_S.rf
  refine lv_iload_n hx hb dL_valves_623 rfl (lv_at hl 2 rfl) ?_
  refine lv_iconst (v := 3) hx hb dL_valves_624 (by decide) ?_
  refine lv_ishr hx hb dL_valves_625 ?_
  refine lv_aload hx hb dL_valves_626 (lv_at hl 10 rfl) ?_
  refine lv_iconst (v := 5) hx hb dL_valves_628 (by decide) ?_
  refine va_iald hx hb hK (z_apL hP) 9 0 rfl rfl (vp_in_nI (n := 5) (by decide) (by decide)) dL_valves_629 ?_
  refine W.eq (g2 := F0 m 630 ls [.int (nI (N 2)), .int (x >>> (3 &&& 31))]) (by rw [show (F 9) (5 : Int32).toNatClampNeg = nI (N 2) from hg5]) ?_
  refine lv_iconst (v := 1) hx hb dL_valves_630 (by decide) ?_
  refine lv_iadd hx hb dL_valves_631 ?_
  refine W.eq (g2 := F0 m 632 ls [.int (nI (N 2 + 1)), .int (x >>> (3 &&& 31))]) (by first | (rw [nI_1]; done) | (rw [nI_1]; rfl)) ?_
  refine z_csi (va_Run.run (va_runS (As := [.int (x >>> (3 &&& 31)), .int (nI (N 2 + 1))]) (rest := []) ⟨hx, hb, hml, hown, hts⟩ (c_L_low l G (x >>> (3 &&& 31)) (N 2 + 1) (by omega) (by omega)) (va_cwS 2 hts gL_valves_L_low rfl rfl rfl (by decide +kernel) ⟨Nat.le_of_ble_eq_true rfl, Nat.le_of_ble_eq_true rfl⟩) (z_ps hK z_none) rfl rfl hl.1 rfl (lv_room (Nat.le_of_ble_eq_true rfl)) dL_valves_632 ⟨(show 0 + 0 ≤ 400 by omega), (show 0 + 0 ≤ 2400 by omega)⟩)) (fun zr_1 hzr_1 => ?_)
  obtain ⟨jt, hjt, rfl⟩ := hzr_1
  refine lv_istore (lv' := [(13, .int (nI jt)), (0, .ref (r 0)), (1, .int act), (2, .int x), (3, .int y), (4, .ref (u 0)), (5, .ref (u 1)), (6, .ref (u 3)), (7, .ref (u 4)), (8, .ref (u 5)), (9, .ref (u 6)), (10, .ref (u 9)), (11, .int (nI jp)), (12, .int (nI jv))]) hx hb dL_valves_635 hl (by decide) rfl (fun ls hl => ?_)
  refine lv_iconst (v := 0) hx hb dL_valves_637 (by decide) ?_
  refine lv_istore (lv' := [(14, .int 0), (13, .int (nI jt)), (0, .ref (r 0)), (1, .int act), (2, .int x), (3, .int y), (4, .ref (u 0)), (5, .ref (u 1)), (6, .ref (u 3)), (7, .ref (u 4)), (8, .ref (u 5)), (9, .ref (u 6)), (10, .ref (u 9)), (11, .int (nI jp)), (12, .int (nI jv))]) hx hb dL_valves_638 hl (by decide) rfl (fun ls hl => ?_)
  have key_640 : ∀ (n i : Nat), i ≤ N 2 → N 2 < i + n → ∀ (jt : Nat), jt < N 2 + 1 → ∀ (Hz : Heap) (Lz : List Loc), va_P G.1 vwCl (([(u 0, .inl (G.2 1, 64, .inr (.inl E))), (u 1, .inl (G.2 0, 8, .inl (F 1))), (u 2, .inl (G.2 0, 3, .inl (F 2))), (u 3, .inl (G.2 0, 3, .inl (F 3))), (u 4, .inl (G.2 0, 40, .inl (F 4))), (u 5, .inl (G.2 0, 40, .inl (F 5))), (u 6, .inl (G.2 0, 9, .inl (F 6))), (u 7, .inl (G.2 0, 12, .inl (F 7))), (u 8, .inl (G.2 0, 12, .inl (F 8))), (u 9, .inl (G.2 0, 10, .inl (F 9)))] : va_W) ++ w) Hz → va_D Aw (([(u 0, .inl (G.2 1, 64, .inr (.inl E))), (u 1, .inl (G.2 0, 8, .inl (F 1))), (u 2, .inl (G.2 0, 3, .inl (F 2))), (u 3, .inl (G.2 0, 3, .inl (F 3))), (u 4, .inl (G.2 0, 40, .inl (F 4))), (u 5, .inl (G.2 0, 40, .inl (F 5))), (u 6, .inl (G.2 0, 9, .inl (F 6))), (u 7, .inl (G.2 0, 12, .inl (F 7))), (u 8, .inl (G.2 0, 12, .inl (F 8))), (u 9, .inl (G.2 0, 10, .inl (F 9)))] : va_W) ++ w) → va_S Aw s.heap Hz Lz → ∀ ls : Array Slot, lv_has ls 17 [(0, .ref (r 0)), (1, .int act), (2, .int x), (3, .int y), (4, .ref (u 0)), (5, .ref (u 1)), (6, .ref (u 3)), (7, .ref (u 4)), (8, .ref (u 5)), (9, .ref (u 6)), (10, .ref (u 9)), (11, .int (nI jp)), (12, .int (nI jv)), (13, .int (nI jt)), (14, .int (nI i))] → W p l e (headSpec wsL_valves ({ frames := 9, cells := 400, slots := 2400, locals := 223 })).room s m ([.ref (r 0), .int act, .int x, .int y, .ref (u 0), .ref (u 1), .ref (u 3), .ref (u 4), .ref (u 5), .ref (u 6), .ref (u 9)] : List Value).toArray below meth c Hz Lz (0) (0) (MQ below (va_Qi (fun (r1 : Int32) (wz : va_W) => r1 = 1 ∧ ∃ (N2 : Nat → Nat) (T2 : Nat → Nat → Int32) (E2 : Nat → Int64) (F2 : Nat → Nat → Int32) (w2 : va_W), wz = LW G u E2 F2 ++ w2 ∧ sCO G d r N2 T2 w2 ∧ sLR N2 T2 E2 F2 ∧ sLJ N2 T2 (K + 2)) (zB G Aw) Aw) ([.ref (r 0), .int act, .int x, .int y, .ref (u 0), .ref (u 1), .ref (u 3), .ref (u 4), .ref (u 5), .ref (u 6), .ref (u 9)] : List Value).toArray s 400 2400 Aw) (F0 m 640 ls []) := by
    intro n
    induction n with
    | zero => intro i hi_a hi_b; exact absurd hi_b (by omega)
    | succ n ih =>
      intro i hil hin jt  hjt  Hz Lz hP hD hS ls hl
      refine lv_iload hx hb dL_valves_640 (lv_at hl 14 rfl) ?_
      refine lv_aload hx hb dL_valves_642 (lv_at hl 10 rfl) ?_
      refine lv_iconst (v := 5) hx hb dL_valves_644 (by decide) ?_
      refine va_iald hx hb hK (z_apL hP) 9 0 rfl rfl (vp_in_nI (n := 5) (by decide) (by decide)) dL_valves_645 ?_
      refine W.eq (g2 := F0 m 646 ls [.int (nI (N 2)), .int (nI i)]) (by rw [show (F 9) (5 : Int32).toNatClampNeg = nI (N 2) from hg5]) ?_
      refine lv_icmp_ge (tgt := 695) hx hb dL_valves_646 (by decide) (fun zc_2 => ?_) (fun zc_2 => ?_)
      · skip
        have zd_2 := Int32.not_lt.mpr zc_2
        have zhc := (nI_leI (by omega) (by omega)).mp zc_2
        have zie := Nat.le_antisymm hil zhc
        subst zie
        exact z_widen (show 0 ≤ 10 by omega) (show 0 ≤ 60 by omega) (vvalves_695 hst hx hb hr hml hown hts hlocks hK hZ hLx hA hC hR hJ hK5 hh9 hjp hjv (by omega) hP hD hS (lv_sub hl [0, 1, 2, 3, 4, 5, 6, 7, 8, 9, 10, 11, 12, 13] rfl))
      · skip
        have zd_2 := Int32.not_le.mp zc_2
        have zhc := Nat.lt_of_not_le (fun z => zc_2 ((nI_leI (by omega) (by omega)).mpr z))
        have hlt : i < N 2 := zhc
        refine lv_iload_n hx hb dL_valves_649 rfl (lv_at hl 2 rfl) ?_
        refine lv_sipush (v := 24576) hx hb dL_valves_650 (by decide) ?_
        refine lv_iand hx hb dL_valves_653 ?_
        refine lv_if_le (tgt := 695) hx hb dL_valves_654 (by decide) (fun zc_3 => ?_) (fun zc_3 => ?_)
        · skip
          have zd_3 := Int32.not_lt.mpr zc_3
          exact z_widen (show 0 ≤ 10 by omega) (show 0 ≤ 60 by omega) (vvalves_695 hst hx hb hr hml hown hts hlocks hK hZ hLx hA hC hR hJ hK5 hh9 hjp hjv (by omega) hP hD hS (lv_sub hl [0, 1, 2, 3, 4, 5, 6, 7, 8, 9, 10, 11, 12, 13] rfl))
        · skip
          have zd_3 := Int32.not_le.mp zc_3
          refine lv_iload hx hb dL_valves_657 (lv_at hl 13 rfl) ?_
          refine lv_aload hx hb dL_valves_659 (lv_at hl 10 rfl) ?_
          refine lv_iconst (v := 5) hx hb dL_valves_661 (by decide) ?_
          refine va_iald hx hb hK (z_apL hP) 9 0 rfl rfl (vp_in_nI (n := 5) (by decide) (by decide)) dL_valves_662 ?_
          refine W.eq (g2 := F0 m 663 ls [.int (nI (N 2)), .int (nI jt)]) (by rw [show (F 9) (5 : Int32).toNatClampNeg = nI (N 2) from hg5]) ?_
          refine lv_icmp_eq (tgt := 678) hx hb dL_valves_663 (by decide) (fun zc_4 => ?_) (fun zc_4 => ?_)
          · skip
            skip
            refine lv_iload hx hb dL_valves_678 (lv_at hl 13 rfl) ?_
            refine lv_iconst (v := 1) hx hb dL_valves_680 (by decide) ?_
            refine lv_iadd hx hb dL_valves_681 ?_
            refine W.eq (g2 := F0 m 682 ls [.int (nI (jt + 1))]) (by first | (rw [nI_1]; done) | (rw [nI_1]; rfl)) ?_
            refine lv_aload hx hb dL_valves_682 (lv_at hl 10 rfl) ?_
            refine lv_iconst (v := 5) hx hb dL_valves_684 (by decide) ?_
            refine va_iald hx hb hK (z_apL hP) 9 0 rfl rfl (vp_in_nI (n := 5) (by decide) (by decide)) dL_valves_685 ?_
            refine W.eq (g2 := F0 m 686 ls [.int (nI (N 2)), .int (nI (jt + 1))]) (by rw [show (F 9) (5 : Int32).toNatClampNeg = nI (N 2) from hg5]) ?_
            refine lv_irem hx hb dL_valves_686 (nI_ne0 (by omega) (by omega)) ?_
            refine W.eq (g2 := F0 m 687 ls [.int (nI ((jt + 1) % N 2))]) (by first | (rw [pk_rem (by omega) (by omega) (by omega)]; done) | (rw [pk_rem (by omega) (by omega) (by omega)]; rfl)) ?_
            refine lv_istore (lv' := [(13, .int (nI ((jt + 1) % N 2))), (0, .ref (r 0)), (1, .int act), (2, .int x), (3, .int y), (4, .ref (u 0)), (5, .ref (u 1)), (6, .ref (u 3)), (7, .ref (u 4)), (8, .ref (u 5)), (9, .ref (u 6)), (10, .ref (u 9)), (11, .int (nI jp)), (12, .int (nI jv)), (14, .int (nI i))]) hx hb dL_valves_687 hl (by decide) rfl (fun ls hl => ?_)
            refine lv_iinc (v := (nI (i + 1))) (lv' := [(14, .int (nI (i + 1))), (13, .int (nI ((jt + 1) % N 2))), (0, .ref (r 0)), (1, .int act), (2, .int x), (3, .int y), (4, .ref (u 0)), (5, .ref (u 1)), (6, .ref (u 3)), (7, .ref (u 4)), (8, .ref (u 5)), (9, .ref (u 6)), (10, .ref (u 9)), (11, .int (nI jp)), (12, .int (nI jv))]) hx hb dL_valves_689 hl (k := 14) rfl (by first | exact nI_1 _ | rfl) (by decide) rfl (fun ls hl => ?_)
            refine lv_goto (tgt := 640) hx hb dL_valves_692 (by decide) ?_
            have hl2 := lv_sub (l' := [(0, .ref (r 0)), (1, .int act), (2, .int x), (3, .int y), (4, .ref (u 0)), (5, .ref (u 1)), (6, .ref (u 3)), (7, .ref (u 4)), (8, .ref (u 5)), (9, .ref (u 6)), (10, .ref (u 9)), (11, .int (nI jp)), (12, .int (nI jv)), (13, .int (nI ((jt + 1) % N 2))), (14, .int (nI (i + 1)))]) hl [2, 3, 4, 5, 6, 7, 8, 9, 10, 11, 12, 13, 14, 1, 0] rfl
            exact z_widen (show 0 ≤ 0 by omega) (show 0 ≤ 0 by omega) (ih (i + 1) (by omega) (by omega) _ (by have := Nat.mod_lt (jt + 1) (show 0 < N 2 by omega); omega)  _ _ hP hD hS ls hl2)
          · skip
            have hjn : ¬ jt = N 2 := fun z => zc_4 (by rw [z])
            refine lv_aload hx hb dL_valves_666 (lv_at hl 4 rfl) ?_
            refine lv_aload hx hb dL_valves_668 (lv_at hl 10 rfl) ?_
            refine lv_iload hx hb dL_valves_670 (lv_at hl 13 rfl) ?_
            refine z_csi (va_Run.run (va_runS (As := [.ref (u 0), .ref (u 9), .int (nI jt)]) (rest := []) ⟨hx, hb, hml, hown, hts⟩ (c_L_hanger l G u E F N T (nI jt) hQ (vp_in_nI (by omega) (by omega))) (va_cwS 3 hts gL_valves_L_hanger rfl rfl rfl (by decide +kernel) ⟨Nat.le_of_ble_eq_true rfl, Nat.le_of_ble_eq_true rfl⟩) (z_ps hK (z_apL hP)) rfl rfl hl.1 rfl (lv_room (Nat.le_of_ble_eq_true rfl)) dL_valves_672 ⟨(show 0 + 0 ≤ 400 by omega), (show 0 + 0 ≤ 2400 by omega)⟩)) (fun zr_5 hzr_5 => ?_)
            subst hzr_5
            refine lv_if_ge (tgt := 695) hx hb dL_valves_675 (by decide) (fun zc_6 => ?_) (fun zc_6 => ?_)
            · skip
              have zd_6 := Int32.not_lt.mpr zc_6
              exact z_widen (show 0 ≤ 10 by omega) (show 0 ≤ 60 by omega) (vvalves_695 hst hx hb hr hml hown hts hlocks hK hZ hLx hA hC hR hJ hK5 hh9 hjp hjv (by omega) hP hD hS (lv_sub hl [0, 1, 2, 3, 4, 5, 6, 7, 8, 9, 10, 11, 12, 13] rfl))
            · skip
              have zd_6 := Int32.not_le.mp zc_6
              refine lv_iload hx hb dL_valves_678 (lv_at hl 13 rfl) ?_
              refine lv_iconst (v := 1) hx hb dL_valves_680 (by decide) ?_
              refine lv_iadd hx hb dL_valves_681 ?_
              refine W.eq (g2 := F0 m 682 ls [.int (nI (jt + 1))]) (by first | (rw [nI_1]; done) | (rw [nI_1]; rfl)) ?_
              refine lv_aload hx hb dL_valves_682 (lv_at hl 10 rfl) ?_
              refine lv_iconst (v := 5) hx hb dL_valves_684 (by decide) ?_
              refine va_iald hx hb hK (z_apL hP) 9 0 rfl rfl (vp_in_nI (n := 5) (by decide) (by decide)) dL_valves_685 ?_
              refine W.eq (g2 := F0 m 686 ls [.int (nI (N 2)), .int (nI (jt + 1))]) (by rw [show (F 9) (5 : Int32).toNatClampNeg = nI (N 2) from hg5]) ?_
              refine lv_irem hx hb dL_valves_686 (nI_ne0 (by omega) (by omega)) ?_
              refine W.eq (g2 := F0 m 687 ls [.int (nI ((jt + 1) % N 2))]) (by first | (rw [pk_rem (by omega) (by omega) (by omega)]; done) | (rw [pk_rem (by omega) (by omega) (by omega)]; rfl)) ?_
              refine lv_istore (lv' := [(13, .int (nI ((jt + 1) % N 2))), (0, .ref (r 0)), (1, .int act), (2, .int x), (3, .int y), (4, .ref (u 0)), (5, .ref (u 1)), (6, .ref (u 3)), (7, .ref (u 4)), (8, .ref (u 5)), (9, .ref (u 6)), (10, .ref (u 9)), (11, .int (nI jp)), (12, .int (nI jv)), (14, .int (nI i))]) hx hb dL_valves_687 hl (by decide) rfl (fun ls hl => ?_)
              refine lv_iinc (v := (nI (i + 1))) (lv' := [(14, .int (nI (i + 1))), (13, .int (nI ((jt + 1) % N 2))), (0, .ref (r 0)), (1, .int act), (2, .int x), (3, .int y), (4, .ref (u 0)), (5, .ref (u 1)), (6, .ref (u 3)), (7, .ref (u 4)), (8, .ref (u 5)), (9, .ref (u 6)), (10, .ref (u 9)), (11, .int (nI jp)), (12, .int (nI jv))]) hx hb dL_valves_689 hl (k := 14) rfl (by first | exact nI_1 _ | rfl) (by decide) rfl (fun ls hl => ?_)
              refine lv_goto (tgt := 640) hx hb dL_valves_692 (by decide) ?_
              have hl2 := lv_sub (l' := [(0, .ref (r 0)), (1, .int act), (2, .int x), (3, .int y), (4, .ref (u 0)), (5, .ref (u 1)), (6, .ref (u 3)), (7, .ref (u 4)), (8, .ref (u 5)), (9, .ref (u 6)), (10, .ref (u 9)), (11, .int (nI jp)), (12, .int (nI jv)), (13, .int (nI ((jt + 1) % N 2))), (14, .int (nI (i + 1)))]) hl [2, 3, 4, 5, 6, 7, 8, 9, 10, 11, 12, 13, 14, 1, 0] rfl
              exact z_widen (show 0 ≤ 0 by omega) (show 0 ≤ 0 by omega) (ih (i + 1) (by omega) (by omega) _ (by have := Nat.mod_lt (jt + 1) (show 0 < N 2 by omega); omega)  _ _ hP hD hS ls hl2)
  exact z_widen (show 0 ≤ 0 by omega) (show 0 ≤ 0 by omega) (key_640 (N 2 + 1) 0 (Nat.zero_le _) (by omega) jt hjt  _ _ hP hD hS ls (lv_sub hl [2, 3, 4, 5, 6, 7, 8, 9, 10, 11, 12, 13, 14, 1, 0] rfl))

set_option maxHeartbeats 4000000 in
set_option maxRecDepth 100000 in
theorem vvalves_971 {p : Program} {l : Launch} {e : Env} {s : State} {m : MethodId} {below : List Frame} {meth : Method} {c : Code} {G : zG} {d : Nat} {r u : Nat → Nat} {act x y : Int32} {Aw : Nat → Prop} (hst : l.stackTraces = false) (hx : p.tables.exec = Jvm.exec) (hb : c.code = cL_valves) (hr : meth.sig.returnType = some .boolean) (hml : c.maxLocals = 17) (hown : s.vm.findClass RL = some m.cls) (hts : ∀ w ∈ wsL_valves, w.before ([.ref (r 0), .int act, .int x, .int y, .ref (u 0), .ref (u 1), .ref (u 3), .ref (u 4), .ref (u 5), .ref (u 6), .ref (u 9)] : List Value).toArray s = true) (hlocks : meth.locks = false) (hK : va_K G.1 vwCl (zT G.2) s) (hZ : zCe Aw d s s.heap) (hLx : zLx s) (hA : ∀ q : Nat, s.heap.size ≤ q → Aw q) {A : Nat → Nat} {mc : Nat → Int32} {g : Nat → Nat → Int32} {N : Nat → Nat} {T : Nat → Nat → Int32} {w : va_W} {E : Nat → Int64} {F : Nat → Nat → Int32} {K : Nat} (hC : sCQ G d r A mc g N T w) (hR : sLR N T E F) (hJ : sLJ N T K) (hK5 : K ≤ 400) (hh9 : N 1 ≤ 90 ∧ N 0 ≤ 1900) {jp jv jw jl : Nat} (hjp : jp < 9) (hjv : jv < 8) (hjw : jw < 3) (hjl : jl < 1001) {H : Heap} {locs : List Loc} (hP : va_P G.1 vwCl (([(u 0, .inl (G.2 1, 64, .inr (.inl E))), (u 1, .inl (G.2 0, 8, .inl (F 1))), (u 2, .inl (G.2 0, 3, .inl (F 2))), (u 3, .inl (G.2 0, 3, .inl (F 3))), (u 4, .inl (G.2 0, 40, .inl (F 4))), (u 5, .inl (G.2 0, 40, .inl (F 5))), (u 6, .inl (G.2 0, 9, .inl (F 6))), (u 7, .inl (G.2 0, 12, .inl (F 7))), (u 8, .inl (G.2 0, 12, .inl (F 8))), (u 9, .inl (G.2 0, 10, .inl (F 9)))] : va_W) ++ w) H) (hD : va_D Aw (([(u 0, .inl (G.2 1, 64, .inr (.inl E))), (u 1, .inl (G.2 0, 8, .inl (F 1))), (u 2, .inl (G.2 0, 3, .inl (F 2))), (u 3, .inl (G.2 0, 3, .inl (F 3))), (u 4, .inl (G.2 0, 40, .inl (F 4))), (u 5, .inl (G.2 0, 40, .inl (F 5))), (u 6, .inl (G.2 0, 9, .inl (F 6))), (u 7, .inl (G.2 0, 12, .inl (F 7))), (u 8, .inl (G.2 0, 12, .inl (F 8))), (u 9, .inl (G.2 0, 10, .inl (F 9)))] : va_W) ++ w)) (hS : va_S Aw s.heap H locs) {ls : Array Slot} (hl : lv_has ls 17 [(0, .ref (r 0)), (1, .int act), (2, .int x), (3, .int y), (4, .ref (u 0)), (5, .ref (u 1)), (6, .ref (u 3)), (7, .ref (u 4)), (8, .ref (u 5)), (9, .ref (u 6)), (10, .ref (u 9)), (11, .int (nI jp)), (12, .int (nI jv)), (13, .int (nI jw)), (14, .int (nI jl))]) : W p l e (headSpec wsL_valves ({ frames := 9, cells := 400, slots := 2400, locals := 223 })).room s m ([.ref (r 0), .int act, .int x, .int y, .ref (u 0), .ref (u 1), .ref (u 3), .ref (u 4), .ref (u 5), .ref (u 6), .ref (u 9)] : List Value).toArray below meth c H locs 0 0 (MQ below (va_Qi (fun (r1 : Int32) (wz : va_W) => r1 = 1 ∧ ∃ (N2 : Nat → Nat) (T2 : Nat → Nat → Int32) (E2 : Nat → Int64) (F2 : Nat → Nat → Int32) (w2 : va_W), wz = LW G u E2 F2 ++ w2 ∧ sCO G d r N2 T2 w2 ∧ sLR N2 T2 E2 F2 ∧ sLJ N2 T2 (K + 2)) (zB G Aw) Aw) ([.ref (r 0), .int act, .int x, .int y, .ref (u 0), .ref (u 1), .ref (u 3), .ref (u 4), .ref (u 5), .ref (u 6), .ref (u 9)] : List Value).toArray s 400 2400 Aw) (F0 m 971 ls []) := by
  have hQ := hR.q hJ
  obtain ⟨hg0, hg1, hg2, hg3, hg4, hg5, hg6, hg7, hg8⟩ := hR.2.2.2.2.2.2.2.2.2
  obtain ⟨⟨hb1, hb0, hb3, hb4, hb5⟩, hlv, hlm, hLH⟩ := id hJ.2
  obtain ⟨⟨hi0, hi2, hi3, hi4, hi5, hi6, hi1⟩, hiB, hiE, hiT, hiA, hiA0, hiM, hiK, hiK0, hiX⟩ := id hJ.1.1
  have hLG := hJ.1.2
  have hS0z : va_S Aw s.heap s.heap [] := va_S.rf
  obtain ⟨bh, hbh⟩ : ∃ b : Bool, b = !decide (x &&& 1536 ≤ 512) := ⟨_, rfl⟩
  obtain ⟨bo, hbo⟩ : ∃ b : Bool, b = !decide (y &&& 16384 ≤ 0) := ⟨_, rfl⟩
  refine lv_iload_n hx hb dL_valves_971 rfl (lv_at hl 2 rfl) ?_
  refine lv_sipush (v := 1536) hx hb dL_valves_972 (by decide) ?_
  refine lv_iand hx hb dL_valves_975 ?_
  refine lv_sipush (v := 512) hx hb dL_valves_976 (by decide) ?_
  have cut_987 : W p l e (headSpec wsL_valves ({ frames := 9, cells := 400, slots := 2400, locals := 223 })).room s m ([.ref (r 0), .int act, .int x, .int y, .ref (u 0), .ref (u 1), .ref (u 3), .ref (u 4), .ref (u 5), .ref (u 6), .ref (u 9)] : List Value).toArray below meth c H locs (0) (0) (MQ below (va_Qi (fun (r1 : Int32) (wz : va_W) => r1 = 1 ∧ ∃ (N2 : Nat → Nat) (T2 : Nat → Nat → Int32) (E2 : Nat → Int64) (F2 : Nat → Nat → Int32) (w2 : va_W), wz = LW G u E2 F2 ++ w2 ∧ sCO G d r N2 T2 w2 ∧ sLR N2 T2 E2 F2 ∧ sLJ N2 T2 (K + 2)) (zB G Aw) Aw) ([.ref (r 0), .int act, .int x, .int y, .ref (u 0), .ref (u 1), .ref (u 3), .ref (u 4), .ref (u 5), .ref (u 6), .ref (u 9)] : List Value).toArray s 400 2400 Aw) (F0 m 987 ls [.int (zb bh)]) := by
    refine lv_istore (lv' := [(15, .int (zb bh)), (0, .ref (r 0)), (1, .int act), (2, .int x), (3, .int y), (4, .ref (u 0)), (5, .ref (u 1)), (6, .ref (u 3)), (7, .ref (u 4)), (8, .ref (u 5)), (9, .ref (u 6)), (10, .ref (u 9)), (11, .int (nI jp)), (12, .int (nI jv)), (13, .int (nI jw)), (14, .int (nI jl))]) hx hb dL_valves_987 hl (by decide) rfl (fun ls hl => ?_)
    refine lv_iload_n hx hb dL_valves_989 rfl (lv_at hl 4 rfl) ?_
    refine lv_sipush (v := 16384) hx hb dL_valves_990 (by decide) ?_
    refine lv_iand hx hb dL_valves_993 ?_
    have cut_1002 : W p l e (headSpec wsL_valves ({ frames := 9, cells := 400, slots := 2400, locals := 223 })).room s m ([.ref (r 0), .int act, .int x, .int y, .ref (u 0), .ref (u 1), .ref (u 3), .ref (u 4), .ref (u 5), .ref (u 6), .ref (u 9)] : List Value).toArray below meth c H locs (0) (0) (MQ below (va_Qi (fun (r1 : Int32) (wz : va_W) => r1 = 1 ∧ ∃ (N2 : Nat → Nat) (T2 : Nat → Nat → Int32) (E2 : Nat → Int64) (F2 : Nat → Nat → Int32) (w2 : va_W), wz = LW G u E2 F2 ++ w2 ∧ sCO G d r N2 T2 w2 ∧ sLR N2 T2 E2 F2 ∧ sLJ N2 T2 (K + 2)) (zB G Aw) Aw) ([.ref (r 0), .int act, .int x, .int y, .ref (u 0), .ref (u 1), .ref (u 3), .ref (u 4), .ref (u 5), .ref (u 6), .ref (u 9)] : List Value).toArray s 400 2400 Aw) (F0 m 1002 ls [.int (zb bo)]) := by
      refine lv_istore (lv' := [(16, .int (zb bo)), (15, .int (zb bh)), (0, .ref (r 0)), (1, .int act), (2, .int x), (3, .int y), (4, .ref (u 0)), (5, .ref (u 1)), (6, .ref (u 3)), (7, .ref (u 4)), (8, .ref (u 5)), (9, .ref (u 6)), (10, .ref (u 9)), (11, .int (nI jp)), (12, .int (nI jv)), (13, .int (nI jw)), (14, .int (nI jl))]) hx hb dL_valves_1002 hl (by decide) rfl (fun ls hl => ?_)
      refine lv_aload_n hx hb dL_valves_1004 rfl (lv_at hl 2 rfl) ?_
      refine lv_iconst (v := 3) hx hb dL_valves_1005 (by decide) ?_
      refine lv_iconst (v := 0) hx hb dL_valves_1006 (by decide) ?_
      refine lv_iload hx hb dL_valves_1007 (lv_at hl 1 rfl) ?_
      refine lv_iconst (v := 0) hx hb dL_valves_1009 (by decide) ?_
      refine lv_iload hx hb dL_valves_1010 (lv_at hl 0 rfl) ?_
      have hkz_1012 : sK3 ((sIx (3 : Int32) 3) && (sIx (0 : Int32) 8)) (sIn (0 : Int32) 0 1000) (!decide (N 3 = 10)) = 1 := (sK3_1' (sAnd_l (show sIx (3 : Int32) 3 = false from by decide)))
      refine z_xR (G := G) (w := w) (c2 := 8) (s2 := 200) (vx_runSX (hh := [(0, 13, 16, 14), (0, 13, 22, 16), (0, 13, 28, 18)]) (As := [.ref (r 0), .int 3, .int 0, .int (zb bh), .int 0, .int (zb bo)]) (rest := []) ⟨hx, hb, hml, hown, hts⟩ (h_alarm l hst G d r A mc g N T w K (3 : Int32) (0 : Int32) bh (0 : Int32) bo H.size hC hJ.1.1 (by omega) ) (vx_cwSW 6 hts gL_valves_L_alarm rfl rfl rfl (by decide +kernel) ⟨Nat.le_of_ble_eq_true rfl, Nat.le_of_ble_eq_true rfl⟩) (z_hs hK (z_apR hP) (z_dR hD) hZ hLx hS hA) rfl rfl hl.1 rfl (lv_room (Nat.le_of_ble_eq_true rfl)) dL_valves_1012 ⟨(show 0 + 8 ≤ 400 by omega), (show 0 + 200 ≤ 2400 by omega)⟩) hP hD hS hA (show 0 + 8 ≤ 8 by omega) (show 0 + 200 ≤ 200 by omega) (fun rz_1 zw_1 Hz Lz hq hP hD hS => ?_)
      obtain ⟨hr9, hw9⟩ := hq.2 (by rw [hkz_1012]; decide)
      rw [hw9] at hP hD
      rw [hr9, show zCx [-7100, -7200, -7300] (sK3 ((sIx (3 : Int32) 3) && (sIx (0 : Int32) 8)) (sIn (0 : Int32) 0 1000) (!decide (N 3 = 10))) = (-7100) from by rw [hkz_1012]; rfl]
      refine lv_sipush (v := (-7100)) hx hb dL_valves_1015 (by decide) ?_
      refine lv_icmp_ne (tgt := 1079) hx hb dL_valves_1018 (by decide) (fun zc_2 => absurd zc_2 (by decide)) (fun _ => ?_)
      refine lv_aload_n hx hb dL_valves_1021 rfl (lv_at hl 2 rfl) ?_
      refine lv_iconst (v := 0) hx hb dL_valves_1022 (by decide) ?_
      refine lv_iconst (v := (-1)) hx hb dL_valves_1023 (by decide) ?_
      refine lv_iload hx hb dL_valves_1024 (lv_at hl 1 rfl) ?_
      refine lv_bipush (v := 8) hx hb dL_valves_1026 (by decide) ?_
      refine lv_iload hx hb dL_valves_1028 (lv_at hl 0 rfl) ?_
      have hkz_1030 : sK3 ((sIx (0 : Int32) 3) && (sIx (8 : Int32) 8)) (sIn (-1 : Int32) 0 1000) (!decide (N 3 = 10)) = 1 := (sK3_1' (sAnd_r (show sIx (8 : Int32) 8 = false from by decide)))
      refine z_xR (G := G) (w := w) (c2 := 16) (s2 := 400) (vx_runSX (hh := [(0, 13, 16, 14), (0, 13, 22, 16), (0, 13, 28, 18)]) (As := [.ref (r 0), .int 0, .int (-1), .int (zb bh), .int 8, .int (zb bo)]) (rest := []) ⟨hx, hb, hml, hown, hts⟩ (h_alarm l hst G d r A mc g N T w K (0 : Int32) (-1 : Int32) bh (8 : Int32) bo Hz.size hC hJ.1.1 (by omega) ) (vx_cwSW 6 hts gL_valves_L_alarm rfl rfl rfl (by decide +kernel) ⟨Nat.le_of_ble_eq_true rfl, Nat.le_of_ble_eq_true rfl⟩) (z_hs hK (z_apR hP) (z_dR hD) hZ hLx hS hA) rfl rfl hl.1 rfl (lv_room (Nat.le_of_ble_eq_true rfl)) dL_valves_1030 ⟨(show 8 + 8 ≤ 400 by omega), (show 200 + 200 ≤ 2400 by omega)⟩) hP hD hS hA (show 8 + 8 ≤ 16 by omega) (show 200 + 200 ≤ 400 by omega) (fun rz_3 zw_3 Hz Lz hq hP hD hS => ?_)
      obtain ⟨hr9, hw9⟩ := hq.2 (by rw [hkz_1030]; decide)
      rw [hw9] at hP hD
      rw [hr9, show zCx [-7100, -7200, -7300] (sK3 ((sIx (0 : Int32) 3) && (sIx (8 : Int32) 8)) (sIn (-1 : Int32) 0 1000) (!decide (N 3 = 10))) = (-7100) from by rw [hkz_1030]; rfl]
      refine lv_sipush (v := (-7100)) hx hb dL_valves_1033 (by decide) ?_
      refine lv_icmp_ne (tgt := 1079) hx hb dL_valves_1036 (by decide) (fun zc_4 => absurd zc_4 (by decide)) (fun _ => ?_)
      refine lv_aload_n hx hb dL_valves_1039 rfl (lv_at hl 2 rfl) ?_
      refine lv_iload hx hb dL_valves_1040 (lv_at hl 15 rfl) ?_
      refine lv_iconst (v := (-1)) hx hb dL_valves_1042 (by decide) ?_
      refine lv_iload hx hb dL_valves_1043 (lv_at hl 1 rfl) ?_
      refine lv_iload hx hb dL_valves_1045 (lv_at hl 14 rfl) ?_
      refine lv_iload hx hb dL_valves_1047 (lv_at hl 0 rfl) ?_
      have hkz_1049 : sK3 ((sIx (nI jw) 3) && (sIx (nI jv) 8)) (sIn (-1 : Int32) 0 1000) (!decide (N 3 = 10)) = 2 := (sK3_2' (sAnd_y (sIx_y hjw (by omega)) (sIx_y hjv (by omega))) (by decide))
      refine z_xR (G := G) (w := w) (c2 := 24) (s2 := 600) (vx_runSX (hh := [(0, 13, 16, 14), (0, 13, 22, 16), (0, 13, 28, 18)]) (As := [.ref (r 0), .int (nI jw), .int (-1), .int (zb bh), .int (nI jv), .int (zb bo)]) (rest := []) ⟨hx, hb, hml, hown, hts⟩ (h_alarm l hst G d r A mc g N T w K (nI jw) (-1 : Int32) bh (nI jv) bo Hz.size hC hJ.1.1 (by omega) ) (vx_cwSW 6 hts gL_valves_L_alarm rfl rfl rfl (by decide +kernel) ⟨Nat.le_of_ble_eq_true rfl, Nat.le_of_ble_eq_true rfl⟩) (z_hs hK (z_apR hP) (z_dR hD) hZ hLx hS hA) rfl rfl hl.1 rfl (lv_room (Nat.le_of_ble_eq_true rfl)) dL_valves_1049 ⟨(show 16 + 8 ≤ 400 by omega), (show 400 + 200 ≤ 2400 by omega)⟩) hP hD hS hA (show 16 + 8 ≤ 24 by omega) (show 400 + 200 ≤ 600 by omega) (fun rz_5 zw_5 Hz Lz hq hP hD hS => ?_)
      obtain ⟨hr9, hw9⟩ := hq.2 (by rw [hkz_1049]; decide)
      rw [hw9] at hP hD
      rw [hr9, show zCx [-7100, -7200, -7300] (sK3 ((sIx (nI jw) 3) && (sIx (nI jv) 8)) (sIn (-1 : Int32) 0 1000) (!decide (N 3 = 10))) = (-7200) from by rw [hkz_1049]; rfl]
      refine lv_sipush (v := (-7200)) hx hb dL_valves_1052 (by decide) ?_
      refine lv_icmp_ne (tgt := 1079) hx hb dL_valves_1055 (by decide) (fun zc_6 => absurd zc_6 (by decide)) (fun _ => ?_)
      refine lv_aload_n hx hb dL_valves_1058 rfl (lv_at hl 2 rfl) ?_
      refine lv_iload hx hb dL_valves_1059 (lv_at hl 15 rfl) ?_
      refine lv_sipush (v := 1001) hx hb dL_valves_1061 (by decide) ?_
      refine lv_iload hx hb dL_valves_1064 (lv_at hl 1 rfl) ?_
      refine lv_iload hx hb dL_valves_1066 (lv_at hl 14 rfl) ?_
      refine lv_iload hx hb dL_valves_1068 (lv_at hl 0 rfl) ?_
      have hkz_1070 : sK3 ((sIx (nI jw) 3) && (sIx (nI jv) 8)) (sIn (1001 : Int32) 0 1000) (!decide (N 3 = 10)) = 2 := (sK3_2' (sAnd_y (sIx_y hjw (by omega)) (sIx_y hjv (by omega))) (by decide))
      refine z_xR (G := G) (w := w) (c2 := 32) (s2 := 800) (vx_runSX (hh := [(0, 13, 16, 14), (0, 13, 22, 16), (0, 13, 28, 18)]) (As := [.ref (r 0), .int (nI jw), .int 1001, .int (zb bh), .int (nI jv), .int (zb bo)]) (rest := []) ⟨hx, hb, hml, hown, hts⟩ (h_alarm l hst G d r A mc g N T w K (nI jw) (1001 : Int32) bh (nI jv) bo Hz.size hC hJ.1.1 (by omega) ) (vx_cwSW 6 hts gL_valves_L_alarm rfl rfl rfl (by decide +kernel) ⟨Nat.le_of_ble_eq_true rfl, Nat.le_of_ble_eq_true rfl⟩) (z_hs hK (z_apR hP) (z_dR hD) hZ hLx hS hA) rfl rfl hl.1 rfl (lv_room (Nat.le_of_ble_eq_true rfl)) dL_valves_1070 ⟨(show 24 + 8 ≤ 400 by omega), (show 600 + 200 ≤ 2400 by omega)⟩) hP hD hS hA (show 24 + 8 ≤ 32 by omega) (show 600 + 200 ≤ 800 by omega) (fun rz_7 zw_7 Hz Lz hq hP hD hS => ?_)
      obtain ⟨hr9, hw9⟩ := hq.2 (by rw [hkz_1070]; decide)
      rw [hw9] at hP hD
      rw [hr9, show zCx [-7100, -7200, -7300] (sK3 ((sIx (nI jw) 3) && (sIx (nI jv) 8)) (sIn (1001 : Int32) 0 1000) (!decide (N 3 = 10))) = (-7200) from by rw [hkz_1070]; rfl]
      refine lv_sipush (v := (-7200)) hx hb dL_valves_1073 (by decide) ?_
      refine lv_icmp_eq (tgt := 1081) hx hb dL_valves_1076 (by decide) (fun _ => ?_) (fun zc_8 => absurd zc_8 (by decide))
      refine lv_aload hx hb dL_valves_1081 (lv_at hl 12 rfl) ?_
      refine lv_iconst (v := 4) hx hb dL_valves_1083 (by decide) ?_
      refine va_iald hx hb hK (z_apL hP) 9 0 rfl rfl (vp_in_nI (n := 4) (by decide) (by decide)) dL_valves_1084 ?_
      refine W.eq (g2 := F0 m 1085 ls [.int (nI (N 3))]) (by rw [show (F 9) (4 : Int32).toNatClampNeg = nI (N 3) from hg4]) ?_
      refine lv_iconst (v := 3) hx hb dL_valves_1085 (by decide) ?_
      refine lv_icmp_ne (tgt := 1106) hx hb dL_valves_1086 (by decide) (fun zc_9 => ?_) (fun zc_9 => ?_)
      · skip
        have h33 : N 3 < 3 := by have hz9 : ¬ N 3 = 3 := (fun z => zc_9 (by rw [z]; rfl)); omega
        refine lv_aload hx hb dL_valves_1106 (lv_at hl 8 rfl) ?_
        refine lv_aload hx hb dL_valves_1108 (lv_at hl 12 rfl) ?_
        refine lv_iconst (v := 4) hx hb dL_valves_1110 (by decide) ?_
        refine va_iald hx hb hK (z_apL hP) 9 0 rfl rfl (vp_in_nI (n := 4) (by decide) (by decide)) dL_valves_1111 ?_
        refine W.eq (g2 := F0 m 1112 ls [.int (nI (N 3)), .ref (u 3)]) (by rw [show (F 9) (4 : Int32).toNatClampNeg = nI (N 3) from hg4]) ?_
        refine lv_iload hx hb dL_valves_1112 (lv_at hl 15 rfl) ?_
        have cut_1124 : W p l e (headSpec wsL_valves ({ frames := 9, cells := 400, slots := 2400, locals := 223 })).room s m ([.ref (r 0), .int act, .int x, .int y, .ref (u 0), .ref (u 1), .ref (u 3), .ref (u 4), .ref (u 5), .ref (u 6), .ref (u 9)] : List Value).toArray below meth c Hz Lz (32) (800) (MQ below (va_Qi (fun (r1 : Int32) (wz : va_W) => r1 = 1 ∧ ∃ (N2 : Nat → Nat) (T2 : Nat → Nat → Int32) (E2 : Nat → Int64) (F2 : Nat → Nat → Int32) (w2 : va_W), wz = LW G u E2 F2 ++ w2 ∧ sCO G d r N2 T2 w2 ∧ sLR N2 T2 E2 F2 ∧ sLJ N2 T2 (K + 2)) (zB G Aw) Aw) ([.ref (r 0), .int act, .int x, .int y, .ref (u 0), .ref (u 1), .ref (u 3), .ref (u 4), .ref (u 5), .ref (u 6), .ref (u 9)] : List Value).toArray s 400 2400 Aw) (F0 m 1124 ls [.int (if zb bh = 0 then (0 : Int32) else 4), .int (nI jw), .int (nI (N 3)), .ref (u 3)]) := by
          refine lv_iadd hx hb dL_valves_1124 ?_
          refine lv_bipush (v := 8) hx hb dL_valves_1125 (by decide) ?_
          refine lv_iload hx hb dL_valves_1127 (lv_at hl 14 rfl) ?_
          refine lv_imul hx hb dL_valves_1129 ?_
          refine lv_iadd hx hb dL_valves_1130 ?_
          have cut_1142 : W p l e (headSpec wsL_valves ({ frames := 9, cells := 400, slots := 2400, locals := 223 })).room s m ([.ref (r 0), .int act, .int x, .int y, .ref (u 0), .ref (u 1), .ref (u 3), .ref (u 4), .ref (u 5), .ref (u 6), .ref (u 9)] : List Value).toArray below meth c Hz Lz (32) (800) (MQ below (va_Qi (fun (r1 : Int32) (wz : va_W) => r1 = 1 ∧ ∃ (N2 : Nat → Nat) (T2 : Nat → Nat → Int32) (E2 : Nat → Int64) (F2 : Nat → Nat → Int32) (w2 : va_W), wz = LW G u E2 F2 ++ w2 ∧ sCO G d r N2 T2 w2 ∧ sLR N2 T2 E2 F2 ∧ sLJ N2 T2 (K + 2)) (zB G Aw) Aw) ([.ref (r 0), .int act, .int x, .int y, .ref (u 0), .ref (u 1), .ref (u 3), .ref (u 4), .ref (u 5), .ref (u 6), .ref (u 9)] : List Value).toArray s 400 2400 Aw) (F0 m 1142 ls [.int (if zb bo = 0 then (0 : Int32) else 64), .int (((nI jw) + (if zb bh = 0 then (0 : Int32) else 4)) + (8 * (nI jv))), .int (nI (N 3)), .ref (u 3)]) := by
            refine lv_iadd hx hb dL_valves_1142 ?_
            refine lv_sipush (v := 128) hx hb dL_valves_1143 (by decide) ?_
            refine lv_iload hx hb dL_valves_1146 (lv_at hl 16 rfl) ?_
            refine lv_imul hx hb dL_valves_1148 ?_
            refine lv_iadd hx hb dL_valves_1149 ?_
            refine va_iast hx hb hK hP hD hS 3 0 rfl rfl (vp_in_nI (by omega) (by omega)) dL_valves_1150 (fun Hz Lz hP hD hS => ?_)
            rw [nI_clamp (by omega)] at hP hD
            have hP : va_P G.1 vwCl (([(u 0, .inl (G.2 1, 64, .inr (.inl E))), (u 1, .inl (G.2 0, 8, .inl (F 1))), (u 2, .inl (G.2 0, 3, .inl (F 2))), (u 3, .inl (G.2 0, 3, .inl (upd (F 3) (N 3) (((((nI jw) + (if zb bh = 0 then (0 : Int32) else 4)) + (8 * (nI jv))) + (if zb bo = 0 then (0 : Int32) else 64)) + (128 * (nI jl)))))), (u 4, .inl (G.2 0, 40, .inl (F 4))), (u 5, .inl (G.2 0, 40, .inl (F 5))), (u 6, .inl (G.2 0, 9, .inl (F 6))), (u 7, .inl (G.2 0, 12, .inl (F 7))), (u 8, .inl (G.2 0, 12, .inl (F 8))), (u 9, .inl (G.2 0, 10, .inl (F 9)))] : va_W) ++ w) Hz := hP
            have hD : va_D Aw (([(u 0, .inl (G.2 1, 64, .inr (.inl E))), (u 1, .inl (G.2 0, 8, .inl (F 1))), (u 2, .inl (G.2 0, 3, .inl (F 2))), (u 3, .inl (G.2 0, 3, .inl (upd (F 3) (N 3) (((((nI jw) + (if zb bh = 0 then (0 : Int32) else 4)) + (8 * (nI jv))) + (if zb bo = 0 then (0 : Int32) else 64)) + (128 * (nI jl)))))), (u 4, .inl (G.2 0, 40, .inl (F 4))), (u 5, .inl (G.2 0, 40, .inl (F 5))), (u 6, .inl (G.2 0, 9, .inl (F 6))), (u 7, .inl (G.2 0, 12, .inl (F 7))), (u 8, .inl (G.2 0, 12, .inl (F 8))), (u 9, .inl (G.2 0, 10, .inl (F 9)))] : va_W) ++ w) := hD
            refine lv_aload hx hb dL_valves_1151 (lv_at hl 12 rfl) ?_
            refine lv_iconst (v := 4) hx hb dL_valves_1153 (by decide) ?_
            refine lv_dup2_11 hx hb dL_valves_1154 rfl rfl ?_
            refine va_iald hx hb hK (z_apL hP) 9 0 rfl rfl (vp_in_nI (n := 4) (by decide) (by decide)) dL_valves_1155 ?_
            refine W.eq (g2 := F0 m 1156 ls [.int (nI (N 3)), .int 4, .ref (u 9)]) (by rw [show (F 9) (4 : Int32).toNatClampNeg = nI (N 3) from hg4]) ?_
            refine lv_iconst (v := 1) hx hb dL_valves_1156 (by decide) ?_
            refine lv_iadd hx hb dL_valves_1157 ?_
            refine W.eq (g2 := F0 m 1158 ls [.int (nI (N 3 + 1)), .int 4, .ref (u 9)]) (by first | (rw [nI_1]; done) | (rw [nI_1]; rfl)) ?_
            refine va_iast hx hb hK hP hD hS 9 0 rfl rfl (vp_in_nI (n := 4) (by decide) (by decide)) dL_valves_1158 (fun Hz Lz hP hD hS => ?_)
            have hP : va_P G.1 vwCl (([(u 0, .inl (G.2 1, 64, .inr (.inl E))), (u 1, .inl (G.2 0, 8, .inl (F 1))), (u 2, .inl (G.2 0, 3, .inl (F 2))), (u 3, .inl (G.2 0, 3, .inl (upd (F 3) (N 3) (((((nI jw) + (if zb bh = 0 then (0 : Int32) else 4)) + (8 * (nI jv))) + (if zb bo = 0 then (0 : Int32) else 64)) + (128 * (nI jl)))))), (u 4, .inl (G.2 0, 40, .inl (F 4))), (u 5, .inl (G.2 0, 40, .inl (F 5))), (u 6, .inl (G.2 0, 9, .inl (F 6))), (u 7, .inl (G.2 0, 12, .inl (F 7))), (u 8, .inl (G.2 0, 12, .inl (F 8))), (u 9, .inl (G.2 0, 10, .inl (upd (F 9) 4 (nI (N 3 + 1)))))] : va_W) ++ w) Hz := hP
            have hD : va_D Aw (([(u 0, .inl (G.2 1, 64, .inr (.inl E))), (u 1, .inl (G.2 0, 8, .inl (F 1))), (u 2, .inl (G.2 0, 3, .inl (F 2))), (u 3, .inl (G.2 0, 3, .inl (upd (F 3) (N 3) (((((nI jw) + (if zb bh = 0 then (0 : Int32) else 4)) + (8 * (nI jv))) + (if zb bo = 0 then (0 : Int32) else 64)) + (128 * (nI jl)))))), (u 4, .inl (G.2 0, 40, .inl (F 4))), (u 5, .inl (G.2 0, 40, .inl (F 5))), (u 6, .inl (G.2 0, 9, .inl (F 6))), (u 7, .inl (G.2 0, 12, .inl (F 7))), (u 8, .inl (G.2 0, 12, .inl (F 8))), (u 9, .inl (G.2 0, 10, .inl (upd (F 9) 4 (nI (N 3 + 1)))))] : va_W) ++ w) := hD
            have hRn := sLR_alarm (x := nI jw) (f := nI jl) (v := nI jv) (b := bh) (o := bo) hR (hiA0 (N 3) (Nat.le_refl _))
            have hP : va_P G.1 vwCl (([(u 0, .inl (G.2 1, 64, .inr (.inl E))), (u 1, .inl (G.2 0, 8, .inl (F 1))), (u 2, .inl (G.2 0, 3, .inl (F 2))), (u 3, .inl (G.2 0, 3, .inl (upd (F 3) (N 3) (nI jw + (if zb bh = 0 then (0 : Int32) else 4) + 8 * nI jv + (if zb bo = 0 then (0 : Int32) else 64) + 128 * nI jl)))), (u 4, .inl (G.2 0, 40, .inl (F 4))), (u 5, .inl (G.2 0, 40, .inl (F 5))), (u 6, .inl (G.2 0, 9, .inl (F 6))), (u 7, .inl (G.2 0, 12, .inl (F 7))), (u 8, .inl (G.2 0, 12, .inl (F 8))), (u 9, .inl (G.2 0, 10, .inl (upd (F 9) 4 (nI (N 3 + 1)))))] : va_W) ++ w) Hz := hP
            have hD : va_D Aw (([(u 0, .inl (G.2 1, 64, .inr (.inl E))), (u 1, .inl (G.2 0, 8, .inl (F 1))), (u 2, .inl (G.2 0, 3, .inl (F 2))), (u 3, .inl (G.2 0, 3, .inl (upd (F 3) (N 3) (nI jw + (if zb bh = 0 then (0 : Int32) else 4) + 8 * nI jv + (if zb bo = 0 then (0 : Int32) else 64) + 128 * nI jl)))), (u 4, .inl (G.2 0, 40, .inl (F 4))), (u 5, .inl (G.2 0, 40, .inl (F 5))), (u 6, .inl (G.2 0, 9, .inl (F 6))), (u 7, .inl (G.2 0, 12, .inl (F 7))), (u 8, .inl (G.2 0, 12, .inl (F 8))), (u 9, .inl (G.2 0, 10, .inl (upd (F 9) 4 (nI (N 3 + 1)))))] : va_W) ++ w) := hD
            refine lv_aload_n hx hb dL_valves_1159 rfl (lv_at hl 2 rfl) ?_
            refine lv_iload hx hb dL_valves_1160 (lv_at hl 15 rfl) ?_
            refine lv_iload hx hb dL_valves_1162 (lv_at hl 16 rfl) ?_
            refine lv_iload hx hb dL_valves_1164 (lv_at hl 1 rfl) ?_
            refine lv_iload hx hb dL_valves_1166 (lv_at hl 14 rfl) ?_
            refine lv_iload hx hb dL_valves_1168 (lv_at hl 0 rfl) ?_
            have hkz_1170 : sK3 ((sIx (nI jw) 3) && (sIx (nI jv) 8)) (sIn (nI jl) 0 1000) (!decide (N 3 = 10)) = 0 := (sK3_ok (sAnd_y (sIx_y hjw (by omega)) (sIx_y hjv (by omega))) (show sIn (nI jl) 0 1000 = true from by rw [sIn_lit (k := 1000) (by decide)]; exact sIx_y hjl (by omega)) (by simp; omega))
            refine z_xR (G := G) (w := w) (c2 := 40) (s2 := 1000) (vx_runSX (hh := [(0, 13, 16, 14), (0, 13, 22, 16), (0, 13, 28, 18)]) (As := [.ref (r 0), .int (nI jw), .int (nI jl), .int (zb bh), .int (nI jv), .int (zb bo)]) (rest := []) ⟨hx, hb, hml, hown, hts⟩ (h_alarm l hst G d r A mc g N T w K (nI jw) (nI jl) bh (nI jv) bo Hz.size hC hJ.1.1 (by omega) ) (vx_cwSW 6 hts gL_valves_L_alarm rfl rfl rfl (by decide +kernel) ⟨Nat.le_of_ble_eq_true rfl, Nat.le_of_ble_eq_true rfl⟩) (z_hs hK (z_apR hP) (z_dR hD) hZ hLx hS hA) rfl rfl hl.1 rfl (lv_room (Nat.le_of_ble_eq_true rfl)) dL_valves_1170 ⟨(show 32 + 8 ≤ 400 by omega), (show 800 + 200 ≤ 2400 by omega)⟩) hP hD hS hA (show 32 + 8 ≤ 40 by omega) (show 800 + 200 ≤ 1000 by omega) (fun rz_10 zw_10 Hz Lz hq hP hD hS => ?_)
            obtain ⟨hr9, A, mc, g, hC⟩ := hq.1 hkz_1170
            rw [hr9]
            refine lv_aload hx hb dL_valves_1173 (lv_at hl 12 rfl) ?_
            refine lv_iconst (v := 4) hx hb dL_valves_1175 (by decide) ?_
            refine va_iald hx hb hK (z_apL hP) 9 0 rfl rfl (vp_in_nI (n := 4) (by decide) (by decide)) dL_valves_1176 ?_
            refine W.eq (g2 := F0 m 1177 ls [.int (nI (N 3 + 1)), .int (nI (N 3))]) (by rw [show (upd (F 9) 4 (nI (N 3 + 1))) (4 : Int32).toNatClampNeg = nI (N 3 + 1) from rfl]) ?_
            refine lv_iconst (v := 1) hx hb dL_valves_1177 (by decide) ?_
            refine lv_isub hx hb dL_valves_1178 ?_
            refine W.eq (g2 := F0 m 1179 ls [.int (nI (N 3)), .int (nI (N 3))]) (by first | (rw [nI_pred]; done) | (rw [nI_pred]; rfl)) ?_
            refine lv_icmp_ne (tgt := 1186) hx hb dL_valves_1179 (by decide) (fun zc_11 => absurd rfl zc_11) (fun _ => ?_)
            refine lv_iconst (v := 1) hx hb dL_valves_1182 (by decide) ?_
            refine lv_goto (tgt := 1187) hx hb dL_valves_1183 (by decide) ?_
            exact z_widen (k := 400) (n := 2400) (show 40 ≤ 400 by omega) (show 1000 ≤ 2400 by omega) (W.zret (v := 1) hx hb hr rfl (fun t ht hW => ⟨⟨1, (([(u 0, .inl (G.2 1, 64, .inr (.inl E))), (u 1, .inl (G.2 0, 8, .inl (F 1))), (u 2, .inl (G.2 0, 3, .inl (F 2))), (u 3, .inl (G.2 0, 3, .inl (upd (F 3) (N 3) (nI jw + (if zb bh = 0 then (0 : Int32) else 4) + 8 * nI jv + (if zb bo = 0 then (0 : Int32) else 64) + 128 * nI jl)))), (u 4, .inl (G.2 0, 40, .inl (F 4))), (u 5, .inl (G.2 0, 40, .inl (F 5))), (u 6, .inl (G.2 0, 9, .inl (F 6))), (u 7, .inl (G.2 0, 12, .inl (F 7))), (u 8, .inl (G.2 0, 12, .inl (F 8))), (u 9, .inl (G.2 0, 10, .inl (upd (F 9) 4 (nI (N 3 + 1)))))] : va_W) ++ zw_10), rfl, ⟨rfl, ((nAlarm N T (nI jw) (nI jl) bh (nI jv) bo).1), ((nAlarm N T (nI jw) (nI jl) bh (nI jv) bo).2), E, (va_up (va_up F 3 (upd (F 3) (N 3) (nI jw + (if zb bh = 0 then (0 : Int32) else 4) + 8 * nI jv + (if zb bo = 0 then (0 : Int32) else 64) + 128 * nI jl))) 9 (upd (F 9) 4 (nI (N 3 + 1)))), zw_10, rfl, ⟨A, mc, g, hC⟩, hRn, ((sLJ_alarm hJ h33 ⟨jl, by omega, rfl⟩ hkz_1170).mono (by omega))⟩, ⟨by rw [ht]; exact hP, hD⟩⟩, hS.F ht⟩) hS.2.2 dL_valves_1187 hlocks)
          refine lv_iload hx hb dL_valves_1131 (lv_at hl 0 rfl) ?_
          refine lv_if_eq (tgt := 1141) hx hb dL_valves_1133 (by decide) (fun zc_12 => ?_) (fun zc_12 => ?_)
          · skip
            have zc_12 := zb_0.mp zc_12
            refine lv_iconst (v := 0) hx hb dL_valves_1141 (by decide) ?_
            exact W.eq (congrArg (fun z : Int32 => F0 m 1142 ls [.int z, .int (((nI jw) + (if zb bh = 0 then (0 : Int32) else 4)) + (8 * (nI jv))), .int (nI (N 3)), .ref (u 3)]) (show (0 : Int32) = (if zb bo = 0 then (0 : Int32) else 64) from (by simp [zb, zc_12]))) cut_1142
          · skip
            have zc_12 := zb_n0 zc_12
            refine lv_bipush (v := 64) hx hb dL_valves_1136 (by decide) ?_
            refine lv_goto (tgt := 1142) hx hb dL_valves_1138 (by decide) ?_
            exact W.eq (congrArg (fun z : Int32 => F0 m 1142 ls [.int z, .int (((nI jw) + (if zb bh = 0 then (0 : Int32) else 4)) + (8 * (nI jv))), .int (nI (N 3)), .ref (u 3)]) (show (64 : Int32) = (if zb bo = 0 then (0 : Int32) else 64) from (by simp [zb, zc_12]))) cut_1142
        refine lv_iload hx hb dL_valves_1114 (lv_at hl 1 rfl) ?_
        refine lv_if_eq (tgt := 1123) hx hb dL_valves_1116 (by decide) (fun zc_13 => ?_) (fun zc_13 => ?_)
        · skip
          have zc_13 := zb_0.mp zc_13
          refine lv_iconst (v := 0) hx hb dL_valves_1123 (by decide) ?_
          exact W.eq (congrArg (fun z : Int32 => F0 m 1124 ls [.int z, .int (nI jw), .int (nI (N 3)), .ref (u 3)]) (show (0 : Int32) = (if zb bh = 0 then (0 : Int32) else 4) from (by simp [zb, zc_13]))) cut_1124
        · skip
          have zc_13 := zb_n0 zc_13
          refine lv_iconst (v := 4) hx hb dL_valves_1119 (by decide) ?_
          refine lv_goto (tgt := 1124) hx hb dL_valves_1120 (by decide) ?_
          exact W.eq (congrArg (fun z : Int32 => F0 m 1124 ls [.int z, .int (nI jw), .int (nI (N 3)), .ref (u 3)]) (show (4 : Int32) = (if zb bh = 0 then (0 : Int32) else 4) from (by simp [zb, zc_13]))) cut_1124
      · skip
        have h33 : N 3 = 3 := (nI_eq (b := 3) (by omega) (by omega)).mp zc_9
        refine lv_aload_n hx hb dL_valves_1089 rfl (lv_at hl 2 rfl) ?_
        refine lv_iconst (v := 3) hx hb dL_valves_1090 (by decide) ?_
        have hkz_1091 : sK1 (sIx (3 : Int32) (N 3)) = 1 := (sK1_1' (by rw [h33]; decide))
        refine z_xR (G := G) (w := w) (c2 := 34) (s2 := 812) (vx_runSX (hh := [(0, 6, 9, 14)]) (As := [.ref (r 0), .int 3]) (rest := []) ⟨hx, hb, hml, hown, hts⟩ (h_stateOf l hst G d r A mc g N T w K (3 : Int32) Hz.size hC hJ.1.1 (by omega) ) (vx_cwSW 2 hts gL_valves_L_stateOf rfl rfl rfl (by decide +kernel) ⟨Nat.le_of_ble_eq_true rfl, Nat.le_of_ble_eq_true rfl⟩) (z_hs hK (z_apR hP) (z_dR hD) hZ hLx hS hA) rfl rfl hl.1 rfl (lv_room (Nat.le_of_ble_eq_true rfl)) dL_valves_1091 ⟨(show 32 + 2 ≤ 400 by omega), (show 800 + 12 ≤ 2400 by omega)⟩) hP hD hS hA (show 32 + 2 ≤ 34 by omega) (show 800 + 12 ≤ 812 by omega) (fun rz_14 zw_14 Hz Lz hq hP hD hS => ?_)
        obtain ⟨hr9, hw9⟩ := hq.2 (by rw [hkz_1091]; decide)
        rw [hw9] at hP hD
        rw [hr9, show zCx [-7100] (sK1 (sIx (3 : Int32) (N 3))) = (-7100) from by rw [hkz_1091]; rfl]
        refine lv_sipush (v := (-7100)) hx hb dL_valves_1094 (by decide) ?_
        refine lv_icmp_ne (tgt := 1104) hx hb dL_valves_1097 (by decide) (fun zc_15 => absurd zc_15 (by decide)) (fun _ => ?_)
        refine lv_iconst (v := 1) hx hb dL_valves_1100 (by decide) ?_
        refine lv_goto (tgt := 1105) hx hb dL_valves_1101 (by decide) ?_
        exact z_widen (k := 400) (n := 2400) (show 34 ≤ 400 by omega) (show 812 ≤ 2400 by omega) (W.zret (v := 1) hx hb hr rfl (fun t ht hW => ⟨⟨1, (([(u 0, .inl (G.2 1, 64, .inr (.inl E))), (u 1, .inl (G.2 0, 8, .inl (F 1))), (u 2, .inl (G.2 0, 3, .inl (F 2))), (u 3, .inl (G.2 0, 3, .inl (F 3))), (u 4, .inl (G.2 0, 40, .inl (F 4))), (u 5, .inl (G.2 0, 40, .inl (F 5))), (u 6, .inl (G.2 0, 9, .inl (F 6))), (u 7, .inl (G.2 0, 12, .inl (F 7))), (u 8, .inl (G.2 0, 12, .inl (F 8))), (u 9, .inl (G.2 0, 10, .inl (F 9)))] : va_W) ++ w), rfl, ⟨rfl, N, T, E, F, w, rfl, ⟨A, mc, g, hC⟩, hR, (hJ.mono (by omega))⟩, ⟨by rw [ht]; exact hP, hD⟩⟩, hS.F ht⟩) hS.2.2 dL_valves_1105 hlocks)
    refine lv_if_le (tgt := 1001) hx hb dL_valves_994 (by decide) (fun zc_16 => ?_) (fun zc_16 => ?_)
    · skip
      have zd_16 := Int32.not_lt.mpr zc_16
      refine lv_iconst (v := 0) hx hb dL_valves_1001 (by decide) ?_
      exact W.eq (congrArg (fun z : Int32 => F0 m 1002 ls [.int z]) (show (0 : Int32) = zb bo from (by rw [hbo]; simp [zb, zd_16]))) cut_1002
    · skip
      have zd_16 := Int32.not_le.mp zc_16
      refine lv_iconst (v := 1) hx hb dL_valves_997 (by decide) ?_
      refine lv_goto (tgt := 1002) hx hb dL_valves_998 (by decide) ?_
      exact W.eq (congrArg (fun z : Int32 => F0 m 1002 ls [.int z]) (show (1 : Int32) = zb bo from (by rw [hbo]; simp [zb, zd_16]))) cut_1002
  refine lv_icmp_le (tgt := 986) hx hb dL_valves_979 (by decide) (fun zc_17 => ?_) (fun zc_17 => ?_)
  · skip
    have zd_17 := Int32.not_lt.mpr zc_17
    refine lv_iconst (v := 0) hx hb dL_valves_986 (by decide) ?_
    exact W.eq (congrArg (fun z : Int32 => F0 m 987 ls [.int z]) (show (0 : Int32) = zb bh from (by rw [hbh]; simp [zb, zd_17]))) cut_987
  · skip
    have zd_17 := Int32.not_le.mp zc_17
    refine lv_iconst (v := 1) hx hb dL_valves_982 (by decide) ?_
    refine lv_goto (tgt := 987) hx hb dL_valves_983 (by decide) ?_
    exact W.eq (congrArg (fun z : Int32 => F0 m 987 ls [.int z]) (show (1 : Int32) = zb bh from (by rw [hbh]; simp [zb, zd_17]))) cut_987

set_option maxHeartbeats 4000000 in
set_option maxRecDepth 100000 in
theorem vvalves_941 {p : Program} {l : Launch} {e : Env} {s : State} {m : MethodId} {below : List Frame} {meth : Method} {c : Code} {G : zG} {d : Nat} {r u : Nat → Nat} {act x y : Int32} {Aw : Nat → Prop} (hst : l.stackTraces = false) (hx : p.tables.exec = Jvm.exec) (hb : c.code = cL_valves) (hr : meth.sig.returnType = some .boolean) (hml : c.maxLocals = 17) (hown : s.vm.findClass RL = some m.cls) (hts : ∀ w ∈ wsL_valves, w.before ([.ref (r 0), .int act, .int x, .int y, .ref (u 0), .ref (u 1), .ref (u 3), .ref (u 4), .ref (u 5), .ref (u 6), .ref (u 9)] : List Value).toArray s = true) (hlocks : meth.locks = false) (hK : va_K G.1 vwCl (zT G.2) s) (hZ : zCe Aw d s s.heap) (hLx : zLx s) (hA : ∀ q : Nat, s.heap.size ≤ q → Aw q) {A : Nat → Nat} {mc : Nat → Int32} {g : Nat → Nat → Int32} {N : Nat → Nat} {T : Nat → Nat → Int32} {w : va_W} {E : Nat → Int64} {F : Nat → Nat → Int32} {K : Nat} (hC : sCQ G d r A mc g N T w) (hR : sLR N T E F) (hJ : sLJ N T K) (hK5 : K ≤ 400) (hh9 : N 1 ≤ 90 ∧ N 0 ≤ 1900) {jp jv : Nat} (hjp : jp < 9) (hjv : jv < 8) {H : Heap} {locs : List Loc} (hP : va_P G.1 vwCl (([(u 0, .inl (G.2 1, 64, .inr (.inl E))), (u 1, .inl (G.2 0, 8, .inl (F 1))), (u 2, .inl (G.2 0, 3, .inl (F 2))), (u 3, .inl (G.2 0, 3, .inl (F 3))), (u 4, .inl (G.2 0, 40, .inl (F 4))), (u 5, .inl (G.2 0, 40, .inl (F 5))), (u 6, .inl (G.2 0, 9, .inl (F 6))), (u 7, .inl (G.2 0, 12, .inl (F 7))), (u 8, .inl (G.2 0, 12, .inl (F 8))), (u 9, .inl (G.2 0, 10, .inl (F 9)))] : va_W) ++ w) H) (hD : va_D Aw (([(u 0, .inl (G.2 1, 64, .inr (.inl E))), (u 1, .inl (G.2 0, 8, .inl (F 1))), (u 2, .inl (G.2 0, 3, .inl (F 2))), (u 3, .inl (G.2 0, 3, .inl (F 3))), (u 4, .inl (G.2 0, 40, .inl (F 4))), (u 5, .inl (G.2 0, 40, .inl (F 5))), (u 6, .inl (G.2 0, 9, .inl (F 6))), (u 7, .inl (G.2 0, 12, .inl (F 7))), (u 8, .inl (G.2 0, 12, .inl (F 8))), (u 9, .inl (G.2 0, 10, .inl (F 9)))] : va_W) ++ w)) (hS : va_S Aw s.heap H locs) {ls : Array Slot} (hl : lv_has ls 17 [(0, .ref (r 0)), (1, .int act), (2, .int x), (3, .int y), (4, .ref (u 0)), (5, .ref (u 1)), (6, .ref (u 3)), (7, .ref (u 4)), (8, .ref (u 5)), (9, .ref (u 6)), (10, .ref (u 9)), (11, .int (nI jp)), (12, .int (nI jv))]) : W p l e (headSpec wsL_valves ({ frames := 9, cells := 400, slots := 2400, locals := 223 })).room s m ([.ref (r 0), .int act, .int x, .int y, .ref (u 0), .ref (u 1), .ref (u 3), .ref (u 4), .ref (u 5), .ref (u 6), .ref (u 9)] : List Value).toArray below meth c H locs 0 0 (MQ below (va_Qi (fun (r1 : Int32) (wz : va_W) => r1 = 1 ∧ ∃ (N2 : Nat → Nat) (T2 : Nat → Nat → Int32) (E2 : Nat → Int64) (F2 : Nat → Nat → Int32) (w2 : va_W), wz = LW G u E2 F2 ++ w2 ∧ sCO G d r N2 T2 w2 ∧ sLR N2 T2 E2 F2 ∧ sLJ N2 T2 (K + 2)) (zB G Aw) Aw) ([.ref (r 0), .int act, .int x, .int y, .ref (u 0), .ref (u 1), .ref (u 3), .ref (u 4), .ref (u 5), .ref (u 6), .ref (u 9)] : List Value).toArray s 400 2400 Aw) (F0 m 941 ls []) := by
  have hQ := hR.q hJ
  obtain ⟨hg0, hg1, hg2, hg3, hg4, hg5, hg6, hg7, hg8⟩ := hR.2.2.2.2.2.2.2.2.2
  obtain ⟨⟨hb1, hb0, hb3, hb4, hb5⟩, hlv, hlm, hLH⟩ := id hJ.2
  obtain ⟨⟨hi0, hi2, hi3, hi4, hi5, hi6, hi1⟩, hiB, hiE, hiT, hiA, hiA0, hiM, hiK, hiK0, hiX⟩ := id hJ.1.1
  have hLG := hJ.1.2
  have hS0z : va_S Aw s.heap s.heap [] := va_S.rf
  refine lv_iload_n hx hb dL_valves_941 rfl (lv_at hl 2 rfl) ?_
  refine lv_iconst (v := 3) hx hb dL_valves_942 (by decide) ?_
  refine z_csi (va_Run.run (va_runS (As := [.int x, .int 3]) (rest := []) ⟨hx, hb, hml, hown, hts⟩ (c_L_low l G x 3 (by omega) (by omega)) (va_cwS 2 hts gL_valves_L_low rfl rfl rfl (by decide +kernel) ⟨Nat.le_of_ble_eq_true rfl, Nat.le_of_ble_eq_true rfl⟩) (z_ps hK z_none) rfl rfl hl.1 rfl (lv_room (Nat.le_of_ble_eq_true rfl)) dL_valves_943 ⟨(show 0 + 0 ≤ 400 by omega), (show 0 + 0 ≤ 2400 by omega)⟩)) (fun zr_1 hzr_1 => ?_)
  obtain ⟨jw, hjw, rfl⟩ := hzr_1
  refine lv_istore (lv' := [(13, .int (nI jw)), (0, .ref (r 0)), (1, .int act), (2, .int x), (3, .int y), (4, .ref (u 0)), (5, .ref (u 1)), (6, .ref (u 3)), (7, .ref (u 4)), (8, .ref (u 5)), (9, .ref (u 6)), (10, .ref (u 9)), (11, .int (nI jp)), (12, .int (nI jv))]) hx hb dL_valves_946 hl (by decide) rfl (fun ls hl => ?_)
  refine lv_iload_n hx hb dL_valves_948 rfl (lv_at hl 4 rfl) ?_
  refine lv_iconst (v := 3) hx hb dL_valves_949 (by decide) ?_
  refine lv_ishr hx hb dL_valves_950 ?_
  refine lv_iload_n hx hb dL_valves_951 rfl (lv_at hl 4 rfl) ?_
  refine lv_bipush (v := 6) hx hb dL_valves_952 (by decide) ?_
  refine lv_iand hx hb dL_valves_954 ?_
  refine lv_if_ne (tgt := 964) hx hb dL_valves_955 (by decide) (fun zc_2 => ?_) (fun zc_2 => ?_)
  · skip
    refine lv_bipush (v := 60) hx hb dL_valves_964 (by decide) ?_
    refine z_csi (va_Run.run (va_runS (As := [.int (y >>> (3 &&& 31)), .int 60]) (rest := []) ⟨hx, hb, hml, hown, hts⟩ (c_L_low l G (y >>> (3 &&& 31)) 60 (by omega) (by omega)) (va_cwS 2 hts gL_valves_L_low rfl rfl rfl (by decide +kernel) ⟨Nat.le_of_ble_eq_true rfl, Nat.le_of_ble_eq_true rfl⟩) (z_ps hK z_none) rfl rfl hl.1 rfl (lv_room (Nat.le_of_ble_eq_true rfl)) dL_valves_966 ⟨(show 0 + 0 ≤ 400 by omega), (show 0 + 0 ≤ 2400 by omega)⟩)) (fun zr_3 hzr_3 => ?_)
    obtain ⟨jl, hjl, rfl⟩ := hzr_3
    refine lv_istore (lv' := [(14, .int (nI jl)), (13, .int (nI jw)), (0, .ref (r 0)), (1, .int act), (2, .int x), (3, .int y), (4, .ref (u 0)), (5, .ref (u 1)), (6, .ref (u 3)), (7, .ref (u 4)), (8, .ref (u 5)), (9, .ref (u 6)), (10, .ref (u 9)), (11, .int (nI jp)), (12, .int (nI jv))]) hx hb dL_valves_969 hl (by decide) rfl (fun ls hl => ?_)
    exact z_widen (show 0 ≤ 0 by omega) (show 0 ≤ 0 by omega) (vvalves_971 hst hx hb hr hml hown hts hlocks hK hZ hLx hA hC hR hJ hK5 hh9 hjp hjv hjw (by omega) hP hD hS (lv_sub hl [2, 3, 4, 5, 6, 7, 8, 9, 10, 11, 12, 13, 14, 1, 0] rfl))
  · skip
    refine lv_sipush (v := 1001) hx hb dL_valves_958 (by decide) ?_
    refine lv_goto (tgt := 966) hx hb dL_valves_961 (by decide) ?_
    refine z_csi (va_Run.run (va_runS (As := [.int (y >>> (3 &&& 31)), .int 1001]) (rest := []) ⟨hx, hb, hml, hown, hts⟩ (c_L_low l G (y >>> (3 &&& 31)) 1001 (by omega) (by omega)) (va_cwS 2 hts gL_valves_L_low rfl rfl rfl (by decide +kernel) ⟨Nat.le_of_ble_eq_true rfl, Nat.le_of_ble_eq_true rfl⟩) (z_ps hK z_none) rfl rfl hl.1 rfl (lv_room (Nat.le_of_ble_eq_true rfl)) dL_valves_966 ⟨(show 0 + 0 ≤ 400 by omega), (show 0 + 0 ≤ 2400 by omega)⟩)) (fun zr_4 hzr_4 => ?_)
    obtain ⟨jl, hjl, rfl⟩ := hzr_4
    refine lv_istore (lv' := [(14, .int (nI jl)), (13, .int (nI jw)), (0, .ref (r 0)), (1, .int act), (2, .int x), (3, .int y), (4, .ref (u 0)), (5, .ref (u 1)), (6, .ref (u 3)), (7, .ref (u 4)), (8, .ref (u 5)), (9, .ref (u 6)), (10, .ref (u 9)), (11, .int (nI jp)), (12, .int (nI jv))]) hx hb dL_valves_969 hl (by decide) rfl (fun ls hl => ?_)
    exact z_widen (show 0 ≤ 0 by omega) (show 0 ≤ 0 by omega) (vvalves_971 hst hx hb hr hml hown hts hlocks hK hZ hLx hA hC hR hJ hK5 hh9 hjp hjv hjw (by omega) hP hD hS (lv_sub hl [2, 3, 4, 5, 6, 7, 8, 9, 10, 11, 12, 13, 14, 1, 0] rfl))

set_option maxHeartbeats 4000000 in
set_option maxRecDepth 100000 in
theorem vvalves_75 {p : Program} {l : Launch} {e : Env} {s : State} {m : MethodId} {below : List Frame} {meth : Method} {c : Code} {G : zG} {d : Nat} {r u : Nat → Nat} {act x y : Int32} {Aw : Nat → Prop} (hst : l.stackTraces = false) (hx : p.tables.exec = Jvm.exec) (hb : c.code = cL_valves) (hr : meth.sig.returnType = some .boolean) (hml : c.maxLocals = 17) (hown : s.vm.findClass RL = some m.cls) (hts : ∀ w ∈ wsL_valves, w.before ([.ref (r 0), .int act, .int x, .int y, .ref (u 0), .ref (u 1), .ref (u 3), .ref (u 4), .ref (u 5), .ref (u 6), .ref (u 9)] : List Value).toArray s = true) (hlocks : meth.locks = false) (hK : va_K G.1 vwCl (zT G.2) s) (hZ : zCe Aw d s s.heap) (hLx : zLx s) (hA : ∀ q : Nat, s.heap.size ≤ q → Aw q) {A : Nat → Nat} {mc : Nat → Int32} {g : Nat → Nat → Int32} {N : Nat → Nat} {T : Nat → Nat → Int32} {w : va_W} {E : Nat → Int64} {F : Nat → Nat → Int32} {K : Nat} (hC : sCQ G d r A mc g N T w) (hR : sLR N T E F) (hJ : sLJ N T K) (hK5 : K ≤ 400) (hh9 : N 1 ≤ 90 ∧ N 0 ≤ 1900) {jp jv : Nat} (hjp : jp < 9) (hjv : jv < 8) {H : Heap} {locs : List Loc} (hP : va_P G.1 vwCl (([(u 0, .inl (G.2 1, 64, .inr (.inl E))), (u 1, .inl (G.2 0, 8, .inl (F 1))), (u 2, .inl (G.2 0, 3, .inl (F 2))), (u 3, .inl (G.2 0, 3, .inl (F 3))), (u 4, .inl (G.2 0, 40, .inl (F 4))), (u 5, .inl (G.2 0, 40, .inl (F 5))), (u 6, .inl (G.2 0, 9, .inl (F 6))), (u 7, .inl (G.2 0, 12, .inl (F 7))), (u 8, .inl (G.2 0, 12, .inl (F 8))), (u 9, .inl (G.2 0, 10, .inl (F 9)))] : va_W) ++ w) H) (hD : va_D Aw (([(u 0, .inl (G.2 1, 64, .inr (.inl E))), (u 1, .inl (G.2 0, 8, .inl (F 1))), (u 2, .inl (G.2 0, 3, .inl (F 2))), (u 3, .inl (G.2 0, 3, .inl (F 3))), (u 4, .inl (G.2 0, 40, .inl (F 4))), (u 5, .inl (G.2 0, 40, .inl (F 5))), (u 6, .inl (G.2 0, 9, .inl (F 6))), (u 7, .inl (G.2 0, 12, .inl (F 7))), (u 8, .inl (G.2 0, 12, .inl (F 8))), (u 9, .inl (G.2 0, 10, .inl (F 9)))] : va_W) ++ w)) (hS : va_S Aw s.heap H locs) {ls : Array Slot} (hl : lv_has ls 17 [(0, .ref (r 0)), (1, .int act), (2, .int x), (3, .int y), (4, .ref (u 0)), (5, .ref (u 1)), (6, .ref (u 3)), (7, .ref (u 4)), (8, .ref (u 5)), (9, .ref (u 6)), (10, .ref (u 9)), (11, .int (nI jp)), (12, .int (nI jv))]) : W p l e (headSpec wsL_valves ({ frames := 9, cells := 400, slots := 2400, locals := 223 })).room s m ([.ref (r 0), .int act, .int x, .int y, .ref (u 0), .ref (u 1), .ref (u 3), .ref (u 4), .ref (u 5), .ref (u 6), .ref (u 9)] : List Value).toArray below meth c H locs 0 0 (MQ below (va_Qi (fun (r1 : Int32) (wz : va_W) => r1 = 1 ∧ ∃ (N2 : Nat → Nat) (T2 : Nat → Nat → Int32) (E2 : Nat → Int64) (F2 : Nat → Nat → Int32) (w2 : va_W), wz = LW G u E2 F2 ++ w2 ∧ sCO G d r N2 T2 w2 ∧ sLR N2 T2 E2 F2 ∧ sLJ N2 T2 (K + 2)) (zB G Aw) Aw) ([.ref (r 0), .int act, .int x, .int y, .ref (u 0), .ref (u 1), .ref (u 3), .ref (u 4), .ref (u 5), .ref (u 6), .ref (u 9)] : List Value).toArray s 400 2400 Aw) (F0 m 75 ls []) := by
  have hQ := hR.q hJ
  obtain ⟨hg0, hg1, hg2, hg3, hg4, hg5, hg6, hg7, hg8⟩ := hR.2.2.2.2.2.2.2.2.2
  obtain ⟨⟨hb1, hb0, hb3, hb4, hb5⟩, hlv, hlm, hLH⟩ := id hJ.2
  obtain ⟨⟨hi0, hi2, hi3, hi4, hi5, hi6, hi1⟩, hiB, hiE, hiT, hiA, hiA0, hiM, hiK, hiK0, hiX⟩ := id hJ.1.1
  have hLG := hJ.1.2
  have hS0z : va_S Aw s.heap s.heap [] := va_S.rf
  refine lv_iload_n hx hb dL_valves_75 rfl (lv_at hl 1 rfl) ?_
  refine lv_if_ne (tgt := 297) hx hb dL_valves_76 (by decide) (fun zc_1 => ?_) (fun zc_1 => ?_)
  · skip
    refine lv_iload_n hx hb dL_valves_297 rfl (lv_at hl 1 rfl) ?_
    refine lv_iconst (v := 5) hx hb dL_valves_298 (by decide) ?_
    refine lv_icmp_ge (tgt := 484) hx hb dL_valves_299 (by decide) (fun zc_2 => ?_) (fun zc_2 => ?_)
    · skip
      have zd_2 := Int32.not_lt.mpr zc_2
      refine lv_iload_n hx hb dL_valves_484 rfl (lv_at hl 1 rfl) ?_
      refine lv_bipush (v := 7) hx hb dL_valves_485 (by decide) ?_
      refine lv_icmp_ge (tgt := 617) hx hb dL_valves_487 (by decide) (fun zc_3 => ?_) (fun zc_3 => ?_)
      · skip
        have zd_3 := Int32.not_lt.mpr zc_3
        refine lv_iload_n hx hb dL_valves_617 rfl (lv_at hl 1 rfl) ?_
        refine lv_bipush (v := 11) hx hb dL_valves_618 (by decide) ?_
        refine lv_icmp_ge (tgt := 941) hx hb dL_valves_620 (by decide) (fun zc_4 => ?_) (fun zc_4 => ?_)
        · skip
          have zd_4 := Int32.not_lt.mpr zc_4
          exact z_widen (show 0 ≤ 0 by omega) (show 0 ≤ 0 by omega) (vvalves_941 hst hx hb hr hml hown hts hlocks hK hZ hLx hA hC hR hJ hK5 hh9 hjp hjv hP hD hS (lv_sub hl [0, 1, 2, 3, 4, 5, 6, 7, 8, 9, 10, 11, 12] rfl))
        · skip
          have zd_4 := Int32.not_le.mp zc_4
          exact z_widen (show 0 ≤ 0 by omega) (show 0 ≤ 0 by omega) (vvalves_623 hst hx hb hr hml hown hts hlocks hK hZ hLx hA hC hR hJ hK5 hh9 hjp hjv hP hD hS (lv_sub hl [0, 1, 2, 3, 4, 5, 6, 7, 8, 9, 10, 11, 12] rfl))
      · skip
        have zd_3 := Int32.not_le.mp zc_3
        exact z_widen (show 0 ≤ 0 by omega) (show 0 ≤ 0 by omega) (vvalves_490 hst hx hb hr hml hown hts hlocks hK hZ hLx hA hC hR hJ hK5 hh9 hjp hjv hP hD hS (lv_sub hl [0, 1, 2, 3, 4, 5, 6, 7, 8, 9, 10, 11, 12] rfl))
    · skip
      have zd_2 := Int32.not_le.mp zc_2
      exact z_widen (show 0 ≤ 0 by omega) (show 0 ≤ 0 by omega) (vvalves_302 hst hx hb hr hml hown hts hlocks hK hZ hLx hA hC hR hJ hK5 hh9 hjp hjv hP hD hS (lv_sub hl [0, 1, 2, 3, 4, 5, 6, 7, 8, 9, 10, 11, 12] rfl))
  · skip
    exact z_widen (show 0 ≤ 0 by omega) (show 0 ≤ 0 by omega) (vvalves_79 hst hx hb hr hml hown hts hlocks hK hZ hLx hA hC hR hJ hK5 hh9 hjp hjv hP hD hS (lv_sub hl [0, 1, 2, 3, 4, 5, 6, 7, 8, 9, 10, 11, 12] rfl))

set_option maxHeartbeats 4000000 in
set_option maxRecDepth 100000 in
theorem vvalves_56 {p : Program} {l : Launch} {e : Env} {s : State} {m : MethodId} {below : List Frame} {meth : Method} {c : Code} {G : zG} {d : Nat} {r u : Nat → Nat} {act x y : Int32} {Aw : Nat → Prop} (hst : l.stackTraces = false) (hx : p.tables.exec = Jvm.exec) (hb : c.code = cL_valves) (hr : meth.sig.returnType = some .boolean) (hml : c.maxLocals = 17) (hown : s.vm.findClass RL = some m.cls) (hts : ∀ w ∈ wsL_valves, w.before ([.ref (r 0), .int act, .int x, .int y, .ref (u 0), .ref (u 1), .ref (u 3), .ref (u 4), .ref (u 5), .ref (u 6), .ref (u 9)] : List Value).toArray s = true) (hlocks : meth.locks = false) (hK : va_K G.1 vwCl (zT G.2) s) (hZ : zCe Aw d s s.heap) (hLx : zLx s) (hA : ∀ q : Nat, s.heap.size ≤ q → Aw q) {A : Nat → Nat} {mc : Nat → Int32} {g : Nat → Nat → Int32} {N : Nat → Nat} {T : Nat → Nat → Int32} {w : va_W} {E : Nat → Int64} {F : Nat → Nat → Int32} {K : Nat} (hC : sCQ G d r A mc g N T w) (hR : sLR N T E F) (hJ : sLJ N T K) (hK5 : K ≤ 400) (hh9 : N 1 ≤ 90 ∧ N 0 ≤ 1900) {jp : Nat} (hjp : jp < 9) {H : Heap} {locs : List Loc} (hP : va_P G.1 vwCl (([(u 0, .inl (G.2 1, 64, .inr (.inl E))), (u 1, .inl (G.2 0, 8, .inl (F 1))), (u 2, .inl (G.2 0, 3, .inl (F 2))), (u 3, .inl (G.2 0, 3, .inl (F 3))), (u 4, .inl (G.2 0, 40, .inl (F 4))), (u 5, .inl (G.2 0, 40, .inl (F 5))), (u 6, .inl (G.2 0, 9, .inl (F 6))), (u 7, .inl (G.2 0, 12, .inl (F 7))), (u 8, .inl (G.2 0, 12, .inl (F 8))), (u 9, .inl (G.2 0, 10, .inl (F 9)))] : va_W) ++ w) H) (hD : va_D Aw (([(u 0, .inl (G.2 1, 64, .inr (.inl E))), (u 1, .inl (G.2 0, 8, .inl (F 1))), (u 2, .inl (G.2 0, 3, .inl (F 2))), (u 3, .inl (G.2 0, 3, .inl (F 3))), (u 4, .inl (G.2 0, 40, .inl (F 4))), (u 5, .inl (G.2 0, 40, .inl (F 5))), (u 6, .inl (G.2 0, 9, .inl (F 6))), (u 7, .inl (G.2 0, 12, .inl (F 7))), (u 8, .inl (G.2 0, 12, .inl (F 8))), (u 9, .inl (G.2 0, 10, .inl (F 9)))] : va_W) ++ w)) (hS : va_S Aw s.heap H locs) {ls : Array Slot} (hl : lv_has ls 17 [(0, .ref (r 0)), (1, .int act), (2, .int x), (3, .int y), (4, .ref (u 0)), (5, .ref (u 1)), (6, .ref (u 3)), (7, .ref (u 4)), (8, .ref (u 5)), (9, .ref (u 6)), (10, .ref (u 9)), (11, .int (nI jp))]) : W p l e (headSpec wsL_valves ({ frames := 9, cells := 400, slots := 2400, locals := 223 })).room s m ([.ref (r 0), .int act, .int x, .int y, .ref (u 0), .ref (u 1), .ref (u 3), .ref (u 4), .ref (u 5), .ref (u 6), .ref (u 9)] : List Value).toArray below meth c H locs 0 0 (MQ below (va_Qi (fun (r1 : Int32) (wz : va_W) => r1 = 1 ∧ ∃ (N2 : Nat → Nat) (T2 : Nat → Nat → Int32) (E2 : Nat → Int64) (F2 : Nat → Nat → Int32) (w2 : va_W), wz = LW G u E2 F2 ++ w2 ∧ sCO G d r N2 T2 w2 ∧ sLR N2 T2 E2 F2 ∧ sLJ N2 T2 (K + 2)) (zB G Aw) Aw) ([.ref (r 0), .int act, .int x, .int y, .ref (u 0), .ref (u 1), .ref (u 3), .ref (u 4), .ref (u 5), .ref (u 6), .ref (u 9)] : List Value).toArray s 400 2400 Aw) (F0 m 56 ls []) := by
  have hQ := hR.q hJ
  obtain ⟨hg0, hg1, hg2, hg3, hg4, hg5, hg6, hg7, hg8⟩ := hR.2.2.2.2.2.2.2.2.2
  obtain ⟨⟨hb1, hb0, hb3, hb4, hb5⟩, hlv, hlm, hLH⟩ := id hJ.2
  obtain ⟨⟨hi0, hi2, hi3, hi4, hi5, hi6, hi1⟩, hiB, hiE, hiT, hiA, hiA0, hiM, hiK, hiK0, hiX⟩ := id hJ.1.1
  have hLG := hJ.1.2
  have hS0z : va_S Aw s.heap s.heap [] := va_S.rf
  refine lv_iload_n hx hb dL_valves_56 rfl (lv_at hl 3 rfl) ?_
  refine lv_iload_n hx hb dL_valves_57 rfl (lv_at hl 3 rfl) ?_
  refine lv_bipush (v := 96) hx hb dL_valves_58 (by decide) ?_
  refine lv_iand hx hb dL_valves_60 ?_
  refine lv_if_ne (tgt := 69) hx hb dL_valves_61 (by decide) (fun zc_1 => ?_) (fun zc_1 => ?_)
  · skip
    refine lv_iconst (v := 3) hx hb dL_valves_69 (by decide) ?_
    refine z_csi (va_Run.run (va_runS (As := [.int y, .int 3]) (rest := []) ⟨hx, hb, hml, hown, hts⟩ (c_L_low l G y 3 (by omega) (by omega)) (va_cwS 2 hts gL_valves_L_low rfl rfl rfl (by decide +kernel) ⟨Nat.le_of_ble_eq_true rfl, Nat.le_of_ble_eq_true rfl⟩) (z_ps hK z_none) rfl rfl hl.1 rfl (lv_room (Nat.le_of_ble_eq_true rfl)) dL_valves_70 ⟨(show 0 + 0 ≤ 400 by omega), (show 0 + 0 ≤ 2400 by omega)⟩)) (fun zr_2 hzr_2 => ?_)
    obtain ⟨jv, hjv, rfl⟩ := hzr_2
    refine lv_istore (lv' := [(12, .int (nI jv)), (0, .ref (r 0)), (1, .int act), (2, .int x), (3, .int y), (4, .ref (u 0)), (5, .ref (u 1)), (6, .ref (u 3)), (7, .ref (u 4)), (8, .ref (u 5)), (9, .ref (u 6)), (10, .ref (u 9)), (11, .int (nI jp))]) hx hb dL_valves_73 hl (by decide) rfl (fun ls hl => ?_)
    exact z_widen (show 0 ≤ 0 by omega) (show 0 ≤ 0 by omega) (vvalves_75 hst hx hb hr hml hown hts hlocks hK hZ hLx hA hC hR hJ hK5 hh9 hjp (by omega) hP hD hS (lv_sub hl [1, 2, 3, 4, 5, 6, 7, 8, 9, 10, 11, 12, 0] rfl))
  · skip
    refine lv_bipush (v := 8) hx hb dL_valves_64 (by decide) ?_
    refine lv_goto (tgt := 70) hx hb dL_valves_66 (by decide) ?_
    refine z_csi (va_Run.run (va_runS (As := [.int y, .int 8]) (rest := []) ⟨hx, hb, hml, hown, hts⟩ (c_L_low l G y 8 (by omega) (by omega)) (va_cwS 2 hts gL_valves_L_low rfl rfl rfl (by decide +kernel) ⟨Nat.le_of_ble_eq_true rfl, Nat.le_of_ble_eq_true rfl⟩) (z_ps hK z_none) rfl rfl hl.1 rfl (lv_room (Nat.le_of_ble_eq_true rfl)) dL_valves_70 ⟨(show 0 + 0 ≤ 400 by omega), (show 0 + 0 ≤ 2400 by omega)⟩)) (fun zr_3 hzr_3 => ?_)
    obtain ⟨jv, hjv, rfl⟩ := hzr_3
    refine lv_istore (lv' := [(12, .int (nI jv)), (0, .ref (r 0)), (1, .int act), (2, .int x), (3, .int y), (4, .ref (u 0)), (5, .ref (u 1)), (6, .ref (u 3)), (7, .ref (u 4)), (8, .ref (u 5)), (9, .ref (u 6)), (10, .ref (u 9)), (11, .int (nI jp))]) hx hb dL_valves_73 hl (by decide) rfl (fun ls hl => ?_)
    exact z_widen (show 0 ≤ 0 by omega) (show 0 ≤ 0 by omega) (vvalves_75 hst hx hb hr hml hown hts hlocks hK hZ hLx hA hC hR hJ hK5 hh9 hjp (by omega) hP hD hS (lv_sub hl [1, 2, 3, 4, 5, 6, 7, 8, 9, 10, 11, 12, 0] rfl))

set_option maxHeartbeats 4000000 in
set_option maxRecDepth 100000 in
theorem vvalves_0 {p : Program} {l : Launch} {e : Env} {s : State} {m : MethodId} {below : List Frame} {meth : Method} {c : Code} {G : zG} {d : Nat} {r u : Nat → Nat} {act x y : Int32} {Aw : Nat → Prop} (hst : l.stackTraces = false) (hx : p.tables.exec = Jvm.exec) (hb : c.code = cL_valves) (hr : meth.sig.returnType = some .boolean) (hml : c.maxLocals = 17) (hown : s.vm.findClass RL = some m.cls) (hts : ∀ w ∈ wsL_valves, w.before ([.ref (r 0), .int act, .int x, .int y, .ref (u 0), .ref (u 1), .ref (u 3), .ref (u 4), .ref (u 5), .ref (u 6), .ref (u 9)] : List Value).toArray s = true) (hlocks : meth.locks = false) (hK : va_K G.1 vwCl (zT G.2) s) (hZ : zCe Aw d s s.heap) (hLx : zLx s) (hA : ∀ q : Nat, s.heap.size ≤ q → Aw q) {A : Nat → Nat} {mc : Nat → Int32} {g : Nat → Nat → Int32} {N : Nat → Nat} {T : Nat → Nat → Int32} {w : va_W} {E : Nat → Int64} {F : Nat → Nat → Int32} {K : Nat} (hC : sCQ G d r A mc g N T w) (hR : sLR N T E F) (hJ : sLJ N T K) (hK5 : K ≤ 400) (hh9 : N 1 ≤ 90 ∧ N 0 ≤ 1900)   {H : Heap} {locs : List Loc} (hP : va_P G.1 vwCl (([(u 0, .inl (G.2 1, 64, .inr (.inl E))), (u 1, .inl (G.2 0, 8, .inl (F 1))), (u 2, .inl (G.2 0, 3, .inl (F 2))), (u 3, .inl (G.2 0, 3, .inl (F 3))), (u 4, .inl (G.2 0, 40, .inl (F 4))), (u 5, .inl (G.2 0, 40, .inl (F 5))), (u 6, .inl (G.2 0, 9, .inl (F 6))), (u 7, .inl (G.2 0, 12, .inl (F 7))), (u 8, .inl (G.2 0, 12, .inl (F 8))), (u 9, .inl (G.2 0, 10, .inl (F 9)))] : va_W) ++ w) H) (hD : va_D Aw (([(u 0, .inl (G.2 1, 64, .inr (.inl E))), (u 1, .inl (G.2 0, 8, .inl (F 1))), (u 2, .inl (G.2 0, 3, .inl (F 2))), (u 3, .inl (G.2 0, 3, .inl (F 3))), (u 4, .inl (G.2 0, 40, .inl (F 4))), (u 5, .inl (G.2 0, 40, .inl (F 5))), (u 6, .inl (G.2 0, 9, .inl (F 6))), (u 7, .inl (G.2 0, 12, .inl (F 7))), (u 8, .inl (G.2 0, 12, .inl (F 8))), (u 9, .inl (G.2 0, 10, .inl (F 9)))] : va_W) ++ w)) (hS : va_S Aw s.heap H locs) {ls : Array Slot} (hl : lv_has ls 17 [(0, .ref (r 0)), (1, .int act), (2, .int x), (3, .int y), (4, .ref (u 0)), (5, .ref (u 1)), (6, .ref (u 3)), (7, .ref (u 4)), (8, .ref (u 5)), (9, .ref (u 6)), (10, .ref (u 9))]) : W p l e (headSpec wsL_valves ({ frames := 9, cells := 400, slots := 2400, locals := 223 })).room s m ([.ref (r 0), .int act, .int x, .int y, .ref (u 0), .ref (u 1), .ref (u 3), .ref (u 4), .ref (u 5), .ref (u 6), .ref (u 9)] : List Value).toArray below meth c H locs 0 0 (MQ below (va_Qi (fun (r1 : Int32) (wz : va_W) => r1 = 1 ∧ ∃ (N2 : Nat → Nat) (T2 : Nat → Nat → Int32) (E2 : Nat → Int64) (F2 : Nat → Nat → Int32) (w2 : va_W), wz = LW G u E2 F2 ++ w2 ∧ sCO G d r N2 T2 w2 ∧ sLR N2 T2 E2 F2 ∧ sLJ N2 T2 (K + 2)) (zB G Aw) Aw) ([.ref (r 0), .int act, .int x, .int y, .ref (u 0), .ref (u 1), .ref (u 3), .ref (u 4), .ref (u 5), .ref (u 6), .ref (u 9)] : List Value).toArray s 400 2400 Aw) (F0 m 0 ls []) := by
  have hQ := hR.q hJ
  obtain ⟨hg0, hg1, hg2, hg3, hg4, hg5, hg6, hg7, hg8⟩ := hR.2.2.2.2.2.2.2.2.2
  obtain ⟨⟨hb1, hb0, hb3, hb4, hb5⟩, hlv, hlm, hLH⟩ := id hJ.2
  obtain ⟨⟨hi0, hi2, hi3, hi4, hi5, hi6, hi1⟩, hiB, hiE, hiT, hiA, hiA0, hiM, hiK, hiK0, hiX⟩ := id hJ.1.1
  have hLG := hJ.1.2
  have hS0z : va_S Aw s.heap s.heap [] := va_S.rf
  refine lv_iload_n hx hb dL_valves_0 rfl (lv_at hl 2 rfl) ?_
  refine lv_bipush (v := 9) hx hb dL_valves_1 (by decide) ?_
  refine z_csi (va_Run.run (va_runS (As := [.int x, .int 9]) (rest := []) ⟨hx, hb, hml, hown, hts⟩ (c_L_low l G x 9 (by omega) (by omega)) (va_cwS 2 hts gL_valves_L_low rfl rfl rfl (by decide +kernel) ⟨Nat.le_of_ble_eq_true rfl, Nat.le_of_ble_eq_true rfl⟩) (z_ps hK z_none) rfl rfl hl.1 rfl (lv_room (Nat.le_of_ble_eq_true rfl)) dL_valves_3 ⟨(show 0 + 0 ≤ 400 by omega), (show 0 + 0 ≤ 2400 by omega)⟩)) (fun zr_1 hzr_1 => ?_)
  obtain ⟨jp, hjp, rfl⟩ := hzr_1
  refine lv_istore (lv' := [(11, .int (nI jp)), (0, .ref (r 0)), (1, .int act), (2, .int x), (3, .int y), (4, .ref (u 0)), (5, .ref (u 1)), (6, .ref (u 3)), (7, .ref (u 4)), (8, .ref (u 5)), (9, .ref (u 6)), (10, .ref (u 9))]) hx hb dL_valves_6 hl (by decide) rfl (fun ls hl => ?_)
  refine lv_iconst (v := 0) hx hb dL_valves_8 (by decide) ?_
  refine lv_istore (lv' := [(12, .int 0), (11, .int (nI jp)), (0, .ref (r 0)), (1, .int act), (2, .int x), (3, .int y), (4, .ref (u 0)), (5, .ref (u 1)), (6, .ref (u 3)), (7, .ref (u 4)), (8, .ref (u 5)), (9, .ref (u 6)), (10, .ref (u 9))]) hx hb dL_valves_9 hl (by decide) rfl (fun ls hl => ?_)
  have key_11 : ∀ (n i : Nat), i ≤ 9 → 9 < i + n → ∀ (jp : Nat), jp < 9 → ∀ (Hz : Heap) (Lz : List Loc), va_P G.1 vwCl (([(u 0, .inl (G.2 1, 64, .inr (.inl E))), (u 1, .inl (G.2 0, 8, .inl (F 1))), (u 2, .inl (G.2 0, 3, .inl (F 2))), (u 3, .inl (G.2 0, 3, .inl (F 3))), (u 4, .inl (G.2 0, 40, .inl (F 4))), (u 5, .inl (G.2 0, 40, .inl (F 5))), (u 6, .inl (G.2 0, 9, .inl (F 6))), (u 7, .inl (G.2 0, 12, .inl (F 7))), (u 8, .inl (G.2 0, 12, .inl (F 8))), (u 9, .inl (G.2 0, 10, .inl (F 9)))] : va_W) ++ w) Hz → va_D Aw (([(u 0, .inl (G.2 1, 64, .inr (.inl E))), (u 1, .inl (G.2 0, 8, .inl (F 1))), (u 2, .inl (G.2 0, 3, .inl (F 2))), (u 3, .inl (G.2 0, 3, .inl (F 3))), (u 4, .inl (G.2 0, 40, .inl (F 4))), (u 5, .inl (G.2 0, 40, .inl (F 5))), (u 6, .inl (G.2 0, 9, .inl (F 6))), (u 7, .inl (G.2 0, 12, .inl (F 7))), (u 8, .inl (G.2 0, 12, .inl (F 8))), (u 9, .inl (G.2 0, 10, .inl (F 9)))] : va_W) ++ w) → va_S Aw s.heap Hz Lz → ∀ ls : Array Slot, lv_has ls 17 [(0, .ref (r 0)), (1, .int act), (2, .int x), (3, .int y), (4, .ref (u 0)), (5, .ref (u 1)), (6, .ref (u 3)), (7, .ref (u 4)), (8, .ref (u 5)), (9, .ref (u 6)), (10, .ref (u 9)), (11, .int (nI jp)), (12, .int (nI i))] → W p l e (headSpec wsL_valves ({ frames := 9, cells := 400, slots := 2400, locals := 223 })).room s m ([.ref (r 0), .int act, .int x, .int y, .ref (u 0), .ref (u 1), .ref (u 3), .ref (u 4), .ref (u 5), .ref (u 6), .ref (u 9)] : List Value).toArray below meth c Hz Lz (0) (0) (MQ below (va_Qi (fun (r1 : Int32) (wz : va_W) => r1 = 1 ∧ ∃ (N2 : Nat → Nat) (T2 : Nat → Nat → Int32) (E2 : Nat → Int64) (F2 : Nat → Nat → Int32) (w2 : va_W), wz = LW G u E2 F2 ++ w2 ∧ sCO G d r N2 T2 w2 ∧ sLR N2 T2 E2 F2 ∧ sLJ N2 T2 (K + 2)) (zB G Aw) Aw) ([.ref (r 0), .int act, .int x, .int y, .ref (u 0), .ref (u 1), .ref (u 3), .ref (u 4), .ref (u 5), .ref (u 6), .ref (u 9)] : List Value).toArray s 400 2400 Aw) (F0 m 11 ls []) := by
    intro n
    induction n with
    | zero => intro i hi_a hi_b; exact absurd hi_b (by omega)
    | succ n ih =>
      intro i hil hin jp  hjp  Hz Lz hP hD hS ls hl
      refine lv_iload hx hb dL_valves_11 (lv_at hl 12 rfl) ?_
      refine lv_bipush (v := 9) hx hb dL_valves_13 (by decide) ?_
      refine lv_icmp_ge (tgt := 56) hx hb dL_valves_15 (by decide) (fun zc_2 => ?_) (fun zc_2 => ?_)
      · skip
        have zd_2 := Int32.not_lt.mpr zc_2
        skip
        exact z_widen (show 0 ≤ 0 by omega) (show 0 ≤ 0 by omega) (vvalves_56 hst hx hb hr hml hown hts hlocks hK hZ hLx hA hC hR hJ hK5 hh9 hjp hP hD hS (lv_sub hl [0, 1, 2, 3, 4, 5, 6, 7, 8, 9, 10, 11] rfl))
      · skip
        have zd_2 := Int32.not_le.mp zc_2
        have hlt9 : i < 9 := Nat.lt_of_not_le (fun z => zc_2 ((nI_leI (a := 9) (b := i) (by omega) (by omega)).mpr z))
        refine lv_iload_n hx hb dL_valves_18 rfl (lv_at hl 3 rfl) ?_
        refine lv_bipush (v := 6) hx hb dL_valves_19 (by decide) ?_
        refine lv_iand hx hb dL_valves_21 ?_
        refine lv_if_le (tgt := 56) hx hb dL_valves_22 (by decide) (fun zc_3 => ?_) (fun zc_3 => ?_)
        · skip
          have zd_3 := Int32.not_lt.mpr zc_3
          exact z_widen (show 0 ≤ 0 by omega) (show 0 ≤ 0 by omega) (vvalves_56 hst hx hb hr hml hown hts hlocks hK hZ hLx hA hC hR hJ hK5 hh9 hjp hP hD hS (lv_sub hl [0, 1, 2, 3, 4, 5, 6, 7, 8, 9, 10, 11] rfl))
        · skip
          have zd_3 := Int32.not_le.mp zc_3
          refine lv_aload hx hb dL_valves_25 (lv_at hl 4 rfl) ?_
          refine lv_aload hx hb dL_valves_27 (lv_at hl 7 rfl) ?_
          refine lv_aload hx hb dL_valves_29 (lv_at hl 9 rfl) ?_
          refine lv_aload hx hb dL_valves_31 (lv_at hl 10 rfl) ?_
          refine lv_iload hx hb dL_valves_33 (lv_at hl 11 rfl) ?_
          refine z_csi (va_Run.run (va_runS (As := [.ref (u 0), .ref (u 4), .ref (u 6), .ref (u 9), .int (nI jp)]) (rest := []) ⟨hx, hb, hml, hown, hts⟩ (c_L_mayAct l G u E F N T (nI jp) hQ (vp_in_nI (by omega) (by omega))) (va_cwS 5 hts gL_valves_L_mayAct rfl rfl rfl (by decide +kernel) ⟨Nat.le_of_ble_eq_true rfl, Nat.le_of_ble_eq_true rfl⟩) (z_ps hK (z_apL hP)) rfl rfl hl.1 rfl (lv_room (Nat.le_of_ble_eq_true rfl)) dL_valves_35 ⟨(show 0 + 0 ≤ 400 by omega), (show 0 + 0 ≤ 2400 by omega)⟩)) (fun zr_4 hzr_4 => ?_)
          subst hzr_4
          refine lv_if_ne (tgt := 56) hx hb dL_valves_38 (by decide) (fun zc_5 => ?_) (fun zc_5 => ?_)
          · skip
            have zc_5 := zb_n0 zc_5
            exact z_widen (show 0 ≤ 0 by omega) (show 0 ≤ 0 by omega) (vvalves_56 hst hx hb hr hml hown hts hlocks hK hZ hLx hA hC hR hJ hK5 hh9 hjp hP hD hS (lv_sub hl [0, 1, 2, 3, 4, 5, 6, 7, 8, 9, 10, 11] rfl))
          · skip
            have zc_5 := zb_0.mp zc_5
            refine lv_iload hx hb dL_valves_41 (lv_at hl 11 rfl) ?_
            refine lv_iconst (v := 1) hx hb dL_valves_43 (by decide) ?_
            refine lv_iadd hx hb dL_valves_44 ?_
            refine lv_bipush (v := 9) hx hb dL_valves_45 (by decide) ?_
            refine lv_irem hx hb dL_valves_47 (by decide) ?_
            refine W.eq (g2 := F0 m 48 ls [.int (nI ((jp + 1) % 9))]) (by first | (rw [nI_rem9 hjp]; done) | (rw [nI_rem9 hjp]; rfl)) ?_
            refine lv_istore (lv' := [(11, .int (nI ((jp + 1) % 9))), (0, .ref (r 0)), (1, .int act), (2, .int x), (3, .int y), (4, .ref (u 0)), (5, .ref (u 1)), (6, .ref (u 3)), (7, .ref (u 4)), (8, .ref (u 5)), (9, .ref (u 6)), (10, .ref (u 9)), (12, .int (nI i))]) hx hb dL_valves_48 hl (by decide) rfl (fun ls hl => ?_)
            refine lv_iinc (v := (nI (i + 1))) (lv' := [(12, .int (nI (i + 1))), (11, .int (nI ((jp + 1) % 9))), (0, .ref (r 0)), (1, .int act), (2, .int x), (3, .int y), (4, .ref (u 0)), (5, .ref (u 1)), (6, .ref (u 3)), (7, .ref (u 4)), (8, .ref (u 5)), (9, .ref (u 6)), (10, .ref (u 9))]) hx hb dL_valves_50 hl (k := 12) rfl (by first | exact nI_1 _ | rfl) (by decide) rfl (fun ls hl => ?_)
            refine lv_goto (tgt := 11) hx hb dL_valves_53 (by decide) ?_
            have hl2 := lv_sub (l' := [(0, .ref (r 0)), (1, .int act), (2, .int x), (3, .int y), (4, .ref (u 0)), (5, .ref (u 1)), (6, .ref (u 3)), (7, .ref (u 4)), (8, .ref (u 5)), (9, .ref (u 6)), (10, .ref (u 9)), (11, .int (nI ((jp + 1) % 9))), (12, .int (nI (i + 1)))]) hl [2, 3, 4, 5, 6, 7, 8, 9, 10, 11, 12, 1, 0] rfl
            exact z_widen (show 0 ≤ 0 by omega) (show 0 ≤ 0 by omega) (ih (i + 1) (by omega) (by omega) _ (by omega)  _ _ hP hD hS ls hl2)
  exact z_widen (show 0 ≤ 0 by omega) (show 0 ≤ 0 by omega) (key_11 (9 + 1) 0 (Nat.zero_le _) (by omega) jp hjp  _ _ hP hD hS ls (lv_sub hl [2, 3, 4, 5, 6, 7, 8, 9, 10, 11, 12, 1, 0] rfl))
set_option maxHeartbeats 4000000 in
set_option maxRecDepth 100000 in
theorem c_L_valves (l : Launch) (hst : l.stackTraces = false) (G : zG) (d : Nat) (r u : Nat → Nat) (act x y : Int32) (A : Nat → Nat) (mc : Nat → Int32) (g : Nat → Nat → Int32) (N : Nat → Nat) (T : Nat → Nat → Int32) (w : va_W) (E : Nat → Int64) (F : Nat → Nat → Int32) (K sz : Nat) (hC : sCQ G d r A mc g N T w) (hR : sLR N T E F) (hJ : sLJ N T K) (hK5 : K ≤ 400) (hh9 : N 1 ≤ 90 ∧ N 0 ≤ 1900) : Met l yL_valves wsL_valves ({ frames := 9, cells := 400, slots := 2400, locals := 223 }) (va_Pc [.ref (r 0), .int act, .int x, .int y, .ref (u 0), .ref (u 1), .ref (u 3), .ref (u 4), .ref (u 5), .ref (u 6), .ref (u 9)] (zHu G d (LW G u E F ++ w) sz)) (va_Qi (fun (r1 : Int32) (wz : va_W) => r1 = 1 ∧ ∃ (N2 : Nat → Nat) (T2 : Nat → Nat → Int32) (E2 : Nat → Int64) (F2 : Nat → Nat → Int32) (w2 : va_W), wz = LW G u E2 F2 ++ w2 ∧ sCO G d r N2 T2 w2 ∧ sLR N2 T2 E2 F2 ∧ sLJ N2 T2 (K + 2)) (zB G (va_A (LW G u E F ++ w) sz)) (va_A (LW G u E F ++ w) sz)) 400 2400 (va_A (LW G u E F ++ w) sz) := by
  refine Met.ofW (cc := cL_valves) (maxL := 17) (ret := (some .boolean)) (by decide) rfl ?_
  intro p e s m args below meth c s₁ B hml hv
  obtain ⟨rfl, ⟨hsz, hP, hK, hD0, hZ⟩, hLx⟩ := hv
  have hx := B.exec
  have hb := B.bytes
  have hr := B.returns
  have hts := atoms_spec (ws := wsL_valves) B.pre
  have hown : s.vm.findClass RL = some m.cls := findClass_of_methodNamed B.named
  have hlocks := B.notSynchronized
  subst hsz
  have hD := hD0.self (sz := s.heap.size)
  generalize hAe : va_A (LW G u E F ++ w) s.heap.size = Aw at hD hZ ⊢
  have hA : ∀ q : Nat, s.heap.size ≤ q → Aw q := fun q h => by rw [← hAe]; exact Or.inr h
  have hS : va_S Aw s.heap s.heap [] := va_S.rf
  have hl := lv_entry ([.ref (r 0), .int act, .int x, .int y, .ref (u 0), .ref (u 1), .ref (u 3), .ref (u 4), .ref (u 5), .ref (u 6), .ref (u 9)]) (n := 17) (Nat.le_of_ble_eq_true rfl)
  rw [lg_entry_eq]
  generalize (lg_sl ([.ref (r 0), .int act, .int x, .int y, .ref (u 0), .ref (u 1), .ref (u 3), .ref (u 4), .ref (u 5), .ref (u 6), .ref (u 9)]) ++ List.replicate (17 - (lg_sl ([.ref (r 0), .int act, .int x, .int y, .ref (u 0), .ref (u 1), .ref (u 3), .ref (u 4), .ref (u 5), .ref (u 6), .ref (u 9)])).length) Slot.unset).toArray = ls at hl ⊢
  exact vvalves_0 hst hx hb hr hml hown hts hlocks hK hZ hLx hA hC hR hJ hK5 hh9 hP hD hS hl
