set_option maxHeartbeats 4000000 in
set_option maxRecDepth 100000 in
theorem law_loop {p : Program} {l : Launch} {e : Env} {s : State} {m : MethodId} {below : List Frame} {meth : Method} {c : Code} {b L : Nat} {xs : Nat → Int32} (hL : L ≤ 260) (hst : l.stackTraces = false) (hr : meth.sig.returnType = ret) (hlocks : meth.locks = false) (C0 : zLB p s m c b L xs) {G : zG} {d : Nat} (hE : zLe G d s) {r u : Nat → Nat} : ∀ (n t : Nat), t ≤ 140 → 140 < t + n → ∀ (A : Nat → Nat) (mc : Nat → Int32) (g : Nat → Nat → Int32) (N : Nat → Nat) (T : Nat → Nat → Int32) (w : va_W) (E : Nat → Int64) (F : Nat → Nat → Int32), sCQ G d r A mc g N T w → sLR N T E F → sLJ N T (2 * t) → ∀ (Hz : Heap) (Lz : List Loc), va_P G.1 vwCl (LW G u E F ++ w) Hz → va_D (fun a : Nat => s.heap.size ≤ a) (LW G u E F ++ w) → va_S (fun a : Nat => s.heap.size ≤ a) s.heap Hz Lz → ∀ ls : Array Slot, lv_has ls 18 [(12, .int (nI t)), (0, .ref b), (1, .ref (r 0)), (2, .ref (u 0)), (3, .ref (u 1)), (4, .ref (u 2)), (5, .ref (u 3)), (6, .ref (u 4)), (7, .ref (u 5)), (8, .ref (u 6)), (9, .ref (u 7)), (10, .ref (u 8)), (11, .ref (u 9))] → W p l e room_1 s m #[Value.ref b] below meth c Hz Lz (2000 + 1300 * t) (20000 + 8000 * t) (lw_Z below #[Value.ref b] s) (F0 m 111 ls []) := by
  obtain ⟨hx, hb, hml, hown, hts, hXs, hbl⟩ := id C0
  obtain ⟨hK, hZ, hLx⟩ := id hE
  have hA : ∀ a : Nat, s.heap.size ≤ a → (fun a : Nat => s.heap.size ≤ a) a := fun _ h => h
  have hbA : ¬ (fun a : Nat => s.heap.size ≤ a) b := Nat.not_le.mpr hbl
  intro n
  induction n with
  | zero => intro t h1 h2; exact absurd h2 (by omega)
  | succ n ih =>
    intro t h1 h2 A mc g N T w E F hC hR hJ Hz Lz hP hD hS ls hl
    obtain ⟨hg0, hg1, hg2, hg3, hg4, hg5, hg6, hg7, hg8⟩ := hR.2.2.2.2.2.2.2.2.2
    obtain ⟨⟨hb1, hb0, hb3, hb4, hb5⟩, -, -, -⟩ := id hJ.2
    refine lv_iload hx hb dL_law_111 (lv_at hl 0 rfl) ?_
    refine lv_sipush (v := 140) hx hb dL_law_113 (by decide) ?_
    refine lv_icmp_ge (tgt := 312) hx hb dL_law_116 (by decide) (fun zc_1 => ?_) (fun zc_1 => ?_)
    · skip
      have zd_1 := Int32.not_lt.mpr zc_1
      skip
      refine lv_iconst (v := 1) hx hb dL_law_312 (by decide) ?_
      refine va_forget (fun q hq => hS.2.2 q hq) ?_
      refine z_widen (k := 676113) (n := 7073360) (show 2000 + 1300 * t ≤ 676113 by omega) (show 20000 + 8000 * t ≤ 7073360 by omega) ?_
      exact lw_ret hx hb hr hlocks dL_law_313
    · skip
      have zd_1 := Int32.not_le.mp zc_1
      have hlt : t < 140 := Nat.lt_of_not_le (fun z => zc_1 ((nI_leI (a := 140) (b := t) (by omega) (by omega)).mpr z))
      refine lv_aload hx hb dL_law_119 (lv_at hl 12 rfl) ?_
      refine lv_iconst (v := 1) hx hb dL_law_121 (by decide) ?_
      refine va_iald hx hb hK (z_apL hP) 9 0 rfl rfl (vp_in_nI (n := 1) (by decide) (by decide)) dL_law_122 ?_
      refine W.eq (g2 := F0 m 123 ls [.int (nI (N 1))]) (by rw [show (F 9) (1 : Int32).toNatClampNeg = nI (N 1) from hg1]) ?_
      refine lv_bipush (v := 90) hx hb dL_law_123 (by decide) ?_
      refine lv_icmp_gt (tgt := 138) hx hb dL_law_125 (by decide) (fun zc_2 => ?_) (fun zc_2 => ?_)
      · skip
        have zd_2 := Int32.not_le.mpr zc_2
        skip
        refine lv_iconst (v := 1) hx hb dL_law_138 (by decide) ?_
        refine va_forget (fun q hq => hS.2.2 q hq) ?_
        refine z_widen (k := 676113) (n := 7073360) (show 2000 + 1300 * t ≤ 676113 by omega) (show 20000 + 8000 * t ≤ 7073360 by omega) ?_
        exact lw_ret hx hb hr hlocks dL_law_139
      · skip
        have zd_2 := Int32.not_lt.mp zc_2
        have h90 : N 1 ≤ 90 := (nI_leI (a := N 1) (b := 90) (by omega) (by omega)).mp (Int32.not_lt.mp zc_2)
        refine lv_aload hx hb dL_law_128 (lv_at hl 12 rfl) ?_
        refine lv_iconst (v := 0) hx hb dL_law_130 (by decide) ?_
        refine va_iald hx hb hK (z_apL hP) 9 0 rfl rfl (vp_in_nI (n := 0) (by decide) (by decide)) dL_law_131 ?_
        refine W.eq (g2 := F0 m 132 ls [.int (nI (N 0))]) (by rw [show (F 9) (0 : Int32).toNatClampNeg = nI (N 0) from hg0]) ?_
        refine lv_sipush (v := 1900) hx hb dL_law_132 (by decide) ?_
        refine lv_icmp_le (tgt := 140) hx hb dL_law_135 (by decide) (fun zc_3 => ?_) (fun zc_3 => ?_)
        · skip
          have zd_3 := Int32.not_lt.mpr zc_3
          have h19 : N 0 ≤ 1900 := (nI_leI (a := N 0) (b := 1900) (by omega) (by omega)).mp zc_3
          have hh9 : N 1 ≤ 90 ∧ N 0 ≤ 1900 := ⟨h90, h19⟩
          refine lv_aload_n hx hb dL_law_140 rfl (lv_at hl 1 rfl) ?_
          refine lv_iconst (v := 3) hx hb dL_law_141 (by decide) ?_
          refine lv_iload hx hb dL_law_142 (lv_at hl 0 rfl) ?_
          refine lv_imul hx hb dL_law_144 ?_
          refine W.eq (g2 := F0 m 145 ls [.int (nI (3 * t)), .ref b]) (by first | (rw [show (3 : Int32) = nI 3 from rfl, pk_mul]; done) | (rw [show (3 : Int32) = nI 3 from rfl, pk_mul]; rfl)) ?_
          refine z_csi (va_Run.run (va_runS (As := [.ref b, .int (nI (3 * t))]) (rest := []) ⟨hx, hb, hml, hown, hts⟩ (c_L_cell l b L (3 * t) xs hL (by omega)) (va_cwS 2 hts gL_law_L_cell rfl rfl rfl (by decide +kernel) ⟨Nat.le_of_ble_eq_true rfl, Nat.le_of_ble_eq_true rfl⟩) (z_xs hXs hbl hbA hS) rfl rfl hl.1 rfl (lv_room (Nat.le_of_ble_eq_true rfl)) dL_law_145 ⟨(show 2000 + 1300 * t + 0 ≤ 676113 by omega), (show 20000 + 8000 * t + 0 ≤ 7073360 by omega)⟩)) (fun zr_4 hzr_4 => ?_)
          refine lv_istore (lv' := [(13, .int zr_4), (12, .int (nI t)), (0, .ref b), (1, .ref (r 0)), (2, .ref (u 0)), (3, .ref (u 1)), (4, .ref (u 2)), (5, .ref (u 3)), (6, .ref (u 4)), (7, .ref (u 5)), (8, .ref (u 6)), (9, .ref (u 7)), (10, .ref (u 8)), (11, .ref (u 9))]) hx hb dL_law_148 hl (by decide) rfl (fun ls hl => ?_)
          refine lv_aload_n hx hb dL_law_150 rfl (lv_at hl 2 rfl) ?_
          refine lv_iconst (v := 3) hx hb dL_law_151 (by decide) ?_
          refine lv_iload hx hb dL_law_152 (lv_at hl 1 rfl) ?_
          refine lv_imul hx hb dL_law_154 ?_
          refine W.eq (g2 := F0 m 155 ls [.int (nI (3 * t)), .ref b]) (by first | (rw [show (3 : Int32) = nI 3 from rfl, pk_mul]; done) | (rw [show (3 : Int32) = nI 3 from rfl, pk_mul]; rfl)) ?_
          refine lv_iconst (v := 1) hx hb dL_law_155 (by decide) ?_
          refine lv_iadd hx hb dL_law_156 ?_
          refine W.eq (g2 := F0 m 157 ls [.int (nI (3 * t + 1)), .ref b]) (by first | (rw [nI_1]; done) | (rw [nI_1]; rfl)) ?_
          refine z_csi (va_Run.run (va_runS (As := [.ref b, .int (nI (3 * t + 1))]) (rest := []) ⟨hx, hb, hml, hown, hts⟩ (c_L_cell l b L (3 * t + 1) xs hL (by omega)) (va_cwS 2 hts gL_law_L_cell rfl rfl rfl (by decide +kernel) ⟨Nat.le_of_ble_eq_true rfl, Nat.le_of_ble_eq_true rfl⟩) (z_xs hXs hbl hbA hS) rfl rfl hl.1 rfl (lv_room (Nat.le_of_ble_eq_true rfl)) dL_law_157 ⟨(show 2000 + 1300 * t + 0 ≤ 676113 by omega), (show 20000 + 8000 * t + 0 ≤ 7073360 by omega)⟩)) (fun zr_5 hzr_5 => ?_)
          refine lv_istore (lv' := [(14, .int zr_5), (13, .int zr_4), (12, .int (nI t)), (0, .ref b), (1, .ref (r 0)), (2, .ref (u 0)), (3, .ref (u 1)), (4, .ref (u 2)), (5, .ref (u 3)), (6, .ref (u 4)), (7, .ref (u 5)), (8, .ref (u 6)), (9, .ref (u 7)), (10, .ref (u 8)), (11, .ref (u 9))]) hx hb dL_law_160 hl (by decide) rfl (fun ls hl => ?_)
          refine lv_aload_n hx hb dL_law_162 rfl (lv_at hl 3 rfl) ?_
          refine lv_iconst (v := 3) hx hb dL_law_163 (by decide) ?_
          refine lv_iload hx hb dL_law_164 (lv_at hl 2 rfl) ?_
          refine lv_imul hx hb dL_law_166 ?_
          refine W.eq (g2 := F0 m 167 ls [.int (nI (3 * t)), .ref b]) (by first | (rw [show (3 : Int32) = nI 3 from rfl, pk_mul]; done) | (rw [show (3 : Int32) = nI 3 from rfl, pk_mul]; rfl)) ?_
          refine lv_iconst (v := 2) hx hb dL_law_167 (by decide) ?_
          refine lv_iadd hx hb dL_law_168 ?_
          refine W.eq (g2 := F0 m 169 ls [.int (nI (3 * t + 2)), .ref b]) (by first | (rw [show (2 : Int32) = nI 2 from rfl, nI_add]; done) | (rw [show (2 : Int32) = nI 2 from rfl, nI_add]; rfl)) ?_
          refine z_csi (va_Run.run (va_runS (As := [.ref b, .int (nI (3 * t + 2))]) (rest := []) ⟨hx, hb, hml, hown, hts⟩ (c_L_cell l b L (3 * t + 2) xs hL (by omega)) (va_cwS 2 hts gL_law_L_cell rfl rfl rfl (by decide +kernel) ⟨Nat.le_of_ble_eq_true rfl, Nat.le_of_ble_eq_true rfl⟩) (z_xs hXs hbl hbA hS) rfl rfl hl.1 rfl (lv_room (Nat.le_of_ble_eq_true rfl)) dL_law_169 ⟨(show 2000 + 1300 * t + 0 ≤ 676113 by omega), (show 20000 + 8000 * t + 0 ≤ 7073360 by omega)⟩)) (fun zr_6 hzr_6 => ?_)
          refine lv_istore (lv' := [(15, .int zr_6), (14, .int zr_5), (13, .int zr_4), (12, .int (nI t)), (0, .ref b), (1, .ref (r 0)), (2, .ref (u 0)), (3, .ref (u 1)), (4, .ref (u 2)), (5, .ref (u 3)), (6, .ref (u 4)), (7, .ref (u 5)), (8, .ref (u 6)), (9, .ref (u 7)), (10, .ref (u 8)), (11, .ref (u 9))]) hx hb dL_law_172 hl (by decide) rfl (fun ls hl => ?_)
          refine lv_iload hx hb dL_law_174 (lv_at hl 2 rfl) ?_
          refine lv_bipush (v := 34) hx hb dL_law_176 (by decide) ?_
          refine z_csi (va_Run.run (va_runS (As := [.int zr_4, .int 34]) (rest := []) ⟨hx, hb, hml, hown, hts⟩ (c_L_low l G zr_4 34 (by omega) (by omega)) (va_cwS 2 hts gL_law_L_low rfl rfl rfl (by decide +kernel) ⟨Nat.le_of_ble_eq_true rfl, Nat.le_of_ble_eq_true rfl⟩) (z_ps hK z_none) rfl rfl hl.1 rfl (lv_room (Nat.le_of_ble_eq_true rfl)) dL_law_178 ⟨(show 2000 + 1300 * t + 0 ≤ 676113 by omega), (show 20000 + 8000 * t + 0 ≤ 7073360 by omega)⟩)) (fun zr_7 hzr_7 => ?_)
          obtain ⟨ja, hja, rfl⟩ := hzr_7
          refine lv_istore (lv' := [(16, .int (nI ja)), (15, .int zr_6), (14, .int zr_5), (13, .int zr_4), (12, .int (nI t)), (0, .ref b), (1, .ref (r 0)), (2, .ref (u 0)), (3, .ref (u 1)), (4, .ref (u 2)), (5, .ref (u 3)), (6, .ref (u 4)), (7, .ref (u 5)), (8, .ref (u 6)), (9, .ref (u 7)), (10, .ref (u 8)), (11, .ref (u 9))]) hx hb dL_law_181 hl (by decide) rfl (fun ls hl => ?_)
          refine lv_iload hx hb dL_law_183 (lv_at hl 0 rfl) ?_
          refine lv_bipush (v := 13) hx hb dL_law_185 (by decide) ?_
          refine lv_icmp_ge (tgt := 215) hx hb dL_law_187 (by decide) (fun zc_8 => ?_) (fun zc_8 => ?_)
          · skip
            have zd_8 := Int32.not_lt.mpr zc_8
            refine lv_iload hx hb dL_law_215 (lv_at hl 0 rfl) ?_
            refine lv_bipush (v := 24) hx hb dL_law_217 (by decide) ?_
            refine lv_icmp_ge (tgt := 250) hx hb dL_law_219 (by decide) (fun zc_9 => ?_) (fun zc_9 => ?_)
            · skip
              have zd_9 := Int32.not_lt.mpr zc_9
              refine lv_aload_n hx hb dL_law_250 rfl (lv_at hl 6 rfl) ?_
              refine lv_iload hx hb dL_law_251 (lv_at hl 0 rfl) ?_
              refine lv_bipush (v := 24) hx hb dL_law_253 (by decide) ?_
              refine lv_isub hx hb dL_law_255 ?_
              refine lv_iload hx hb dL_law_256 (lv_at hl 2 rfl) ?_
              refine lv_iload hx hb dL_law_258 (lv_at hl 1 rfl) ?_
              refine lv_aload_n hx hb dL_law_260 rfl (lv_at hl 7 rfl) ?_
              refine lv_aload hx hb dL_law_261 (lv_at hl 14 rfl) ?_
              refine lv_aload hx hb dL_law_263 (lv_at hl 15 rfl) ?_
              refine lv_aload hx hb dL_law_265 (lv_at hl 16 rfl) ?_
              refine z_cui (G := G) (va_runS (As := [.ref (r 0), .int ((nI ja) - 24), .int zr_5, .int zr_6, .ref (u 0), .ref (u 7), .ref (u 8), .ref (u 9)]) (rest := []) ⟨hx, hb, hml, hown, hts⟩ (c_L_chats l hst G d r u ((nI ja) - 24) zr_5 zr_6 A mc g N T w E F (2 * t) Hz.size hC hR hJ (by omega) hh9) (va_cwS 8 hts gL_law_L_chats rfl rfl rfl (by decide +kernel) ⟨Nat.le_of_ble_eq_true rfl, Nat.le_of_ble_eq_true rfl⟩) (z_hs hK hP hD hZ hLx hS hA) rfl rfl hl.1 rfl (lv_room (Nat.le_of_ble_eq_true rfl)) dL_law_267 ⟨(show 2000 + 1300 * t + 600 ≤ 676113 by omega), (show 20000 + 8000 * t + 3600 ≤ 7073360 by omega)⟩) hD hS hA (fun rz w1 Hz Lz hw hP hD hS => ?_)
              refine z_widen (k := 2600 + 1300 * t) (n := 23600 + 8000 * t) (show 2000 + 1300 * t + 600 ≤ 2600 + 1300 * t by omega) (show 20000 + 8000 * t + 3600 ≤ 23600 + 8000 * t by omega) ?_
              obtain ⟨hr9, N, T, E, F, w, rfl, ⟨A, mc, g, hC⟩, hR, hJ⟩ := hw
              rw [hr9]
              refine lv_istore (lv' := [(17, .int 1), (16, .int (nI ja)), (15, .int zr_6), (14, .int zr_5), (13, .int zr_4), (12, .int (nI t)), (0, .ref b), (1, .ref (r 0)), (2, .ref (u 0)), (3, .ref (u 1)), (4, .ref (u 2)), (5, .ref (u 3)), (6, .ref (u 4)), (7, .ref (u 5)), (8, .ref (u 6)), (9, .ref (u 7)), (10, .ref (u 8)), (11, .ref (u 9))]) hx hb dL_law_270 hl (by decide) rfl (fun ls hl => ?_)
              refine lv_iload hx hb dL_law_272 (lv_at hl 0 rfl) ?_
              refine lv_if_eq (tgt := 304) hx hb dL_law_274 (by decide) (fun zc_10 => absurd zc_10 (by decide)) (fun _ => ?_)
              refine lv_aload_n hx hb dL_law_277 rfl (lv_at hl 7 rfl) ?_
              refine lv_iload hx hb dL_law_278 (lv_at hl 4 rfl) ?_
              refine lv_iconst (v := 5) hx hb dL_law_280 (by decide) ?_
              refine lv_ishr hx hb dL_law_281 ?_
              refine lv_iload hx hb dL_law_282 (lv_at hl 2 rfl) ?_
              refine lv_ixor hx hb dL_law_284 ?_
              refine lv_aload_n hx hb dL_law_285 rfl (lv_at hl 8 rfl) ?_
              refine lv_aload hx hb dL_law_286 (lv_at hl 10 rfl) ?_
              refine lv_aload hx hb dL_law_288 (lv_at hl 11 rfl) ?_
              refine lv_aload hx hb dL_law_290 (lv_at hl 12 rfl) ?_
              refine lv_aload hx hb dL_law_292 (lv_at hl 14 rfl) ?_
              refine lv_aload hx hb dL_law_294 (lv_at hl 15 rfl) ?_
              refine lv_aload hx hb dL_law_296 (lv_at hl 17 rfl) ?_
              refine z_cui (G := G) (va_runS (As := [.ref (r 0), .int ((zr_4 >>> (5 &&& 31)) ^^^ zr_6), .ref (u 0), .ref (u 2), .ref (u 3), .ref (u 4), .ref (u 6), .ref (u 7), .ref (u 9)]) (rest := []) ⟨hx, hb, hml, hown, hts⟩ (c_L_isTold l hst G d r u ((zr_4 >>> (5 &&& 31)) ^^^ zr_6) A mc g N T w E F (2 * t + 2) Hz.size hC hR hJ (by omega)) (va_cwS 9 hts gL_law_L_isTold rfl rfl rfl (by decide +kernel) ⟨Nat.le_of_ble_eq_true rfl, Nat.le_of_ble_eq_true rfl⟩) (z_hs hK hP hD hZ hLx hS hA) rfl rfl hl.1 rfl (lv_room (Nat.le_of_ble_eq_true rfl)) dL_law_298 ⟨(show 2600 + 1300 * t + 700 ≤ 676113 by omega), (show 23600 + 8000 * t + 4200 ≤ 7073360 by omega)⟩) hD hS hA (fun rz w1 Hz Lz hw hP hD hS => ?_)
              refine z_widen (k := 3300 + 1300 * t) (n := 27800 + 8000 * t) (show 2600 + 1300 * t + 700 ≤ 3300 + 1300 * t by omega) (show 23600 + 8000 * t + 4200 ≤ 27800 + 8000 * t by omega) ?_
              obtain ⟨hr9, w, rfl, A, mc, g, hC⟩ := hw
              rw [hr9]
              refine lv_if_ne (tgt := 306) hx hb dL_law_301 (by decide) (fun _ => ?_) (fun zc_11 => absurd zc_11 (by decide))
              refine lv_iinc (v := (nI (t + 1))) (lv' := [(12, .int (nI (t + 1))), (17, .int 1), (16, .int (nI ja)), (15, .int zr_6), (14, .int zr_5), (13, .int zr_4), (0, .ref b), (1, .ref (r 0)), (2, .ref (u 0)), (3, .ref (u 1)), (4, .ref (u 2)), (5, .ref (u 3)), (6, .ref (u 4)), (7, .ref (u 5)), (8, .ref (u 6)), (9, .ref (u 7)), (10, .ref (u 8)), (11, .ref (u 9))]) hx hb dL_law_306 hl (k := 5) rfl (by first | exact nI_1 _ | rfl) (by decide) rfl (fun ls hl => ?_)
              refine lv_goto (tgt := 111) hx hb dL_law_309 (by decide) ?_
              exact z_widen (show 3300 + 1300 * t ≤ 2000 + 1300 * (t + 1) by omega) (show 27800 + 8000 * t ≤ 20000 + 8000 * (t + 1) by omega) (ih (t + 1) (by omega) (by omega) A mc g N T w E F hC hR (show sLJ N T (2 * (t + 1)) from hJ) _ _ hP hD hS ls (lv_sub hl [0, 6, 7, 8, 9, 10, 11, 12, 13, 14, 15, 16, 17] rfl))
            · skip
              have zd_9 := Int32.not_le.mp zc_9
              refine lv_aload_n hx hb dL_law_222 rfl (lv_at hl 6 rfl) ?_
              refine lv_iload hx hb dL_law_223 (lv_at hl 0 rfl) ?_
              refine lv_bipush (v := 13) hx hb dL_law_225 (by decide) ?_
              refine lv_isub hx hb dL_law_227 ?_
              refine lv_iload hx hb dL_law_228 (lv_at hl 2 rfl) ?_
              refine lv_iload hx hb dL_law_230 (lv_at hl 1 rfl) ?_
              refine lv_aload_n hx hb dL_law_232 rfl (lv_at hl 7 rfl) ?_
              refine lv_aload_n hx hb dL_law_233 rfl (lv_at hl 8 rfl) ?_
              refine lv_aload hx hb dL_law_234 (lv_at hl 9 rfl) ?_
              refine lv_aload hx hb dL_law_236 (lv_at hl 10 rfl) ?_
              refine lv_aload hx hb dL_law_238 (lv_at hl 11 rfl) ?_
              refine lv_aload hx hb dL_law_240 (lv_at hl 13 rfl) ?_
              refine lv_aload hx hb dL_law_242 (lv_at hl 16 rfl) ?_
              refine z_cui (G := G) (va_runS (As := [.ref (r 0), .int ((nI ja) - 13), .int zr_5, .int zr_6, .ref (u 0), .ref (u 1), .ref (u 2), .ref (u 3), .ref (u 4), .ref (u 6), .ref (u 9)]) (rest := []) ⟨hx, hb, hml, hown, hts⟩ (c_L_people l hst G d r u ((nI ja) - 13) zr_5 zr_6 A mc g N T w E F (2 * t) Hz.size hC hR hJ (by omega) hh9) (va_cwS 11 hts gL_law_L_people rfl rfl rfl (by decide +kernel) ⟨Nat.le_of_ble_eq_true rfl, Nat.le_of_ble_eq_true rfl⟩) (z_hs hK hP hD hZ hLx hS hA) rfl rfl hl.1 rfl (lv_room (Nat.le_of_ble_eq_true rfl)) dL_law_244 ⟨(show 2000 + 1300 * t + 400 ≤ 676113 by omega), (show 20000 + 8000 * t + 2400 ≤ 7073360 by omega)⟩) hD hS hA (fun rz w1 Hz Lz hw hP hD hS => ?_)
              refine z_widen (k := 2400 + 1300 * t) (n := 22400 + 8000 * t) (show 2000 + 1300 * t + 400 ≤ 2400 + 1300 * t by omega) (show 20000 + 8000 * t + 2400 ≤ 22400 + 8000 * t by omega) ?_
              obtain ⟨hr9, N, T, E, F, w, rfl, ⟨A, mc, g, hC⟩, hR, hJ⟩ := hw
              rw [hr9]
              refine lv_goto (tgt := 270) hx hb dL_law_247 (by decide) ?_
              refine lv_istore (lv' := [(17, .int 1), (16, .int (nI ja)), (15, .int zr_6), (14, .int zr_5), (13, .int zr_4), (12, .int (nI t)), (0, .ref b), (1, .ref (r 0)), (2, .ref (u 0)), (3, .ref (u 1)), (4, .ref (u 2)), (5, .ref (u 3)), (6, .ref (u 4)), (7, .ref (u 5)), (8, .ref (u 6)), (9, .ref (u 7)), (10, .ref (u 8)), (11, .ref (u 9))]) hx hb dL_law_270 hl (by decide) rfl (fun ls hl => ?_)
              refine lv_iload hx hb dL_law_272 (lv_at hl 0 rfl) ?_
              refine lv_if_eq (tgt := 304) hx hb dL_law_274 (by decide) (fun zc_12 => absurd zc_12 (by decide)) (fun _ => ?_)
              refine lv_aload_n hx hb dL_law_277 rfl (lv_at hl 7 rfl) ?_
              refine lv_iload hx hb dL_law_278 (lv_at hl 4 rfl) ?_
              refine lv_iconst (v := 5) hx hb dL_law_280 (by decide) ?_
              refine lv_ishr hx hb dL_law_281 ?_
              refine lv_iload hx hb dL_law_282 (lv_at hl 2 rfl) ?_
              refine lv_ixor hx hb dL_law_284 ?_
              refine lv_aload_n hx hb dL_law_285 rfl (lv_at hl 8 rfl) ?_
              refine lv_aload hx hb dL_law_286 (lv_at hl 10 rfl) ?_
              refine lv_aload hx hb dL_law_288 (lv_at hl 11 rfl) ?_
              refine lv_aload hx hb dL_law_290 (lv_at hl 12 rfl) ?_
              refine lv_aload hx hb dL_law_292 (lv_at hl 14 rfl) ?_
              refine lv_aload hx hb dL_law_294 (lv_at hl 15 rfl) ?_
              refine lv_aload hx hb dL_law_296 (lv_at hl 17 rfl) ?_
              refine z_cui (G := G) (va_runS (As := [.ref (r 0), .int ((zr_4 >>> (5 &&& 31)) ^^^ zr_6), .ref (u 0), .ref (u 2), .ref (u 3), .ref (u 4), .ref (u 6), .ref (u 7), .ref (u 9)]) (rest := []) ⟨hx, hb, hml, hown, hts⟩ (c_L_isTold l hst G d r u ((zr_4 >>> (5 &&& 31)) ^^^ zr_6) A mc g N T w E F (2 * t + 2) Hz.size hC hR hJ (by omega)) (va_cwS 9 hts gL_law_L_isTold rfl rfl rfl (by decide +kernel) ⟨Nat.le_of_ble_eq_true rfl, Nat.le_of_ble_eq_true rfl⟩) (z_hs hK hP hD hZ hLx hS hA) rfl rfl hl.1 rfl (lv_room (Nat.le_of_ble_eq_true rfl)) dL_law_298 ⟨(show 2400 + 1300 * t + 700 ≤ 676113 by omega), (show 22400 + 8000 * t + 4200 ≤ 7073360 by omega)⟩) hD hS hA (fun rz w1 Hz Lz hw hP hD hS => ?_)
              refine z_widen (k := 3100 + 1300 * t) (n := 26600 + 8000 * t) (show 2400 + 1300 * t + 700 ≤ 3100 + 1300 * t by omega) (show 22400 + 8000 * t + 4200 ≤ 26600 + 8000 * t by omega) ?_
              obtain ⟨hr9, w, rfl, A, mc, g, hC⟩ := hw
              rw [hr9]
              refine lv_if_ne (tgt := 306) hx hb dL_law_301 (by decide) (fun _ => ?_) (fun zc_13 => absurd zc_13 (by decide))
              refine lv_iinc (v := (nI (t + 1))) (lv' := [(12, .int (nI (t + 1))), (17, .int 1), (16, .int (nI ja)), (15, .int zr_6), (14, .int zr_5), (13, .int zr_4), (0, .ref b), (1, .ref (r 0)), (2, .ref (u 0)), (3, .ref (u 1)), (4, .ref (u 2)), (5, .ref (u 3)), (6, .ref (u 4)), (7, .ref (u 5)), (8, .ref (u 6)), (9, .ref (u 7)), (10, .ref (u 8)), (11, .ref (u 9))]) hx hb dL_law_306 hl (k := 5) rfl (by first | exact nI_1 _ | rfl) (by decide) rfl (fun ls hl => ?_)
              refine lv_goto (tgt := 111) hx hb dL_law_309 (by decide) ?_
              exact z_widen (show 3100 + 1300 * t ≤ 2000 + 1300 * (t + 1) by omega) (show 26600 + 8000 * t ≤ 20000 + 8000 * (t + 1) by omega) (ih (t + 1) (by omega) (by omega) A mc g N T w E F hC hR (show sLJ N T (2 * (t + 1)) from hJ) _ _ hP hD hS ls (lv_sub hl [0, 6, 7, 8, 9, 10, 11, 12, 13, 14, 15, 16, 17] rfl))
          · skip
            have zd_8 := Int32.not_le.mp zc_8
            refine lv_aload_n hx hb dL_law_190 rfl (lv_at hl 6 rfl) ?_
            refine lv_iload hx hb dL_law_191 (lv_at hl 0 rfl) ?_
            refine lv_iload hx hb dL_law_193 (lv_at hl 2 rfl) ?_
            refine lv_iload hx hb dL_law_195 (lv_at hl 1 rfl) ?_
            refine lv_aload_n hx hb dL_law_197 rfl (lv_at hl 7 rfl) ?_
            refine lv_aload_n hx hb dL_law_198 rfl (lv_at hl 8 rfl) ?_
            refine lv_aload hx hb dL_law_199 (lv_at hl 10 rfl) ?_
            refine lv_aload hx hb dL_law_201 (lv_at hl 11 rfl) ?_
            refine lv_aload hx hb dL_law_203 (lv_at hl 12 rfl) ?_
            refine lv_aload hx hb dL_law_205 (lv_at hl 13 rfl) ?_
            refine lv_aload hx hb dL_law_207 (lv_at hl 16 rfl) ?_
            refine z_cui (G := G) (va_runS (As := [.ref (r 0), .int (nI ja), .int zr_5, .int zr_6, .ref (u 0), .ref (u 1), .ref (u 3), .ref (u 4), .ref (u 5), .ref (u 6), .ref (u 9)]) (rest := []) ⟨hx, hb, hml, hown, hts⟩ (c_L_valves l hst G d r u (nI ja) zr_5 zr_6 A mc g N T w E F (2 * t) Hz.size hC hR hJ (by omega) hh9) (va_cwS 11 hts gL_law_L_valves rfl rfl rfl (by decide +kernel) ⟨Nat.le_of_ble_eq_true rfl, Nat.le_of_ble_eq_true rfl⟩) (z_hs hK hP hD hZ hLx hS hA) rfl rfl hl.1 rfl (lv_room (Nat.le_of_ble_eq_true rfl)) dL_law_209 ⟨(show 2000 + 1300 * t + 400 ≤ 676113 by omega), (show 20000 + 8000 * t + 2400 ≤ 7073360 by omega)⟩) hD hS hA (fun rz w1 Hz Lz hw hP hD hS => ?_)
            refine z_widen (k := 2400 + 1300 * t) (n := 22400 + 8000 * t) (show 2000 + 1300 * t + 400 ≤ 2400 + 1300 * t by omega) (show 20000 + 8000 * t + 2400 ≤ 22400 + 8000 * t by omega) ?_
            obtain ⟨hr9, N, T, E, F, w, rfl, ⟨A, mc, g, hC⟩, hR, hJ⟩ := hw
            rw [hr9]
            refine lv_goto (tgt := 270) hx hb dL_law_212 (by decide) ?_
            refine lv_istore (lv' := [(17, .int 1), (16, .int (nI ja)), (15, .int zr_6), (14, .int zr_5), (13, .int zr_4), (12, .int (nI t)), (0, .ref b), (1, .ref (r 0)), (2, .ref (u 0)), (3, .ref (u 1)), (4, .ref (u 2)), (5, .ref (u 3)), (6, .ref (u 4)), (7, .ref (u 5)), (8, .ref (u 6)), (9, .ref (u 7)), (10, .ref (u 8)), (11, .ref (u 9))]) hx hb dL_law_270 hl (by decide) rfl (fun ls hl => ?_)
            refine lv_iload hx hb dL_law_272 (lv_at hl 0 rfl) ?_
            refine lv_if_eq (tgt := 304) hx hb dL_law_274 (by decide) (fun zc_14 => absurd zc_14 (by decide)) (fun _ => ?_)
            refine lv_aload_n hx hb dL_law_277 rfl (lv_at hl 7 rfl) ?_
            refine lv_iload hx hb dL_law_278 (lv_at hl 4 rfl) ?_
            refine lv_iconst (v := 5) hx hb dL_law_280 (by decide) ?_
            refine lv_ishr hx hb dL_law_281 ?_
            refine lv_iload hx hb dL_law_282 (lv_at hl 2 rfl) ?_
            refine lv_ixor hx hb dL_law_284 ?_
            refine lv_aload_n hx hb dL_law_285 rfl (lv_at hl 8 rfl) ?_
            refine lv_aload hx hb dL_law_286 (lv_at hl 10 rfl) ?_
            refine lv_aload hx hb dL_law_288 (lv_at hl 11 rfl) ?_
            refine lv_aload hx hb dL_law_290 (lv_at hl 12 rfl) ?_
            refine lv_aload hx hb dL_law_292 (lv_at hl 14 rfl) ?_
            refine lv_aload hx hb dL_law_294 (lv_at hl 15 rfl) ?_
            refine lv_aload hx hb dL_law_296 (lv_at hl 17 rfl) ?_
            refine z_cui (G := G) (va_runS (As := [.ref (r 0), .int ((zr_4 >>> (5 &&& 31)) ^^^ zr_6), .ref (u 0), .ref (u 2), .ref (u 3), .ref (u 4), .ref (u 6), .ref (u 7), .ref (u 9)]) (rest := []) ⟨hx, hb, hml, hown, hts⟩ (c_L_isTold l hst G d r u ((zr_4 >>> (5 &&& 31)) ^^^ zr_6) A mc g N T w E F (2 * t + 2) Hz.size hC hR hJ (by omega)) (va_cwS 9 hts gL_law_L_isTold rfl rfl rfl (by decide +kernel) ⟨Nat.le_of_ble_eq_true rfl, Nat.le_of_ble_eq_true rfl⟩) (z_hs hK hP hD hZ hLx hS hA) rfl rfl hl.1 rfl (lv_room (Nat.le_of_ble_eq_true rfl)) dL_law_298 ⟨(show 2400 + 1300 * t + 700 ≤ 676113 by omega), (show 22400 + 8000 * t + 4200 ≤ 7073360 by omega)⟩) hD hS hA (fun rz w1 Hz Lz hw hP hD hS => ?_)
            refine z_widen (k := 3100 + 1300 * t) (n := 26600 + 8000 * t) (show 2400 + 1300 * t + 700 ≤ 3100 + 1300 * t by omega) (show 22400 + 8000 * t + 4200 ≤ 26600 + 8000 * t by omega) ?_
            obtain ⟨hr9, w, rfl, A, mc, g, hC⟩ := hw
            rw [hr9]
            refine lv_if_ne (tgt := 306) hx hb dL_law_301 (by decide) (fun _ => ?_) (fun zc_15 => absurd zc_15 (by decide))
            refine lv_iinc (v := (nI (t + 1))) (lv' := [(12, .int (nI (t + 1))), (17, .int 1), (16, .int (nI ja)), (15, .int zr_6), (14, .int zr_5), (13, .int zr_4), (0, .ref b), (1, .ref (r 0)), (2, .ref (u 0)), (3, .ref (u 1)), (4, .ref (u 2)), (5, .ref (u 3)), (6, .ref (u 4)), (7, .ref (u 5)), (8, .ref (u 6)), (9, .ref (u 7)), (10, .ref (u 8)), (11, .ref (u 9))]) hx hb dL_law_306 hl (k := 5) rfl (by first | exact nI_1 _ | rfl) (by decide) rfl (fun ls hl => ?_)
            refine lv_goto (tgt := 111) hx hb dL_law_309 (by decide) ?_
            exact z_widen (show 3100 + 1300 * t ≤ 2000 + 1300 * (t + 1) by omega) (show 26600 + 8000 * t ≤ 20000 + 8000 * (t + 1) by omega) (ih (t + 1) (by omega) (by omega) A mc g N T w E F hC hR (show sLJ N T (2 * (t + 1)) from hJ) _ _ hP hD hS ls (lv_sub hl [0, 6, 7, 8, 9, 10, 11, 12, 13, 14, 15, 16, 17] rfl))
        · skip
          have zd_3 := Int32.not_le.mp zc_3
          skip
          refine lv_iconst (v := 1) hx hb dL_law_138 (by decide) ?_
          refine va_forget (fun q hq => hS.2.2 q hq) ?_
          refine z_widen (k := 676113) (n := 7073360) (show 2000 + 1300 * t ≤ 676113 by omega) (show 20000 + 8000 * t ≤ 7073360 by omega) ?_
          exact lw_ret hx hb hr hlocks dL_law_139
