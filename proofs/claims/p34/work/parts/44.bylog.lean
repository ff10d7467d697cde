set_option maxHeartbeats 4000000 in
set_option maxRecDepth 100000 in
theorem c_X6_isOpenByLog (l : Launch) (hst : l.stackTraces = false) (G : zG) (d : Nat) (r A : Nat → Nat) (mc : Nat → Int32) (g : Nat → Nat → Int32) (N : Nat → Nat) (T : Nat → Nat → Int32) (w : va_W) (K : Nat) (a1 : Int32) (sz : Nat) (hC : sCQ G d r A mc g N T w) (hI : sInv N T K 0) (hKk : K ≤ 511) (hLG : sLG N T) : vx_Met l yX6_isOpenByLog wsX6_isOpenByLog ({ frames := 7, cells := 2, slots := 12, locals := 110 }) (va_Pc [.ref (r 0), .int a1] (zCu G d w sz)) (va_Qi (fun (r1 : Int32) (w1 : va_W) => sK1 (sIx a1 8) = 0 ∧ r1 = T 3 a1.toNatClampNeg ∧ sCO G d r N T w1) (zB G (va_A w sz)) (va_A w sz)) (zXk ["java/lang/IndexOutOfBoundsException"] (sK1 (sIx a1 8))) (2) (12) (va_A w sz) := by
  refine vx_ofW (cc := cX6_isOpenByLog) (maxL := 3) (ret := (some .boolean)) (by decide) rfl ?_
  intro p e s m args below meth c s₁ B hml hxt hv
  obtain ⟨rfl, hsz, hP, hK, hD0, hZ⟩ := hv
  have hx := B.exec
  have hb := B.bytes
  have hr := B.returns
  have hts := atoms_spec (ws := wsX6_isOpenByLog) B.pre
  have hown : s.vm.findClass RX6 = some m.cls := findClass_of_methodNamed B.named
  have hlocks := B.notSynchronized
  have hi_X6 : ∀ w ∈ u_ws RX6 TX6 14, w ∈ wsX6_isOpenByLog := (fun _ h => List.mem_cons_of_mem _ (List.mem_append_left _ (List.mem_append_left _ (List.mem_append_right _ h))))
  have hNs := hZ.1.2.2
  have hS0 : va_S (fun _ => False) s.heap s.heap [] := va_S.rf
  subst hsz
  have hD := hD0.self (sz := s.heap.size)
  generalize hAe : va_A w s.heap.size = Aw at hD hZ ⊢
  have hA : ∀ q : Nat, s.heap.size ≤ q → Aw q := fun q h => by rw [← hAe]; exact Or.inr h
  have hS : va_S Aw s.heap s.heap [] := va_S.rf
  have hl := lv_entry ([.ref (r 0), .int a1]) (n := 3) (Nat.le_of_ble_eq_true rfl)
  rw [lg_entry_eq]
  generalize (lg_sl ([.ref (r 0), .int a1]) ++ List.replicate (3 - (lg_sl ([.ref (r 0), .int a1])).length) Slot.unset).toArray = ls at hl ⊢
  have hl : lv_has ls 3 [(0, .ref (r 0)), (1, .int a1)] := hl
  have hN := hI.sm
  obtain ⟨hn2, hn3, hn4, hn5, hn6, hn0⟩ := id hN
  have h1n := sN1_c hI hKk
  have hzt := zcap_top (N 1)
  have hzl := zcap_le (N 1)
  refine lv_iload_n hx hb dX6_isOpenByLog_0 rfl (lv_at hl 1 rfl) ?_
  refine z_chk (vx_runS (As := [.int a1]) (rest := []) ⟨hx, hb, hml, hown, hts⟩ (c_X6_checkValve l hst G w a1) (va_cwS 1 hts gX6_isOpenByLog_X6_checkValve rfl rfl rfl (by decide +kernel) ⟨Nat.le_of_ble_eq_true rfl, Nat.le_of_ble_eq_true rfl⟩) (z_rs hK hP hZ.1 hS) rfl rfl hl.1 rfl (lv_room (Nat.le_of_ble_eq_true rfl)) dX6_isOpenByLog_1 ⟨(show 0 + 1 ≤ 2 by omega), (show 0 + 6 ≤ 12 by omega)⟩) hP hS0 (fun zno => ⟨0, (show sK1 (sIx a1 8) = (1 : Int32) from by simp [sK1, sK2, sK3, zno]), rfl⟩) (fun x h => (hxt x h).elim) hlocks (show 0 + 1 ≤ 2 by omega) (show 0 + 6 ≤ 12 by omega) (fun zok_1 Hz Lz hP hS0 => ?_)
  have hS : va_S Aw s.heap Hz Lz := z_SF hS0
  have hk0 : sK1 (sIx a1 8) = 0 := by simp [sK1, sK2, sK3, zok_1]
  obtain ⟨hc8, ea1⟩ := zCl (sIx_in.mp zok_1) (by omega)
  have hlg : T 3 a1.toNatClampNeg = zb (sOpL (g 8) a1 (N 1)) := by rw [hLG.2.1 _ hc8, ← ea1, sOpL_cg (c2 := T 0) (fun q hq => hC.2 q hq)]
  refine lv_aload_n hx hb dX6_isOpenByLog_4 rfl (lv_at hl 0 rfl) ?_
  have hh0 : w[0]? = some (r 0, .inr (7, [.ref (r 1), .ref (r 2), .ref (r 3), .ref (r 4), .ref (r 5), .ref (r 6), .ref (r 7), .ref (r 8), .ref (r 9), .ref (r 10), .int (nI (N 0)), .int ((T 19) 0), .int ((T 19) 1), .int (nI (N 6))])) := hC.1.1 0 (by omega)
  refine va_get (D := G.1) (ci := 7) (v := .ref (r 9)) (C := RX6) (T := TX6) (N := 14) hx hb hts hi_X6 hown hK hP 0 hh0 rfl 8 (by decide) (hts (.fieldLink RX6 45 "BoilerLog" "log" "LBoilerLog$Log;") (List.mem_of_getElem? (i := 1) rfl)) (fun _ h9 => h9) rfl dX6_isOpenByLog_5 ?_
  have hh9 : w[9]? = some (r 9, .inr (3, [.ref (A 8), .int (nI (N 1))])) := hC.1.1 9 (by omega)
  refine z_csi (va_Run.run (va_runVN (As := []) (rest := []) ⟨hx, hb, hml, hown, hts⟩ (c_X2_size l G w 9 (r 9) (A 8) (nI (N 1)) (by assumption)) ⟨va_cnB 0 hts gX6_isOpenByLog_X2_size_n123 rfl rfl rfl (hNs.1 _ (List.mem_append_left _ (List.mem_of_getElem? (i := 11) rfl))) (hts (.initialized RX2) (List.mem_of_getElem? (i := 9) rfl)) (by decide +kernel) ⟨Nat.le_of_ble_eq_true rfl, Nat.le_of_ble_eq_true rfl⟩, hts (.instanceMethod yX2_size) (List.mem_of_getElem? (i := 8) rfl), hts (.selects RX2 yX2_size yX2_size) (List.mem_of_getElem? (i := 10) rfl)⟩ (z_pv hK hP (ci := 3) (q0 := 9) rfl hh9 hP) rfl rfl hl.1 rfl (lv_room (Nat.le_of_ble_eq_true rfl)) dX6_isOpenByLog_8 ⟨(show 0 + 1 + 0 ≤ 2 by omega), (show 0 + 6 + 0 ≤ 12 by omega)⟩)) (fun zr_1 hzr_1 => ?_)
  subst hzr_1
  refine lv_iconst (v := 1) hx hb dX6_isOpenByLog_11 (by decide) ?_
  refine lv_isub hx hb dX6_isOpenByLog_12 ?_
  refine W.eq (g2 := F0 m 13 ls [.int (nI (N 1 - 0) - 1)]) (by first | (rfl; done) | (rfl; rfl)) ?_
  refine lv_istore_n (lv' := [(2, .int (nI (N 1 - 0) - 1)), (0, .ref (r 0)), (1, .int a1)]) hx hb dX6_isOpenByLog_13 rfl hl (by decide) rfl (fun ls hl => ?_)
  have key_14 : ∀ (n i : Nat), i ≤ N 1 → N 1 < i + n → (sOpL (g 8) a1 (N 1) = sOpL (g 8) a1 (N 1 - i)) → ∀ ls : Array Slot, lv_has ls 3 [(0, .ref (r 0)), (1, .int a1), (2, .int (nI (N 1 - i) - 1))] → W p l e (headSpec wsX6_isOpenByLog ({ frames := 7, cells := 2, slots := 12, locals := 110 })).room s m ([.ref (r 0), .int a1] : List Value).toArray below meth c Hz Lz (0 + 1) (0 + 6) (vx_MQ below (va_Qi (fun (r1 : Int32) (w1 : va_W) => sK1 (sIx a1 8) = 0 ∧ r1 = T 3 a1.toNatClampNeg ∧ sCO G d r N T w1) (zB G Aw) Aw) (zXk ["java/lang/IndexOutOfBoundsException"] (sK1 (sIx a1 8))) (([.ref (r 0), .int a1] : List Value).toArray) s (2) (12) Aw) (F0 m 14 ls []) := by
    intro n
    induction n with
    | zero => intro i h1 h2; exact absurd h2 (by omega)
    | succ n ih =>
      intro i hi hn hme ls hl
      refine lv_iload_n hx hb dX6_isOpenByLog_14 rfl (lv_at hl 2 rfl) ?_
      refine lv_if_lt (tgt := 56) hx hb dX6_isOpenByLog_15 (by decide) (fun zc_2 => ?_) (fun zc_2 => ?_)
      · skip
        have zd_2 := Int32.not_le.mpr zc_2
        have zm := zNeg1 (by omega) zc_2
        refine lv_iconst (v := 0) hx hb dX6_isOpenByLog_56 (by decide) ?_
        exact vx_ret (z_widen (k := 2) (n := 12) (show 0 + 1 ≤ 2 by omega) (show 0 + 6 ≤ 12 by omega) (W.zret (v := 0) hx hb hr rfl (fun t ht hW => ⟨⟨0, w, rfl, ⟨hk0, by rw [hlg, hme, zm]; rfl, _, _, _, hC⟩, ⟨by rw [ht]; exact hP, hD⟩⟩, hS.F ht⟩) hS.2.2 dX6_isOpenByLog_57 hlocks))
      · skip
        have zd_2 := Int32.not_lt.mp zc_2
        have zm := zPos1 (by omega) zc_2
        have hnx : nI (N 1 - i) - 1 = nI (N 1 - i - 1) := by have hz9 := nI_pred (N 1 - i - 1); rw [show N 1 - i - 1 + 1 = N 1 - i by omega] at hz9; exact hz9
        rw [hnx] at hl
        refine lv_aload_n hx hb dX6_isOpenByLog_18 rfl (lv_at hl 0 rfl) ?_
        refine va_get (D := G.1) (ci := 7) (v := .ref (r 9)) (C := RX6) (T := TX6) (N := 14) hx hb hts hi_X6 hown hK hP 0 hh0 rfl 8 (by decide) (hts (.fieldLink RX6 45 "BoilerLog" "log" "LBoilerLog$Log;") (List.mem_of_getElem? (i := 1) rfl)) (fun _ h9 => h9) rfl dX6_isOpenByLog_19 ?_
        refine lv_iload_n hx hb dX6_isOpenByLog_22 rfl (lv_at hl 2 rfl) ?_
        obtain ⟨kz3, zk3, hz3⟩ := hC.1.2.1 8 (Or.inr (Or.inl rfl))
        have hz3 : w[kz3]? = some (A 8, .inl (G.2 0, (zcap (N 1)), .inl (g 8))) := hz3
        refine z_csi (va_Run.run (va_runVN (As := [.int (nI (N 1 - i - 1))]) (rest := []) ⟨hx, hb, hml, hown, hts⟩ (c_X2_kindAt l G w 9 (r 9) (A 8) (nI (N 1)) kz3 (zcap (N 1)) (g 8) (nI (N 1 - i - 1)) (by assumption) (by assumption) (vp_in_m (vp_in_nI (show N 1 - i - 1 < N 1 by omega) (by omega)) hzl)) ⟨va_cnB 1 hts gX6_isOpenByLog_X2_kindAt_n127 rfl rfl rfl (hNs.1 _ (List.mem_append_left _ (List.mem_of_getElem? (i := 12) rfl))) (hts (.initialized RX2) (List.mem_of_getElem? (i := 9) rfl)) (by decide +kernel) ⟨Nat.le_of_ble_eq_true rfl, Nat.le_of_ble_eq_true rfl⟩, hts (.instanceMethod yX2_kindAt) (List.mem_of_getElem? (i := 13) rfl), hts (.selects RX2 yX2_kindAt yX2_kindAt) (List.mem_of_getElem? (i := 14) rfl)⟩ (z_pv hK hP (ci := 3) (q0 := 9) rfl hh9 hP) rfl rfl hl.1 rfl (lv_room (Nat.le_of_ble_eq_true rfl)) dX6_isOpenByLog_23 ⟨(show 0 + 1 + 0 ≤ 2 by omega), (show 0 + 6 + 0 ≤ 12 by omega)⟩)) (fun zr_4 hzr_4 => ?_)
        subst hzr_4
        refine W.eq (g2 := F0 m 26 ls [.int (zKd (g 8 (N 1 - i - 1)))]) (by first | (rw [nI_clamp (by omega)]; done) | (rw [nI_clamp (by omega)]; rfl)) ?_
        refine lv_if_ne (tgt := 50) hx hb dX6_isOpenByLog_26 (by decide) (fun zc_5 => ?_) (fun zc_5 => ?_)
        · skip
          have hqn : ¬ (zKd (g 8 (N 1 - i - 1)) = 0 ∧ zVa (g 8 (N 1 - i - 1)) = a1) := fun z9 => zc_5 z9.1
          refine lv_iinc (v := ((nI (N 1 - i - 1)) + (-1))) (lv' := [(2, .int ((nI (N 1 - i - 1)) + (-1))), (0, .ref (r 0)), (1, .int a1)]) hx hb dX6_isOpenByLog_50 hl (k := 2) rfl (by first | exact rfl | rfl) (by decide) rfl (fun ls hl => ?_)
          refine lv_goto (tgt := 14) hx hb dX6_isOpenByLog_53 (by decide) ?_
          have hl2 := lv_sub (l' := [(0, .ref (r 0)), (1, .int a1), (2, .int ((nI (N 1 - i - 1)) + (-1)))]) hl [1, 2, 0] rfl
          have e_2 : (nI (N 1 - i - 1)) + (-1) = nI (N 1 - (i + 1)) - 1 := by rw [show N 1 - (i + 1) = N 1 - i - 1 by omega]; exact (Int32.sub_eq_add_neg _ _).symm
          rw [e_2] at hl2
          exact ih (i + 1) (by omega) (by omega) (by rw [hme, show N 1 - i = N 1 - i - 1 + 1 by omega, sOpL, if_neg hqn, show N 1 - (i + 1) = N 1 - i - 1 by omega]) ls hl2
        · skip
          have hq1 := zc_5
          refine lv_aload_n hx hb dX6_isOpenByLog_29 rfl (lv_at hl 0 rfl) ?_
          refine va_get (D := G.1) (ci := 7) (v := .ref (r 9)) (C := RX6) (T := TX6) (N := 14) hx hb hts hi_X6 hown hK hP 0 hh0 rfl 8 (by decide) (hts (.fieldLink RX6 45 "BoilerLog" "log" "LBoilerLog$Log;") (List.mem_of_getElem? (i := 1) rfl)) (fun _ h9 => h9) rfl dX6_isOpenByLog_30 ?_
          refine lv_iload_n hx hb dX6_isOpenByLog_33 rfl (lv_at hl 2 rfl) ?_
          refine z_csi (va_Run.run (va_runVN (As := [.int (nI (N 1 - i - 1))]) (rest := []) ⟨hx, hb, hml, hown, hts⟩ (c_X2_valveTurnedAt l G w 9 (r 9) (A 8) (nI (N 1)) kz3 (zcap (N 1)) (g 8) (nI (N 1 - i - 1)) (by assumption) (by assumption) (vp_in_m (vp_in_nI (show N 1 - i - 1 < N 1 by omega) (by omega)) hzl)) ⟨va_cnB 1 hts gX6_isOpenByLog_X2_valveTurnedAt_n130 rfl rfl rfl (hNs.1 _ (List.mem_append_left _ (List.mem_of_getElem? (i := 13) rfl))) (hts (.initialized RX2) (List.mem_of_getElem? (i := 9) rfl)) (by decide +kernel) ⟨Nat.le_of_ble_eq_true rfl, Nat.le_of_ble_eq_true rfl⟩, hts (.instanceMethod yX2_valveTurnedAt) (List.mem_of_getElem? (i := 17) rfl), hts (.selects RX2 yX2_valveTurnedAt yX2_valveTurnedAt) (List.mem_of_getElem? (i := 18) rfl)⟩ (z_pv hK hP (ci := 3) (q0 := 9) rfl hh9 hP) rfl rfl hl.1 rfl (lv_room (Nat.le_of_ble_eq_true rfl)) dX6_isOpenByLog_34 ⟨(show 0 + 1 + 0 ≤ 2 by omega), (show 0 + 6 + 0 ≤ 12 by omega)⟩)) (fun zr_6 hzr_6 => ?_)
          subst hzr_6
          refine W.eq (g2 := F0 m 37 ls [.int (zVa (g 8 (N 1 - i - 1)))]) (by first | (rw [nI_clamp (by omega)]; done) | (rw [nI_clamp (by omega)]; rfl)) ?_
          refine lv_iload_n hx hb dX6_isOpenByLog_37 rfl (lv_at hl 1 rfl) ?_
          refine lv_icmp_ne (tgt := 50) hx hb dX6_isOpenByLog_38 (by decide) (fun zc_7 => ?_) (fun zc_7 => ?_)
          · skip
            have hqn : ¬ (zKd (g 8 (N 1 - i - 1)) = 0 ∧ zVa (g 8 (N 1 - i - 1)) = a1) := fun z9 => zc_7 z9.2
            refine lv_iinc (v := ((nI (N 1 - i - 1)) + (-1))) (lv' := [(2, .int ((nI (N 1 - i - 1)) + (-1))), (0, .ref (r 0)), (1, .int a1)]) hx hb dX6_isOpenByLog_50 hl (k := 2) rfl (by first | exact rfl | rfl) (by decide) rfl (fun ls hl => ?_)
            refine lv_goto (tgt := 14) hx hb dX6_isOpenByLog_53 (by decide) ?_
            have hl2 := lv_sub (l' := [(0, .ref (r 0)), (1, .int a1), (2, .int ((nI (N 1 - i - 1)) + (-1)))]) hl [1, 2, 0] rfl
            have e_2 : (nI (N 1 - i - 1)) + (-1) = nI (N 1 - (i + 1)) - 1 := by rw [show N 1 - (i + 1) = N 1 - i - 1 by omega]; exact (Int32.sub_eq_add_neg _ _).symm
            rw [e_2] at hl2
            exact ih (i + 1) (by omega) (by omega) (by rw [hme, show N 1 - i = N 1 - i - 1 + 1 by omega, sOpL, if_neg hqn, show N 1 - (i + 1) = N 1 - i - 1 by omega]) ls hl2
          · skip
            have hq2 := zc_7
            refine lv_aload_n hx hb dX6_isOpenByLog_41 rfl (lv_at hl 0 rfl) ?_
            refine va_get (D := G.1) (ci := 7) (v := .ref (r 9)) (C := RX6) (T := TX6) (N := 14) hx hb hts hi_X6 hown hK hP 0 hh0 rfl 8 (by decide) (hts (.fieldLink RX6 45 "BoilerLog" "log" "LBoilerLog$Log;") (List.mem_of_getElem? (i := 1) rfl)) (fun _ h9 => h9) rfl dX6_isOpenByLog_42 ?_
            refine lv_iload_n hx hb dX6_isOpenByLog_45 rfl (lv_at hl 2 rfl) ?_
            refine z_csi (va_Run.run (va_runVN (As := [.int (nI (N 1 - i - 1))]) (rest := []) ⟨hx, hb, hml, hown, hts⟩ (c_X2_opensAt l G w 9 (r 9) (A 8) (nI (N 1)) kz3 (zcap (N 1)) (g 8) (nI (N 1 - i - 1)) (by assumption) (by assumption) (vp_in_m (vp_in_nI (show N 1 - i - 1 < N 1 by omega) (by omega)) hzl)) ⟨va_cnB 1 hts gX6_isOpenByLog_X2_opensAt_n133 rfl rfl rfl (hNs.1 _ (List.mem_append_left _ (List.mem_of_getElem? (i := 14) rfl))) (hts (.initialized RX2) (List.mem_of_getElem? (i := 9) rfl)) (by decide +kernel) ⟨Nat.le_of_ble_eq_true rfl, Nat.le_of_ble_eq_true rfl⟩, hts (.instanceMethod yX2_opensAt) (List.mem_of_getElem? (i := 24) rfl), hts (.selects RX2 yX2_opensAt yX2_opensAt) (List.mem_of_getElem? (i := 25) rfl)⟩ (z_pv hK hP (ci := 3) (q0 := 9) rfl hh9 hP) rfl rfl hl.1 rfl (lv_room (Nat.le_of_ble_eq_true rfl)) dX6_isOpenByLog_46 ⟨(show 0 + 1 + 0 ≤ 2 by omega), (show 0 + 6 + 0 ≤ 12 by omega)⟩)) (fun zr_8 hzr_8 => ?_)
            subst hzr_8
            refine W.eq (g2 := F0 m 49 ls [.int (zb (zOp (g 8 (N 1 - i - 1))))]) (by first | (rw [nI_clamp (by omega)]; done) | (rw [nI_clamp (by omega)]; rfl)) ?_
            exact vx_ret (z_widen (k := 2) (n := 12) (show 0 + 1 ≤ 2 by omega) (show 0 + 6 ≤ 12 by omega) (W.zret (v := zb (zOp (g 8 (N 1 - i - 1)))) hx hb hr (zn_zb _) (fun t ht hW => ⟨⟨zb (zOp (g 8 (N 1 - i - 1))), w, rfl, ⟨hk0, by rw [hlg, hme, show N 1 - i = N 1 - i - 1 + 1 by omega, sOpL, if_pos ⟨hq1, hq2⟩]; rfl, _, _, _, hC⟩, ⟨by rw [ht]; exact hP, hD⟩⟩, hS.F ht⟩) hS.2.2 dX6_isOpenByLog_49 hlocks))
  exact key_14 (N 1 + 1) 0 (Nat.zero_le _) (by omega) rfl ls (lv_sub hl [1, 2, 0] rfl)

set_option maxHeartbeats 4000000 in
set_option maxRecDepth 100000 in
theorem c_X6_tagsByLog (l : Launch) (hst : l.stackTraces = false) (G : zG) (d : Nat) (r A : Nat → Nat) (mc : Nat → Int32) (g : Nat → Nat → Int32) (N : Nat → Nat) (T : Nat → Nat → Int32) (w : va_W) (K : Nat) (a1 : Int32) (sz : Nat) (hC : sCQ G d r A mc g N T w) (hI : sInv N T K 0) (hKk : K ≤ 511) (hLG : sLG N T) : vx_Met l yX6_tagsByLog wsX6_tagsByLog ({ frames := 7, cells := 2, slots := 12, locals := 110 }) (va_Pc [.ref (r 0), .int a1] (zCu G d w sz)) (va_Qi (fun (r1 : Int32) (w1 : va_W) => sK1 (sIx a1 8) = 0 ∧ r1 = nI (sOn N T a1) ∧ sCO G d r N T w1) (zB G (va_A w sz)) (va_A w sz)) (zXk ["java/lang/IndexOutOfBoundsException"] (sK1 (sIx a1 8))) (2) (12) (va_A w sz) := by
  refine vx_ofW (cc := cX6_tagsByLog) (maxL := 5) (ret := (some .int)) (by decide) rfl ?_
  intro p e s m args below meth c s₁ B hml hxt hv
  obtain ⟨rfl, hsz, hP, hK, hD0, hZ⟩ := hv
  have hx := B.exec
  have hb := B.bytes
  have hr := B.returns
  have hts := atoms_spec (ws := wsX6_tagsByLog) B.pre
  have hown : s.vm.findClass RX6 = some m.cls := findClass_of_methodNamed B.named
  have hlocks := B.notSynchronized
  have hi_X6 : ∀ w ∈ u_ws RX6 TX6 14, w ∈ wsX6_tagsByLog := (fun _ h => List.mem_cons_of_mem _ (List.mem_append_left _ (List.mem_append_left _ (List.mem_append_left _ (List.mem_append_left _ (List.mem_append_right _ h))))))
  have hNs := hZ.1.2.2
  have hS0 : va_S (fun _ => False) s.heap s.heap [] := va_S.rf
  subst hsz
  have hD := hD0.self (sz := s.heap.size)
  generalize hAe : va_A w s.heap.size = Aw at hD hZ ⊢
  have hA : ∀ q : Nat, s.heap.size ≤ q → Aw q := fun q h => by rw [← hAe]; exact Or.inr h
  have hS : va_S Aw s.heap s.heap [] := va_S.rf
  have hl := lv_entry ([.ref (r 0), .int a1]) (n := 5) (Nat.le_of_ble_eq_true rfl)
  rw [lg_entry_eq]
  generalize (lg_sl ([.ref (r 0), .int a1]) ++ List.replicate (5 - (lg_sl ([.ref (r 0), .int a1])).length) Slot.unset).toArray = ls at hl ⊢
  have hl : lv_has ls 5 [(0, .ref (r 0)), (1, .int a1)] := hl
  have hN := hI.sm
  obtain ⟨hn2, hn3, hn4, hn5, hn6, hn0⟩ := id hN
  have h1n := sN1_c hI hKk
  have hzt := zcap_top (N 1)
  have hzl := zcap_le (N 1)
  refine lv_iload_n hx hb dX6_tagsByLog_0 rfl (lv_at hl 1 rfl) ?_
  refine z_chk (vx_runS (As := [.int a1]) (rest := []) ⟨hx, hb, hml, hown, hts⟩ (c_X6_checkValve l hst G w a1) (va_cwS 1 hts gX6_tagsByLog_X6_checkValve rfl rfl rfl (by decide +kernel) ⟨Nat.le_of_ble_eq_true rfl, Nat.le_of_ble_eq_true rfl⟩) (z_rs hK hP hZ.1 hS) rfl rfl hl.1 rfl (lv_room (Nat.le_of_ble_eq_true rfl)) dX6_tagsByLog_1 ⟨(show 0 + 1 ≤ 2 by omega), (show 0 + 6 ≤ 12 by omega)⟩) hP hS0 (fun zno => ⟨0, (show sK1 (sIx a1 8) = (1 : Int32) from by simp [sK1, sK2, sK3, zno]), rfl⟩) (fun x h => (hxt x h).elim) hlocks (show 0 + 1 ≤ 2 by omega) (show 0 + 6 ≤ 12 by omega) (fun zok_1 Hz Lz hP hS0 => ?_)
  have hS : va_S Aw s.heap Hz Lz := z_SF hS0
  have hk0 : sK1 (sIx a1 8) = 0 := by simp [sK1, sK2, sK3, zok_1]
  obtain ⟨hc8, ea1⟩ := zCl (sIx_in.mp zok_1) (by omega)
  have hlg : sHgL (fun x => sWas N T x a1) (g 8) (N 1) = nI (sOn N T a1) := by
    have hz9 := hLG.2.2 _ hc8
    rw [← ea1] at hz9
    rw [← hz9]
    exact sHgL_cg (fun q hq => ⟨hC.2 q hq, rfl⟩)
  refine lv_iconst (v := 0) hx hb dX6_tagsByLog_4 (by decide) ?_
  refine lv_istore_n (lv' := [(2, .int 0), (0, .ref (r 0)), (1, .int a1)]) hx hb dX6_tagsByLog_5 rfl hl (by decide) rfl (fun ls hl => ?_)
  refine lv_iconst (v := 0) hx hb dX6_tagsByLog_6 (by decide) ?_
  refine lv_istore_n (lv' := [(3, .int 0), (2, .int 0), (0, .ref (r 0)), (1, .int a1)]) hx hb dX6_tagsByLog_7 rfl hl (by decide) rfl (fun ls hl => ?_)
  have key_8 : ∀ (n i : Nat), i ≤ N 1 → N 1 < i + n → ∀ ls : Array Slot, lv_has ls 5 [(0, .ref (r 0)), (1, .int a1), (2, .int (sHgL (fun x => sWas N T x a1) (g 8) i)), (3, .int (nI i))] → W p l e (headSpec wsX6_tagsByLog ({ frames := 7, cells := 2, slots := 12, locals := 110 })).room s m ([.ref (r 0), .int a1] : List Value).toArray below meth c Hz Lz (0 + 1) (0 + 6) (vx_MQ below (va_Qi (fun (r1 : Int32) (w1 : va_W) => sK1 (sIx a1 8) = 0 ∧ r1 = nI (sOn N T a1) ∧ sCO G d r N T w1) (zB G Aw) Aw) (zXk ["java/lang/IndexOutOfBoundsException"] (sK1 (sIx a1 8))) (([.ref (r 0), .int a1] : List Value).toArray) s (2) (12) Aw) (F0 m 8 ls []) := by
    intro n
    induction n with
    | zero => intro i h1 h2; exact absurd h2 (by omega)
    | succ n ih =>
      intro i hi hn ls hl
      refine lv_iload_n hx hb dX6_tagsByLog_8 rfl (lv_at hl 3 rfl) ?_
      refine lv_aload_n hx hb dX6_tagsByLog_9 rfl (lv_at hl 0 rfl) ?_
      have hh0 : w[0]? = some (r 0, .inr (7, [.ref (r 1), .ref (r 2), .ref (r 3), .ref (r 4), .ref (r 5), .ref (r 6), .ref (r 7), .ref (r 8), .ref (r 9), .ref (r 10), .int (nI (N 0)), .int ((T 19) 0), .int ((T 19) 1), .int (nI (N 6))])) := hC.1.1 0 (by omega)
      refine va_get (D := G.1) (ci := 7) (v := .ref (r 9)) (C := RX6) (T := TX6) (N := 14) hx hb hts hi_X6 hown hK hP 0 hh0 rfl 8 (by decide) (hts (.fieldLink RX6 45 "BoilerLog" "log" "LBoilerLog$Log;") (List.mem_of_getElem? (i := 1) rfl)) (fun _ h9 => h9) rfl dX6_tagsByLog_10 ?_
      have hh9 : w[9]? = some (r 9, .inr (3, [.ref (A 8), .int (nI (N 1))])) := hC.1.1 9 (by omega)
      refine z_csi (va_Run.run (va_runVN (As := []) (rest := [.int (nI i)]) ⟨hx, hb, hml, hown, hts⟩ (c_X2_size l G w 9 (r 9) (A 8) (nI (N 1)) (by assumption)) ⟨va_cnB 0 hts gX6_tagsByLog_X2_size_n123 rfl rfl rfl (hNs.1 _ (List.mem_append_left _ (List.mem_of_getElem? (i := 11) rfl))) (hts (.initialized RX2) (List.mem_of_getElem? (i := 9) rfl)) (by decide +kernel) ⟨Nat.le_of_ble_eq_true rfl, Nat.le_of_ble_eq_true rfl⟩, hts (.instanceMethod yX2_size) (List.mem_of_getElem? (i := 8) rfl), hts (.selects RX2 yX2_size yX2_size) (List.mem_of_getElem? (i := 10) rfl)⟩ (z_pv hK hP (ci := 3) (q0 := 9) rfl hh9 hP) rfl rfl hl.1 rfl (lv_room (Nat.le_of_ble_eq_true rfl)) dX6_tagsByLog_13 ⟨(show 0 + 1 + 0 ≤ 2 by omega), (show 0 + 6 + 0 ≤ 12 by omega)⟩)) (fun zr_1 hzr_1 => ?_)
      subst hzr_1
      refine lv_icmp_ge (tgt := 77) hx hb dX6_tagsByLog_16 (by decide) (fun zc_2 => ?_) (fun zc_2 => ?_)
      · skip
        have zd_2 := Int32.not_lt.mpr zc_2
        have zhc := (nI_leI (by omega) (by omega)).mp zc_2
        have zie := Nat.le_antisymm hi zhc
        subst zie
        refine lv_iload_n hx hb dX6_tagsByLog_77 rfl (lv_at hl 2 rfl) ?_
        exact vx_ret (z_widen (k := 2) (n := 12) (show 0 + 1 ≤ 2 by omega) (show 0 + 6 ≤ 12 by omega) (W.iret (v := sHgL (fun x => sWas N T x a1) (g 8) (N 1)) hx hb hr (fun t ht hW => ⟨⟨sHgL (fun x => sWas N T x a1) (g 8) (N 1), w, rfl, ⟨hk0, hlg, _, _, _, hC⟩, ⟨by rw [ht]; exact hP, hD⟩⟩, hS.F ht⟩) hS.2.2 dX6_tagsByLog_78 hlocks))
      · skip
        have zd_2 := Int32.not_le.mp zc_2
        have zhc := Nat.lt_of_not_le (fun z => zc_2 ((nI_leI (by omega) (by omega)).mpr z))
        refine lv_aload_n hx hb dX6_tagsByLog_19 rfl (lv_at hl 0 rfl) ?_
        refine va_get (D := G.1) (ci := 7) (v := .ref (r 9)) (C := RX6) (T := TX6) (N := 14) hx hb hts hi_X6 hown hK hP 0 hh0 rfl 8 (by decide) (hts (.fieldLink RX6 45 "BoilerLog" "log" "LBoilerLog$Log;") (List.mem_of_getElem? (i := 1) rfl)) (fun _ h9 => h9) rfl dX6_tagsByLog_20 ?_
        refine lv_iload_n hx hb dX6_tagsByLog_23 rfl (lv_at hl 3 rfl) ?_
        obtain ⟨kz3, zk3, hz3⟩ := hC.1.2.1 8 (Or.inr (Or.inl rfl))
        have hz3 : w[kz3]? = some (A 8, .inl (G.2 0, (zcap (N 1)), .inl (g 8))) := hz3
        refine z_csi (va_Run.run (va_runVN (As := [.int (nI i)]) (rest := []) ⟨hx, hb, hml, hown, hts⟩ (c_X2_kindAt l G w 9 (r 9) (A 8) (nI (N 1)) kz3 (zcap (N 1)) (g 8) (nI i) (by assumption) (by assumption) (vp_in_m (vp_in_nI (show i < N 1 by omega) (by omega)) hzl)) ⟨va_cnB 1 hts gX6_tagsByLog_X2_kindAt_n127 rfl rfl rfl (hNs.1 _ (List.mem_append_left _ (List.mem_of_getElem? (i := 12) rfl))) (hts (.initialized RX2) (List.mem_of_getElem? (i := 9) rfl)) (by decide +kernel) ⟨Nat.le_of_ble_eq_true rfl, Nat.le_of_ble_eq_true rfl⟩, hts (.instanceMethod yX2_kindAt) (List.mem_of_getElem? (i := 13) rfl), hts (.selects RX2 yX2_kindAt yX2_kindAt) (List.mem_of_getElem? (i := 14) rfl)⟩ (z_pv hK hP (ci := 3) (q0 := 9) rfl hh9 hP) rfl rfl hl.1 rfl (lv_room (Nat.le_of_ble_eq_true rfl)) dX6_tagsByLog_24 ⟨(show 0 + 1 + 0 ≤ 2 by omega), (show 0 + 6 + 0 ≤ 12 by omega)⟩)) (fun zr_4 hzr_4 => ?_)
        subst hzr_4
        refine W.eq (g2 := F0 m 27 ls [.int (zKd (g 8 i))]) (by first | (rw [nI_clamp (by omega)]; done) | (rw [nI_clamp (by omega)]; rfl)) ?_
        refine lv_istore (lv' := [(4, .int (zKd (g 8 i))), (0, .ref (r 0)), (1, .int a1), (2, .int (sHgL (fun x => sWas N T x a1) (g 8) i)), (3, .int (nI i))]) hx hb dX6_tagsByLog_27 hl (by decide) rfl (fun ls hl => ?_)
        refine lv_iload hx hb dX6_tagsByLog_29 (lv_at hl 0 rfl) ?_
        refine lv_iconst (v := 1) hx hb dX6_tagsByLog_31 (by decide) ?_
        refine lv_icmp_eq (tgt := 41) hx hb dX6_tagsByLog_32 (by decide) (fun zc_5 => ?_) (fun zc_5 => ?_)
        · skip
          refine lv_aload_n hx hb dX6_tagsByLog_41 rfl (lv_at hl 1 rfl) ?_
          refine lv_aload_n hx hb dX6_tagsByLog_42 rfl (lv_at hl 1 rfl) ?_
          refine va_get (D := G.1) (ci := 7) (v := .ref (r 9)) (C := RX6) (T := TX6) (N := 14) hx hb hts hi_X6 hown hK hP 0 hh0 rfl 8 (by decide) (hts (.fieldLink RX6 45 "BoilerLog" "log" "LBoilerLog$Log;") (List.mem_of_getElem? (i := 1) rfl)) (fun _ h9 => h9) rfl dX6_tagsByLog_43 ?_
          refine lv_iload_n hx hb dX6_tagsByLog_46 rfl (lv_at hl 4 rfl) ?_
          refine z_csi (va_Run.run (va_runVN (As := [.int (nI i)]) (rest := [.ref (r 0)]) ⟨hx, hb, hml, hown, hts⟩ (c_X2_whatAt l G w 9 (r 9) (A 8) (nI (N 1)) kz3 (zcap (N 1)) (g 8) (nI i) (by assumption) (by assumption) (vp_in_m (vp_in_nI (show i < N 1 by omega) (by omega)) hzl)) ⟨va_cnB 1 hts gX6_tagsByLog_X2_whatAt_n183 rfl rfl rfl (hNs.1 _ (List.mem_append_left _ (List.mem_of_getElem? (i := 17) rfl))) (hts (.initialized RX2) (List.mem_of_getElem? (i := 9) rfl)) (by decide +kernel) ⟨Nat.le_of_ble_eq_true rfl, Nat.le_of_ble_eq_true rfl⟩, hts (.instanceMethod yX2_whatAt) (List.mem_of_getElem? (i := 17) rfl), hts (.selects RX2 yX2_whatAt yX2_whatAt) (List.mem_of_getElem? (i := 18) rfl)⟩ (z_pv hK hP (ci := 3) (q0 := 9) rfl hh9 hP) rfl rfl hl.1 rfl (lv_room (Nat.le_of_ble_eq_true rfl)) dX6_tagsByLog_47 ⟨(show 0 + 1 + 0 ≤ 2 by omega), (show 0 + 6 + 0 ≤ 12 by omega)⟩)) (fun zr_6 hzr_6 => ?_)
          subst hzr_6
          refine W.eq (g2 := F0 m 50 ls [.int (zWh (g 8 i)), .ref (r 0)]) (by first | (rw [nI_clamp (by omega)]; done) | (rw [nI_clamp (by omega)]; rfl)) ?_
          refine lv_iload_n hx hb dX6_tagsByLog_50 rfl (lv_at hl 2 rfl) ?_
          refine z_csi (va_Run.run (va_runV (As := [.int (zWh (g 8 i)), .int a1]) (rest := []) ⟨hx, hb, hml, hown, hts⟩ (c_X6_wasHungOn l G d r A mc g N T w (zWh (g 8 i)) a1 hC hn2) (cwV 2 hts gX6_tagsByLog_X6_wasHungOn rfl rfl rfl (by decide +kernel) ⟨Nat.le_of_ble_eq_true rfl, Nat.le_of_ble_eq_true rfl⟩) (z_rv hK hP (ci := 7) (q0 := 0) rfl hh0 hP hZ.1 hS) rfl rfl hl.1 rfl (lv_room (Nat.le_of_ble_eq_true rfl)) dX6_tagsByLog_51 ⟨(show 0 + 1 + 0 ≤ 2 by omega), (show 0 + 6 + 0 ≤ 12 by omega)⟩)) (fun zr_7 hzr_7 => ?_)
          subst hzr_7
          refine lv_if_eq (tgt := 71) hx hb dX6_tagsByLog_54 (by decide) (fun zc_8 => ?_) (fun zc_8 => ?_)
          · skip
            have zc_8 := zb_0.mp zc_8
            refine lv_iinc (v := (nI (i + 1))) (lv' := [(3, .int (nI (i + 1))), (4, .int (zKd (g 8 i))), (0, .ref (r 0)), (1, .int a1), (2, .int (sHgL (fun x => sWas N T x a1) (g 8) i))]) hx hb dX6_tagsByLog_71 hl (k := 4) rfl (by first | exact nI_1 _ | rfl) (by decide) rfl (fun ls hl => ?_)
            refine lv_goto (tgt := 8) hx hb dX6_tagsByLog_74 (by decide) ?_
            have hl2 := lv_sub (l' := [(0, .ref (r 0)), (1, .int a1), (2, .int (sHgL (fun x => sWas N T x a1) (g 8) i)), (3, .int (nI (i + 1)))]) hl [2, 3, 4, 0] rfl
            have e_2 : sHgL (fun x => sWas N T x a1) (g 8) i = sHgL (fun x => sWas N T x a1) (g 8) (i + 1) := by first | (rw [sHgL, sHg1]; simp [zc_5, zc_8]; done) | exact absurd (show zKd (g 8 i) = 1 by assumption) (by assumption)
            rw [e_2] at hl2
            exact ih (i + 1) (by omega) (by omega) ls hl2
          · skip
            have zc_8 := zb_n0 zc_8
            refine lv_iload_n hx hb dX6_tagsByLog_57 rfl (lv_at hl 3 rfl) ?_
            refine lv_iload hx hb dX6_tagsByLog_58 (lv_at hl 0 rfl) ?_
            refine lv_iconst (v := 1) hx hb dX6_tagsByLog_60 (by decide) ?_
            refine lv_icmp_ne (tgt := 68) hx hb dX6_tagsByLog_61 (by decide) (fun zc_9 => ?_) (fun zc_9 => ?_)
            · skip
              refine lv_iconst (v := (-1)) hx hb dX6_tagsByLog_68 (by decide) ?_
              refine lv_iadd hx hb dX6_tagsByLog_69 ?_
              refine lv_istore_n (lv' := [(2, .int ((sHgL (fun x => sWas N T x a1) (g 8) i) + (-1))), (4, .int (zKd (g 8 i))), (0, .ref (r 0)), (1, .int a1), (3, .int (nI i))]) hx hb dX6_tagsByLog_70 rfl hl (by decide) rfl (fun ls hl => ?_)
              refine lv_iinc (v := (nI (i + 1))) (lv' := [(3, .int (nI (i + 1))), (2, .int ((sHgL (fun x => sWas N T x a1) (g 8) i) + (-1))), (4, .int (zKd (g 8 i))), (0, .ref (r 0)), (1, .int a1)]) hx hb dX6_tagsByLog_71 hl (k := 4) rfl (by first | exact nI_1 _ | rfl) (by decide) rfl (fun ls hl => ?_)
              refine lv_goto (tgt := 8) hx hb dX6_tagsByLog_74 (by decide) ?_
              have hl2 := lv_sub (l' := [(0, .ref (r 0)), (1, .int a1), (2, .int ((sHgL (fun x => sWas N T x a1) (g 8) i) + (-1))), (3, .int (nI (i + 1)))]) hl [3, 4, 1, 0] rfl
              have e_2 : (sHgL (fun x => sWas N T x a1) (g 8) i) + (-1) = sHgL (fun x => sWas N T x a1) (g 8) (i + 1) := by first | (rw [sHgL, sHg1]; simp [zc_5, zc_8, zc_9]; done) | exact absurd (show zKd (g 8 i) = 1 by assumption) (by assumption)
              rw [e_2] at hl2
              exact ih (i + 1) (by omega) (by omega) ls hl2
            · skip
              refine lv_iconst (v := 1) hx hb dX6_tagsByLog_64 (by decide) ?_
              refine lv_goto (tgt := 69) hx hb dX6_tagsByLog_65 (by decide) ?_
              refine lv_iadd hx hb dX6_tagsByLog_69 ?_
              refine lv_istore_n (lv' := [(2, .int ((sHgL (fun x => sWas N T x a1) (g 8) i) + 1)), (4, .int (zKd (g 8 i))), (0, .ref (r 0)), (1, .int a1), (3, .int (nI i))]) hx hb dX6_tagsByLog_70 rfl hl (by decide) rfl (fun ls hl => ?_)
              refine lv_iinc (v := (nI (i + 1))) (lv' := [(3, .int (nI (i + 1))), (2, .int ((sHgL (fun x => sWas N T x a1) (g 8) i) + 1)), (4, .int (zKd (g 8 i))), (0, .ref (r 0)), (1, .int a1)]) hx hb dX6_tagsByLog_71 hl (k := 4) rfl (by first | exact nI_1 _ | rfl) (by decide) rfl (fun ls hl => ?_)
              refine lv_goto (tgt := 8) hx hb dX6_tagsByLog_74 (by decide) ?_
              have hl2 := lv_sub (l' := [(0, .ref (r 0)), (1, .int a1), (2, .int ((sHgL (fun x => sWas N T x a1) (g 8) i) + 1)), (3, .int (nI (i + 1)))]) hl [3, 4, 1, 0] rfl
              have e_2 : (sHgL (fun x => sWas N T x a1) (g 8) i) + 1 = sHgL (fun x => sWas N T x a1) (g 8) (i + 1) := by first | (rw [sHgL, sHg1]; simp [zc_5, zc_8, zc_9]; done) | exact absurd (show zKd (g 8 i) = 1 by assumption) (by assumption)
              rw [e_2] at hl2
              exact ih (i + 1) (by omega) (by omega) ls hl2
        · skip
          refine lv_iload hx hb dX6_tagsByLog_35 (lv_at hl 0 rfl) ?_
          refine lv_iconst (v := 2) hx hb dX6_tagsByLog_37 (by decide) ?_
          refine lv_icmp_ne (tgt := 71) hx hb dX6_tagsByLog_38 (by decide) (fun zc_10 => ?_) (fun zc_10 => ?_)
          · skip
            refine lv_iinc (v := (nI (i + 1))) (lv' := [(3, .int (nI (i + 1))), (4, .int (zKd (g 8 i))), (0, .ref (r 0)), (1, .int a1), (2, .int (sHgL (fun x => sWas N T x a1) (g 8) i))]) hx hb dX6_tagsByLog_71 hl (k := 4) rfl (by first | exact nI_1 _ | rfl) (by decide) rfl (fun ls hl => ?_)
            refine lv_goto (tgt := 8) hx hb dX6_tagsByLog_74 (by decide) ?_
            have hl2 := lv_sub (l' := [(0, .ref (r 0)), (1, .int a1), (2, .int (sHgL (fun x => sWas N T x a1) (g 8) i)), (3, .int (nI (i + 1)))]) hl [2, 3, 4, 0] rfl
            have e_2 : sHgL (fun x => sWas N T x a1) (g 8) i = sHgL (fun x => sWas N T x a1) (g 8) (i + 1) := by first | (rw [sHgL, sHg1]; simp [zc_5, zc_10]; done) | exact absurd (show zKd (g 8 i) = 1 by assumption) (by assumption)
            rw [e_2] at hl2
            exact ih (i + 1) (by omega) (by omega) ls hl2
          · skip
            refine lv_aload_n hx hb dX6_tagsByLog_41 rfl (lv_at hl 1 rfl) ?_
            refine lv_aload_n hx hb dX6_tagsByLog_42 rfl (lv_at hl 1 rfl) ?_
            refine va_get (D := G.1) (ci := 7) (v := .ref (r 9)) (C := RX6) (T := TX6) (N := 14) hx hb hts hi_X6 hown hK hP 0 hh0 rfl 8 (by decide) (hts (.fieldLink RX6 45 "BoilerLog" "log" "LBoilerLog$Log;") (List.mem_of_getElem? (i := 1) rfl)) (fun _ h9 => h9) rfl dX6_tagsByLog_43 ?_
            refine lv_iload_n hx hb dX6_tagsByLog_46 rfl (lv_at hl 4 rfl) ?_
            refine z_csi (va_Run.run (va_runVN (As := [.int (nI i)]) (rest := [.ref (r 0)]) ⟨hx, hb, hml, hown, hts⟩ (c_X2_whatAt l G w 9 (r 9) (A 8) (nI (N 1)) kz3 (zcap (N 1)) (g 8) (nI i) (by assumption) (by assumption) (vp_in_m (vp_in_nI (show i < N 1 by omega) (by omega)) hzl)) ⟨va_cnB 1 hts gX6_tagsByLog_X2_whatAt_n183 rfl rfl rfl (hNs.1 _ (List.mem_append_left _ (List.mem_of_getElem? (i := 17) rfl))) (hts (.initialized RX2) (List.mem_of_getElem? (i := 9) rfl)) (by decide +kernel) ⟨Nat.le_of_ble_eq_true rfl, Nat.le_of_ble_eq_true rfl⟩, hts (.instanceMethod yX2_whatAt) (List.mem_of_getElem? (i := 17) rfl), hts (.selects RX2 yX2_whatAt yX2_whatAt) (List.mem_of_getElem? (i := 18) rfl)⟩ (z_pv hK hP (ci := 3) (q0 := 9) rfl hh9 hP) rfl rfl hl.1 rfl (lv_room (Nat.le_of_ble_eq_true rfl)) dX6_tagsByLog_47 ⟨(show 0 + 1 + 0 ≤ 2 by omega), (show 0 + 6 + 0 ≤ 12 by omega)⟩)) (fun zr_11 hzr_11 => ?_)
            subst hzr_11
            refine W.eq (g2 := F0 m 50 ls [.int (zWh (g 8 i)), .ref (r 0)]) (by first | (rw [nI_clamp (by omega)]; done) | (rw [nI_clamp (by omega)]; rfl)) ?_
            refine lv_iload_n hx hb dX6_tagsByLog_50 rfl (lv_at hl 2 rfl) ?_
            refine z_csi (va_Run.run (va_runV (As := [.int (zWh (g 8 i)), .int a1]) (rest := []) ⟨hx, hb, hml, hown, hts⟩ (c_X6_wasHungOn l G d r A mc g N T w (zWh (g 8 i)) a1 hC hn2) (cwV 2 hts gX6_tagsByLog_X6_wasHungOn rfl rfl rfl (by decide +kernel) ⟨Nat.le_of_ble_eq_true rfl, Nat.le_of_ble_eq_true rfl⟩) (z_rv hK hP (ci := 7) (q0 := 0) rfl hh0 hP hZ.1 hS) rfl rfl hl.1 rfl (lv_room (Nat.le_of_ble_eq_true rfl)) dX6_tagsByLog_51 ⟨(show 0 + 1 + 0 ≤ 2 by omega), (show 0 + 6 + 0 ≤ 12 by omega)⟩)) (fun zr_12 hzr_12 => ?_)
            subst hzr_12
            refine lv_if_eq (tgt := 71) hx hb dX6_tagsByLog_54 (by decide) (fun zc_13 => ?_) (fun zc_13 => ?_)
            · skip
              have zc_13 := zb_0.mp zc_13
              refine lv_iinc (v := (nI (i + 1))) (lv' := [(3, .int (nI (i + 1))), (4, .int (zKd (g 8 i))), (0, .ref (r 0)), (1, .int a1), (2, .int (sHgL (fun x => sWas N T x a1) (g 8) i))]) hx hb dX6_tagsByLog_71 hl (k := 4) rfl (by first | exact nI_1 _ | rfl) (by decide) rfl (fun ls hl => ?_)
              refine lv_goto (tgt := 8) hx hb dX6_tagsByLog_74 (by decide) ?_
              have hl2 := lv_sub (l' := [(0, .ref (r 0)), (1, .int a1), (2, .int (sHgL (fun x => sWas N T x a1) (g 8) i)), (3, .int (nI (i + 1)))]) hl [2, 3, 4, 0] rfl
              have e_2 : sHgL (fun x => sWas N T x a1) (g 8) i = sHgL (fun x => sWas N T x a1) (g 8) (i + 1) := by first | (rw [sHgL, sHg1]; simp [zc_5, zc_10, zc_13]; done) | exact absurd (show zKd (g 8 i) = 1 by assumption) (by assumption)
              rw [e_2] at hl2
              exact ih (i + 1) (by omega) (by omega) ls hl2
            · skip
              have zc_13 := zb_n0 zc_13
              refine lv_iload_n hx hb dX6_tagsByLog_57 rfl (lv_at hl 3 rfl) ?_
              refine lv_iload hx hb dX6_tagsByLog_58 (lv_at hl 0 rfl) ?_
              refine lv_iconst (v := 1) hx hb dX6_tagsByLog_60 (by decide) ?_
              refine lv_icmp_ne (tgt := 68) hx hb dX6_tagsByLog_61 (by decide) (fun zc_14 => ?_) (fun zc_14 => ?_)
              · skip
                refine lv_iconst (v := (-1)) hx hb dX6_tagsByLog_68 (by decide) ?_
                refine lv_iadd hx hb dX6_tagsByLog_69 ?_
                refine lv_istore_n (lv' := [(2, .int ((sHgL (fun x => sWas N T x a1) (g 8) i) + (-1))), (4, .int (zKd (g 8 i))), (0, .ref (r 0)), (1, .int a1), (3, .int (nI i))]) hx hb dX6_tagsByLog_70 rfl hl (by decide) rfl (fun ls hl => ?_)
                refine lv_iinc (v := (nI (i + 1))) (lv' := [(3, .int (nI (i + 1))), (2, .int ((sHgL (fun x => sWas N T x a1) (g 8) i) + (-1))), (4, .int (zKd (g 8 i))), (0, .ref (r 0)), (1, .int a1)]) hx hb dX6_tagsByLog_71 hl (k := 4) rfl (by first | exact nI_1 _ | rfl) (by decide) rfl (fun ls hl => ?_)
                refine lv_goto (tgt := 8) hx hb dX6_tagsByLog_74 (by decide) ?_
                have hl2 := lv_sub (l' := [(0, .ref (r 0)), (1, .int a1), (2, .int ((sHgL (fun x => sWas N T x a1) (g 8) i) + (-1))), (3, .int (nI (i + 1)))]) hl [3, 4, 1, 0] rfl
                have e_2 : (sHgL (fun x => sWas N T x a1) (g 8) i) + (-1) = sHgL (fun x => sWas N T x a1) (g 8) (i + 1) := by first | (rw [sHgL, sHg1]; simp [zc_5, zc_10, zc_13, zc_14]; done) | exact absurd (show zKd (g 8 i) = 1 by assumption) (by assumption)
                rw [e_2] at hl2
                exact ih (i + 1) (by omega) (by omega) ls hl2
              · skip
                refine lv_iconst (v := 1) hx hb dX6_tagsByLog_64 (by decide) ?_
                refine lv_goto (tgt := 69) hx hb dX6_tagsByLog_65 (by decide) ?_
                refine lv_iadd hx hb dX6_tagsByLog_69 ?_
                refine lv_istore_n (lv' := [(2, .int ((sHgL (fun x => sWas N T x a1) (g 8) i) + 1)), (4, .int (zKd (g 8 i))), (0, .ref (r 0)), (1, .int a1), (3, .int (nI i))]) hx hb dX6_tagsByLog_70 rfl hl (by decide) rfl (fun ls hl => ?_)
                refine lv_iinc (v := (nI (i + 1))) (lv' := [(3, .int (nI (i + 1))), (2, .int ((sHgL (fun x => sWas N T x a1) (g 8) i) + 1)), (4, .int (zKd (g 8 i))), (0, .ref (r 0)), (1, .int a1)]) hx hb dX6_tagsByLog_71 hl (k := 4) rfl (by first | exact nI_1 _ | rfl) (by decide) rfl (fun ls hl => ?_)
                refine lv_goto (tgt := 8) hx hb dX6_tagsByLog_74 (by decide) ?_
                have hl2 := lv_sub (l' := [(0, .ref (r 0)), (1, .int a1), (2, .int ((sHgL (fun x => sWas N T x a1) (g 8) i) + 1)), (3, .int (nI (i + 1)))]) hl [3, 4, 1, 0] rfl
                have e_2 : (sHgL (fun x => sWas N T x a1) (g 8) i) + 1 = sHgL (fun x => sWas N T x a1) (g 8) (i + 1) := by first | (rw [sHgL, sHg1]; simp [zc_5, zc_10, zc_13, zc_14]; done) | exact absurd (show zKd (g 8 i) = 1 by assumption) (by assumption)
                rw [e_2] at hl2
                exact ih (i + 1) (by omega) (by omega) ls hl2
  exact key_8 (N 1 + 1) 0 (Nat.zero_le _) (by omega) ls (lv_sub hl [2, 3, 1, 0] rfl)
