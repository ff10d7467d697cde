set_option maxHeartbeats 4000000 in
set_option maxRecDepth 100000 in
theorem c_X1_join (l : Launch) (G : zG) (w : va_W) (a1 a2 : Int32) (hhi : sHi a1 = true) : Met l yX1_join wsX1_join ({ frames := 0, cells := 0, slots := 0, locals := 0 }) (va_Pc [.int a1, .int a2] (zPx G w)) (zQi (fun r : Int32 => r = sPair a1 a2)) 0 0 (fun _ => False) := by
  refine Met.ofW (cc := cX1_join) (maxL := 2) (ret := (some .int)) (by decide) rfl ?_
  intro p e s m args below meth c s₁ B hml hv
  obtain ⟨rfl, hP, hK, hZ⟩ := hv
  have hx := B.exec
  have hb := B.bytes
  have hr := B.returns
  have hts := atoms_spec (ws := wsX1_join) B.pre
  have hown : s.vm.findClass RX1 = some m.cls := findClass_of_methodNamed B.named
  have hlocks := B.notSynchronized
  have hNs := hZ.2.2
  have hS0 : va_S (fun _ => False) s.heap s.heap [] := va_S.rf
  have hl := lv_entry ([.int a1, .int a2]) (n := 2) (Nat.le_of_ble_eq_true rfl)
  rw [lg_entry_eq]
  generalize (lg_sl ([.int a1, .int a2]) ++ List.replicate (2 - (lg_sl ([.int a1, .int a2])).length) Slot.unset).toArray = ls at hl ⊢
  have hl : lv_has ls 2 [(0, .int a1), (1, .int a2)] := hl
  refine lv_ldc (v := 65536) hx hb hown (hts _ (List.mem_of_getElem? (i := 1) rfl)) dX1_join_0 ?_
  refine lv_iload_n hx hb dX1_join_2 rfl (lv_at hl 0 rfl) ?_
  refine lv_ldc (v := 55296) hx hb hown (hts _ (List.mem_of_getElem? (i := 2) rfl)) dX1_join_3 ?_
  refine lv_isub hx hb dX1_join_5 ?_
  refine lv_bipush (v := 10) hx hb dX1_join_6 (by decide) ?_
  refine lv_ishl hx hb dX1_join_8 ?_
  refine lv_iadd hx hb dX1_join_9 ?_
  refine lv_iload_n hx hb dX1_join_10 rfl (lv_at hl 1 rfl) ?_
  refine lv_ldc (v := 56320) hx hb hown (hts _ (List.mem_of_getElem? (i := 3) rfl)) dX1_join_11 ?_
  refine lv_isub hx hb dX1_join_13 ?_
  refine lv_iadd hx hb dX1_join_14 ?_
  refine W.eq (g2 := F0 m 15 ls [.int (sPair a1 a2)]) (by first | (rw [zJoin hhi]; done) | (rw [zJoin hhi]; rfl)) ?_
  exact W.iret (v := sPair a1 a2) hx hb hr (fun t ht hW => ⟨sPair a1 a2, rfl, rfl, ht⟩) (fun _ h => nomatch h) dX1_join_15 hlocks

set_option maxHeartbeats 4000000 in
set_option maxRecDepth 100000 in
theorem c_X1_toSigns (l : Launch) (G : zG) (d : Nat) (r A : Nat → Nat) (mc : Nat → Int32) (g : Nat → Nat → Int32) (N : Nat → Nat) (T : Nat → Nat → Int32) (w : va_W) (sz : Nat) (hC : sCQ G d r A mc g N T w) (hn4 : N 4 ≤ 40) (hG : sGood (T 17) (N 4) = true) : Met l yX1_toSigns wsX1_toSigns ({ frames := 2, cells := 1, slots := (sLen (T 17) (N 4)), locals := 42 }) (va_Pc [.ref (r 10)] (zCu G d w sz)) (va_Qq (fun (r1 : Option Nat) (w1 : va_W) => ∃ q : Nat, r1 = some q ∧ w1 = w ++ ([(q, .inl (G.2 0, (sLen (T 17) (N 4)), .inl (sSgn (T 17) (N 4))))] : va_W)) (zB G (va_A w sz)) (va_A w sz)) (1) ((sLen (T 17) (N 4))) (va_A w sz) := by
  refine Met.ofW (cc := cX1_toSigns) (maxL := 5) (ret := (some (.array .int))) (by decide) rfl ?_
  intro p e s m args below meth c s₁ B hml hv
  obtain ⟨rfl, hsz, hP, hK, hD0, hZ⟩ := hv
  have hx := B.exec
  have hb := B.bytes
  have hr := B.returns
  have hts := atoms_spec (ws := wsX1_toSigns) B.pre
  have hown : s.vm.findClass RX1 = some m.cls := findClass_of_methodNamed B.named
  have hlocks := B.notSynchronized
  have hi_X1 : ∀ w ∈ u_ws RX1 TX1 2, w ∈ wsX1_toSigns := (fun _ h => List.mem_cons_of_mem _ (List.mem_append_right _ h))
  have hNs := hZ.1.2.2
  have hS0 : va_S (fun _ => False) s.heap s.heap [] := va_S.rf
  subst hsz
  have hD := hD0.self (sz := s.heap.size)
  generalize hAe : va_A w s.heap.size = Aw at hD hZ ⊢
  have hA : ∀ q : Nat, s.heap.size ≤ q → Aw q := fun q h => by rw [← hAe]; exact Or.inr h
  have hS : va_S Aw s.heap s.heap [] := va_S.rf
  have hl := lv_entry ([.ref (r 10)]) (n := 5) (Nat.le_of_ble_eq_true rfl)
  rw [lg_entry_eq]
  generalize (lg_sl ([.ref (r 10)]) ++ List.replicate (5 - (lg_sl ([.ref (r 10)])).length) Slot.unset).toArray = ls at hl ⊢
  have hl : lv_has ls 5 [(0, .ref (r 10))] := hl
  have hl4 := sLen_le (t := T 17) (k := N 4)
  refine lv_aload_n hx hb dX1_toSigns_0 rfl (lv_at hl 0 rfl) ?_
  have hh10 : w[10]? = some (r 10, .inr (2, [.ref (r 11), .int (nI (N 4))])) := hC.1.1 10 (by omega)
  refine va_get (D := G.1) (ci := 2) (v := .int (nI (N 4))) (C := RX1) (T := TX1) (N := 2) hx hb hts hi_X1 hown hK hP 10 hh10 rfl 1 (by decide) (hts (.fieldLink RX1 15 "BoilerLog$Draft" "count" "I") (List.mem_of_getElem? (i := 1) rfl)) (fun _ h9 => h9) rfl dX1_toSigns_1 ?_
  refine lv_aload_n hx hb dX1_toSigns_4 rfl (lv_at hl 0 rfl) ?_
  have hh11 : w[11]? = some (r 11, .inl (G.2 3, 40, .inl (T 17))) := hC.1.1 11 (by omega)
  refine z_csi (va_Run.run (va_runV (As := []) (rest := [.int (nI (N 4))]) ⟨hx, hb, hml, hown, hts⟩ (c_X1_countHigh l G w 10 (r 10) (r 11) (N 4) 11 (T 17) (by assumption) (by assumption) hn4) (cwV 0 hts gX1_toSigns_X1_countHigh rfl rfl rfl (by decide +kernel) ⟨Nat.le_of_ble_eq_true rfl, Nat.le_of_ble_eq_true rfl⟩) (z_pv hK hP (ci := 2) (q0 := 10) rfl hh10 hP) rfl rfl hl.1 rfl (lv_room (Nat.le_of_ble_eq_true rfl)) dX1_toSigns_5 ⟨(show 0 + 0 ≤ 1 by omega), (show 0 + 0 ≤ (sLen (T 17) (N 4)) by omega)⟩)) (fun zr_1 hzr_1 => ?_)
  subst hzr_1
  refine lv_isub hx hb dX1_toSigns_8 ?_
  refine W.eq (g2 := F0 m 9 ls [.int (nI (sLen (T 17) (N 4)))]) (by first | (rw [zLenC]; done) | (rw [zLenC]; rfl)) ?_
  refine z_newa (t0 := 0) (cA := G.2 0) (ty := .int) (N' := (sLen (T 17) (N 4))) (a0 := ((sLen (T 17) (N 4)), .inl (fun _ => 0))) hx hb (hts _ (List.mem_of_getElem? (i := 2) rfl)) rfl rfl hK hP hD hS hA (fun _ => rfl) (zNn (by omega)) (nI_clamp (by omega)) (show (sLen (T 17) (N 4)) * 4 ≤ 536870912 by omega) (show 0 + 1 ≤ 1 by omega) (show 0 + (sLen (T 17) (N 4)) ≤ (sLen (T 17) (N 4)) by omega) dX1_toSigns_9 (fun zq Hz Lz hP hD hS => ?_)
  refine lv_astore_n (lv' := [(1, .ref zq), (0, .ref (r 10))]) hx hb dX1_toSigns_11 rfl hl (by decide) rfl (fun ls hl => ?_)
  refine lv_iconst (v := 0) hx hb dX1_toSigns_12 (by decide) ?_
  refine lv_istore_n (lv' := [(2, .int 0), (1, .ref zq), (0, .ref (r 10))]) hx hb dX1_toSigns_13 rfl hl (by decide) rfl (fun ls hl => ?_)
  refine lv_iconst (v := 0) hx hb dX1_toSigns_14 (by decide) ?_
  refine lv_istore_n (lv' := [(3, .int 0), (2, .int 0), (1, .ref zq), (0, .ref (r 10))]) hx hb dX1_toSigns_15 rfl hl (by decide) rfl (fun ls hl => ?_)
  have key_16 : ∀ (n k : Nat), k ≤ N 4 → N 4 < k + n → sW (T 17) k = false → ∀ (Hz : Heap) (Lz : List Loc), va_P G.1 vwCl (w ++ ([(zq, .inl (G.2 0, (sLen (T 17) (N 4)), .inl (sSgn (T 17) k)))] : va_W)) Hz → va_D Aw (w ++ ([(zq, .inl (G.2 0, (sLen (T 17) (N 4)), .inl (sSgn (T 17) k)))] : va_W)) → va_S Aw s.heap Hz Lz → ∀ ls : Array Slot, lv_has ls 5 [(0, .ref (r 10)), (1, .ref zq), (2, .int (nI k)), (3, .int (nI (sLen (T 17) k)))] → W p l e (headSpec wsX1_toSigns ({ frames := 2, cells := 1, slots := (sLen (T 17) (N 4)), locals := 42 })).room s m ([.ref (r 10)] : List Value).toArray below meth c Hz Lz (0 + 1) (0 + (sLen (T 17) (N 4))) (MQ below (va_Qq (fun (r1 : Option Nat) (w1 : va_W) => ∃ q : Nat, r1 = some q ∧ w1 = w ++ ([(q, .inl (G.2 0, (sLen (T 17) (N 4)), .inl (sSgn (T 17) (N 4))))] : va_W)) (zB G Aw) Aw) (([.ref (r 10)] : List Value).toArray) s (1) ((sLen (T 17) (N 4))) Aw) (F0 m 16 ls []) := by
    intro n
    induction n with
    | zero => intro k h1 h2; exact absurd h2 (by omega)
    | succ n ih =>
      intro k hi hn hsw Hz Lz hP hD hS ls hl
      have hlm := sLen_m (t := T 17) hi
      have hh10 : (w ++ ([(zq, .inl (G.2 0, (sLen (T 17) (N 4)), .inl (sSgn (T 17) k)))] : va_W))[10]? = some (r 10, .inr (2, [.ref (r 11), .int (nI (N 4))])) := z_app (hC.1.1 10 (by omega))
      have hh11 : (w ++ ([(zq, .inl (G.2 0, (sLen (T 17) (N 4)), .inl (sSgn (T 17) k)))] : va_W))[11]? = some (r 11, .inl (G.2 3, 40, .inl (T 17))) := z_app (hC.1.1 11 (by omega))
      have hhq : (w ++ ([(zq, .inl (G.2 0, (sLen (T 17) (N 4)), .inl (sSgn (T 17) k)))] : va_W))[w.length]? = some (zq, .inl (G.2 0, (sLen (T 17) (N 4)), .inl (sSgn (T 17) k))) := z_last
      refine lv_iload_n hx hb dX1_toSigns_16 rfl (lv_at hl 3 rfl) ?_
      refine lv_aload_n hx hb dX1_toSigns_17 rfl (lv_at hl 1 rfl) ?_
      refine va_alen hx hb hK hP w.length 0 hhq rfl (v := nI ((sLen (T 17) (N 4)))) rfl dX1_toSigns_18 ?_
      refine lv_icmp_ge (tgt := 92) hx hb dX1_toSigns_19 (by decide) (fun zc_2 => ?_) (fun zc_2 => ?_)
      · skip
        have zd_2 := Int32.not_lt.mpr zc_2
        have hzk := zLenEnd hG hi ((nI_leI (by omega) (by omega)).mp zc_2)
        subst hzk
        refine lv_aload_n hx hb dX1_toSigns_92 rfl (lv_at hl 1 rfl) ?_
        exact z_widen (k := 1) (n := (sLen (T 17) (N 4))) (show 0 + 1 ≤ 1 by omega) (show 0 + (sLen (T 17) (N 4)) ≤ (sLen (T 17) (N 4)) by omega) (W.aret (v := .ref zq) hx hb hr (Or.inr ⟨_, rfl⟩) (Or.inr ⟨_, rfl⟩) (fun t ht hW => ⟨⟨some zq, (w ++ ([(zq, .inl (G.2 0, (sLen (T 17) (N 4)), .inl (sSgn (T 17) (N 4))))] : va_W)), rfl, ⟨zq, rfl, rfl⟩, ⟨by rw [ht]; exact hP, hD⟩⟩, hS.F ht⟩) hS.2.2 dX1_toSigns_93 hlocks)
      · skip
        have zd_2 := Int32.not_le.mp zc_2
        have hlt := (nI_ltI (by omega) (by omega)).mp (Int32.not_le.mp zc_2)
        refine lv_iload_n hx hb dX1_toSigns_22 rfl (lv_at hl 2 rfl) ?_
        refine lv_aload_n hx hb dX1_toSigns_23 rfl (lv_at hl 0 rfl) ?_
        refine va_get (D := G.1) (ci := 2) (v := .int (nI (N 4))) (C := RX1) (T := TX1) (N := 2) hx hb hts hi_X1 hown hK hP 10 hh10 rfl 1 (by decide) (hts (.fieldLink RX1 15 "BoilerLog$Draft" "count" "I") (List.mem_of_getElem? (i := 1) rfl)) (fun _ h9 => h9) rfl dX1_toSigns_24 ?_
        refine lv_icmp_ge (tgt := 92) hx hb dX1_toSigns_27 (by decide) (fun zc_3 => ?_) (fun zc_3 => ?_)
        · skip
          have zd_3 := Int32.not_lt.mpr zc_3
          have hzk := Nat.le_antisymm hi ((nI_leI (by omega) (by omega)).mp zc_3)
          subst hzk
          refine lv_aload_n hx hb dX1_toSigns_92 rfl (lv_at hl 1 rfl) ?_
          exact z_widen (k := 1) (n := (sLen (T 17) (N 4))) (show 0 + 1 ≤ 1 by omega) (show 0 + (sLen (T 17) (N 4)) ≤ (sLen (T 17) (N 4)) by omega) (W.aret (v := .ref zq) hx hb hr (Or.inr ⟨_, rfl⟩) (Or.inr ⟨_, rfl⟩) (fun t ht hW => ⟨⟨some zq, (w ++ ([(zq, .inl (G.2 0, (sLen (T 17) (N 4)), .inl (sSgn (T 17) (N 4))))] : va_W)), rfl, ⟨zq, rfl, rfl⟩, ⟨by rw [ht]; exact hP, hD⟩⟩, hS.F ht⟩) hS.2.2 dX1_toSigns_93 hlocks)
        · skip
          have zd_3 := Int32.not_le.mp zc_3
          have hkn := (nI_ltI (by omega) (by omega)).mp (Int32.not_le.mp zc_3)
          refine lv_aload_n hx hb dX1_toSigns_30 rfl (lv_at hl 0 rfl) ?_
          refine va_get (D := G.1) (ci := 2) (v := .ref (r 11)) (C := RX1) (T := TX1) (N := 2) hx hb hts hi_X1 hown hK hP 10 hh10 rfl 0 (by decide) (hts (.fieldLink RX1 9 "BoilerLog$Draft" "characters" "[C") (List.mem_of_getElem? (i := 3) rfl)) (fun _ h9 => h9) rfl dX1_toSigns_31 ?_
          refine lv_iload_n hx hb dX1_toSigns_34 rfl (lv_at hl 2 rfl) ?_
          refine va_cald hx hb hK hP 11 3 hh11 rfl (vp_in_nI (by omega) (by omega)) dX1_toSigns_35 ?_
          refine W.eq (g2 := F0 m 36 ls [.int ((T 17) k)]) (by first | (rw [nI_clamp (by omega)]; done) | (rw [nI_clamp (by omega)]; rfl)) ?_
          refine lv_istore (lv' := [(4, .int ((T 17) k)), (0, .ref (r 10)), (1, .ref zq), (2, .int (nI k)), (3, .int (nI (sLen (T 17) k)))]) hx hb dX1_toSigns_36 hl (by decide) rfl (fun ls hl => ?_)
          refine lv_iload hx hb dX1_toSigns_38 (lv_at hl 0 rfl) ?_
          refine z_csi (va_Run.run (va_runS (As := [.int ((T 17) k)]) (rest := []) ⟨hx, hb, hml, hown, hts⟩ (c_X1_isHigh l G ((T 17) k)) (va_cwS 1 hts gX1_toSigns_X1_isHigh rfl rfl rfl (by decide +kernel) ⟨Nat.le_of_ble_eq_true rfl, Nat.le_of_ble_eq_true rfl⟩) (z_ps hK z_none) rfl rfl hl.1 rfl (lv_room (Nat.le_of_ble_eq_true rfl)) dX1_toSigns_40 ⟨(show 0 + 1 + 0 ≤ 1 by omega), (show 0 + (sLen (T 17) (N 4)) + 0 ≤ (sLen (T 17) (N 4)) by omega)⟩)) (fun zr_4 hzr_4 => ?_)
          subst hzr_4
          refine lv_if_eq (tgt := 78) hx hb dX1_toSigns_43 (by decide) (fun zc_5 => ?_) (fun zc_5 => ?_)
          · skip
            have zc_5 := zb_0.mp zc_5
            have hhi := zc_5
            refine lv_aload_n hx hb dX1_toSigns_78 rfl (lv_at hl 2 rfl) ?_
            refine lv_iload_n hx hb dX1_toSigns_79 rfl (lv_at hl 4 rfl) ?_
            refine lv_iload hx hb dX1_toSigns_80 (lv_at hl 0 rfl) ?_
            refine va_iast hx hb hK hP hD hS w.length 0 hhq rfl (vp_in_nI hlt (by omega)) dX1_toSigns_82 (fun Hz Lz hP hD hS => ?_)
            rw [nI_clamp (by omega)] at hP hD
            refine lv_iinc (v := (nI (k + 1))) (lv' := [(2, .int (nI (k + 1))), (4, .int ((T 17) k)), (0, .ref (r 10)), (1, .ref zq), (3, .int (nI (sLen (T 17) k)))]) hx hb dX1_toSigns_83 hl (k := 3) rfl (by first | exact nI_1 _ | rfl) (by decide) rfl (fun ls hl => ?_)
            refine lv_iinc (v := (nI (sLen (T 17) k + 1))) (lv' := [(3, .int (nI (sLen (T 17) k + 1))), (2, .int (nI (k + 1))), (4, .int ((T 17) k)), (0, .ref (r 10)), (1, .ref zq)]) hx hb dX1_toSigns_86 hl (k := 4) rfl (by first | exact nI_1 _ | rfl) (by decide) rfl (fun ls hl => ?_)
            refine lv_goto (tgt := 16) hx hb dX1_toSigns_89 (by decide) ?_
            rw [z_setl, zSg1 hhi hsw] at hP hD
            have hl2 := lv_sub (l' := [(0, .ref (r 10)), (1, .ref zq), (2, .int (nI (k + 1))), (3, .int (nI (sLen (T 17) k + 1)))]) hl [3, 4, 1, 0] rfl
            rw [sLen_s hhi] at hl2
            exact ih (k + 1) (by omega) (by omega) hhi _ _ hP hD hS ls hl2
          · skip
            have zc_5 := zb_n0 zc_5
            have hhi := zc_5
            obtain ⟨hnx, hlo⟩ := sGood_hi hG hkn hhi
            have hnh := sLo_hi hlo
            refine lv_iload_n hx hb dX1_toSigns_46 rfl (lv_at hl 3 rfl) ?_
            refine lv_iconst (v := 1) hx hb dX1_toSigns_47 (by decide) ?_
            refine lv_iadd hx hb dX1_toSigns_48 ?_
            refine W.eq (g2 := F0 m 49 ls [.int (nI (k + 1))]) (by first | (rw [nI_1]; done) | (rw [nI_1]; rfl)) ?_
            refine lv_aload_n hx hb dX1_toSigns_49 rfl (lv_at hl 1 rfl) ?_
            refine va_get (D := G.1) (ci := 2) (v := .int (nI (N 4))) (C := RX1) (T := TX1) (N := 2) hx hb hts hi_X1 hown hK hP 10 hh10 rfl 1 (by decide) (hts (.fieldLink RX1 15 "BoilerLog$Draft" "count" "I") (List.mem_of_getElem? (i := 1) rfl)) (fun _ h9 => h9) rfl dX1_toSigns_50 ?_
            refine lv_icmp_ge (tgt := 78) hx hb dX1_toSigns_53 (by decide) (fun zc_6 => ?_) (fun zc_6 => ?_)
            · skip
              have zd_6 := Int32.not_lt.mpr zc_6
              exact absurd ((nI_leI (by omega) (by omega)).mp zc_6) (by omega)
            · skip
              have zd_6 := Int32.not_le.mp zc_6
              refine lv_aload_n hx hb dX1_toSigns_56 rfl (lv_at hl 2 rfl) ?_
              refine lv_iload_n hx hb dX1_toSigns_57 rfl (lv_at hl 4 rfl) ?_
              refine lv_iload hx hb dX1_toSigns_58 (lv_at hl 0 rfl) ?_
              refine lv_aload_n hx hb dX1_toSigns_60 rfl (lv_at hl 1 rfl) ?_
              refine va_get (D := G.1) (ci := 2) (v := .ref (r 11)) (C := RX1) (T := TX1) (N := 2) hx hb hts hi_X1 hown hK hP 10 hh10 rfl 0 (by decide) (hts (.fieldLink RX1 9 "BoilerLog$Draft" "characters" "[C") (List.mem_of_getElem? (i := 3) rfl)) (fun _ h9 => h9) rfl dX1_toSigns_61 ?_
              refine lv_iload_n hx hb dX1_toSigns_64 rfl (lv_at hl 3 rfl) ?_
              refine lv_iconst (v := 1) hx hb dX1_toSigns_65 (by decide) ?_
              refine lv_iadd hx hb dX1_toSigns_66 ?_
              refine W.eq (g2 := F0 m 67 ls [.int (nI (k + 1)), .ref (r 11), .int ((T 17) k), .int (nI (sLen (T 17) k)), .ref zq]) (by first | (rw [nI_1]; done) | (rw [nI_1]; rfl)) ?_
              refine va_cald hx hb hK hP 11 3 hh11 rfl (vp_in_nI (by omega) (by omega)) dX1_toSigns_67 ?_
              refine W.eq (g2 := F0 m 68 ls [.int ((T 17) (k + 1)), .int ((T 17) k), .int (nI (sLen (T 17) k)), .ref zq]) (by first | (rw [nI_clamp (by omega)]; done) | (rw [nI_clamp (by omega)]; rfl)) ?_
              refine z_csi (va_Run.run (va_runS (As := [.int ((T 17) k), .int ((T 17) (k + 1))]) (rest := [.int (nI (sLen (T 17) k)), .ref zq]) ⟨hx, hb, hml, hown, hts⟩ (c_X1_join l G (w ++ ([(zq, .inl (G.2 0, (sLen (T 17) (N 4)), .inl (sSgn (T 17) k)))] : va_W)) ((T 17) k) ((T 17) (k + 1)) hhi) (va_cwS 2 hts gX1_toSigns_X1_join rfl rfl rfl (by decide +kernel) ⟨Nat.le_of_ble_eq_true rfl, Nat.le_of_ble_eq_true rfl⟩) (z_rs hK hP hZ.1 hS) rfl rfl hl.1 rfl (lv_room (Nat.le_of_ble_eq_true rfl)) dX1_toSigns_68 ⟨(show 0 + 1 + 0 ≤ 1 by omega), (show 0 + (sLen (T 17) (N 4)) + 0 ≤ (sLen (T 17) (N 4)) by omega)⟩)) (fun zr_7 hzr_7 => ?_)
              subst hzr_7
              refine va_iast hx hb hK hP hD hS w.length 0 hhq rfl (vp_in_nI hlt (by omega)) dX1_toSigns_71 (fun Hz Lz hP hD hS => ?_)
              rw [nI_clamp (by omega)] at hP hD
              refine lv_iinc (v := (nI (k + 2))) (lv' := [(2, .int (nI (k + 2))), (4, .int ((T 17) k)), (0, .ref (r 10)), (1, .ref zq), (3, .int (nI (sLen (T 17) k)))]) hx hb dX1_toSigns_72 hl (k := 3) rfl (by first | exact nI_add _ _ | rfl) (by decide) rfl (fun ls hl => ?_)
              refine lv_goto (tgt := 86) hx hb dX1_toSigns_75 (by decide) ?_
              refine lv_iinc (v := (nI (sLen (T 17) k + 1))) (lv' := [(3, .int (nI (sLen (T 17) k + 1))), (2, .int (nI (k + 2))), (4, .int ((T 17) k)), (0, .ref (r 10)), (1, .ref zq)]) hx hb dX1_toSigns_86 hl (k := 4) rfl (by first | exact nI_1 _ | rfl) (by decide) rfl (fun ls hl => ?_)
              refine lv_goto (tgt := 16) hx hb dX1_toSigns_89 (by decide) ?_
              rw [z_setl, zSg2 hhi hnh] at hP hD
              have hl2 := lv_sub (l' := [(0, .ref (r 10)), (1, .ref zq), (2, .int (nI (k + 2))), (3, .int (nI (sLen (T 17) k + 1)))]) hl [3, 4, 1, 0] rfl
              rw [sLen_p hhi hnh] at hl2
              exact ih (k + 2) (by omega) (by omega) hnh _ _ hP hD hS ls hl2
  exact key_16 (N 4 + 1) 0 (Nat.zero_le _) (by omega) rfl _ _ hP hD hS ls (lv_sub hl [3, 2, 1, 0] rfl)
