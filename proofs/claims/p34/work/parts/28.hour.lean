set_option maxHeartbeats 4000000 in
set_option maxRecDepth 100000 in
theorem c_X6_endHour (l : Launch) (G : zG) (d : Nat) (r A : Nat → Nat) (mc : Nat → Int32) (g : Nat → Nat → Int32) (N : Nat → Nat) (T : Nat → Nat → Int32) (w : va_W) (K : Nat) (sz : Nat) (hC : sCQ G d r A mc g N T w) (hN : sSm N) (hI : sInv N T K 0) (hKk : K ≤ 511) (h0 : N 0 < 2000) : Met l yX6_endHour wsX6_endHour ({ frames := 6, cells := (zpc ((sHour N T).1 1) - zpc (N 1)), slots := (zps ((sHour N T).1 1) - zps (N 1)), locals := 156 }) (va_Pc [.ref (r 0)] (zCu G d w sz)) (va_Qv (fun w1 : va_W => sCN G d r A ((sHour N T).1) ((sHour N T).2) w1) (zB G (va_A w sz)) (va_A w sz)) ((zpc ((sHour N T).1 1) - zpc (N 1))) ((zps ((sHour N T).1 1) - zps (N 1))) (va_A w sz) := by
  refine Met.ofW (cc := cX6_endHour) (maxL := 2) (ret := none) (by decide) rfl ?_
  intro p e s m args below meth c s₁ B hml hv
  obtain ⟨rfl, hsz, hP, hK, hD0, hZ⟩ := hv
  have hx := B.exec
  have hb := B.bytes
  have hr := B.returns
  have hts := atoms_spec (ws := wsX6_endHour) B.pre
  have hown : s.vm.findClass RX6 = some m.cls := findClass_of_methodNamed B.named
  have hlocks := B.notSynchronized
  have hi_X5 : ∀ w ∈ u_ws RX5 TX5 3, w ∈ wsX6_endHour := (fun _ h => List.mem_cons_of_mem _ (List.mem_append_left _ (List.mem_append_left _ (List.mem_append_left _ (List.mem_append_left _ (List.mem_append_right _ h))))))
  have hi_X6 : ∀ w ∈ u_ws RX6 TX6 14, w ∈ wsX6_endHour := (fun _ h => List.mem_cons_of_mem _ (List.mem_append_left _ (List.mem_append_left _ (List.mem_append_left _ (List.mem_append_left _ (List.mem_append_left _ (List.mem_append_right _ h)))))))
  have hNs := hZ.1.2.2
  have hS0 : va_S (fun _ => False) s.heap s.heap [] := va_S.rf
  subst hsz
  have hD := hD0.self (sz := s.heap.size)
  generalize hAe : va_A w s.heap.size = Aw at hD hZ ⊢
  have hA : ∀ q : Nat, s.heap.size ≤ q → Aw q := fun q h => by rw [← hAe]; exact Or.inr h
  have hS : va_S Aw s.heap s.heap [] := va_S.rf
  have hl := lv_entry ([.ref (r 0)]) (n := 2) (Nat.le_of_ble_eq_true rfl)
  rw [lg_entry_eq]
  generalize (lg_sl ([.ref (r 0)]) ++ List.replicate (2 - (lg_sl ([.ref (r 0)])).length) Slot.unset).toArray = ls at hl ⊢
  have hl : lv_has ls 2 [(0, .ref (r 0))] := hl
  refine lv_iconst (v := 0) hx hb dX6_endHour_0 (by decide) ?_
  refine lv_istore_n (lv' := [(1, .int 0), (0, .ref (r 0))]) hx hb dX6_endHour_1 rfl hl (by decide) rfl (fun ls hl => ?_)
  have key_2 : ∀ (n i : Nat), i ≤ 8 → 8 < i + n → ∀ (w : va_W) (zA_l2 : Nat → Nat) (mc : Nat → Int32) (g : Nat → Nat → Int32) (Hz : Heap) (Lz : List Loc), (∀ q, q ≠ 8 → zA_l2 q = A q) → sCQ G d r zA_l2 mc g ((sLeads i N T).1) ((sLeads i N T).2) w → va_P G.1 vwCl w Hz → va_D Aw w → va_S Aw s.heap Hz Lz → ∀ ls : Array Slot, lv_has ls 2 [(0, .ref (r 0)), (1, .int (nI i))] → W p l e (headSpec wsX6_endHour ({ frames := 6, cells := (zpc ((sHour N T).1 1) - zpc (N 1)), slots := (zps ((sHour N T).1 1) - zps (N 1)), locals := 156 })).room s m ([.ref (r 0)] : List Value).toArray below meth c Hz Lz (0) (0) (MQ below (va_Qv (fun w1 : va_W => sCN G d r A ((sHour N T).1) ((sHour N T).2) w1) (zB G Aw) Aw) (([.ref (r 0)] : List Value).toArray) s ((zpc ((sHour N T).1 1) - zpc (N 1))) ((zps ((sHour N T).1 1) - zps (N 1))) Aw) (F0 m 2 ls []) := by
    intro n
    induction n with
    | zero => intro i h1 h2; exact absurd h2 (by omega)
    | succ n ih =>
      intro i hi hn w zA_l2 mc g Hz Lz heA_l2 hC hP hD hS ls hl
      have hkp : sKeep N T (sLeads i N T) := sLeads_keep
      have hN1 : (sLeads i N T).1 = N := sLeads_same.1
      have hNl : sSm (sLeads i N T).1 := by rw [hN1]; exact hN
      refine lv_iload_n hx hb dX6_endHour_2 rfl (lv_at hl 1 rfl) ?_
      refine lv_bipush (v := 8) hx hb dX6_endHour_3 (by decide) ?_
      refine lv_icmp_ge (tgt := 48) hx hb dX6_endHour_5 (by decide) (fun zc_1 => ?_) (fun zc_1 => ?_)
      · skip
        have zd_1 := Int32.not_lt.mpr zc_1
        have zhc := (nI_leI (a := 8) (by omega) (by omega)).mp zc_1
        have zie := Nat.le_antisymm hi zhc
        subst zie
        have hC : sCQ G d r zA_l2 mc g N (sLeads 8 N T).2 w := by rw [show (sLeads 8 N T).1 = N from sLeads_same.1] at hC; exact hC
        have hI1 := sInv_l8 hI
        generalize hT1 : (sLeads 8 N T).2 = T1 at hC hI1
        have hHe := sHour_eq (N := N) (T := T)
        rw [hT1] at hHe
        have hHn := sHour_n1 (N := N) (T := T)
        rw [hT1] at hHn
        refine lv_iconst (v := 0) hx hb dX6_endHour_48 (by decide) ?_
        refine lv_istore_n (lv' := [(1, .int 0), (0, .ref (r 0))]) hx hb dX6_endHour_49 rfl hl (by decide) rfl (fun ls hl => ?_)
        have key_50 : ∀ (n i : Nat), i ≤ N 3 → N 3 < i + n → ∀ (w : va_W) (zA_l50 : Nat → Nat) (mc : Nat → Int32) (g : Nat → Nat → Int32) (Hz : Heap) (Lz : List Loc), (∀ q, q ≠ 8 → zA_l50 q = zA_l2 q) → sCQ G d r zA_l50 mc g ((sWatches i N T1).1) ((sWatches i N T1).2) w → va_P G.1 vwCl w Hz → va_D Aw w → va_S Aw s.heap Hz Lz → ∀ ls : Array Slot, lv_has ls 2 [(0, .ref (r 0)), (1, .int (nI i))] → W p l e (headSpec wsX6_endHour ({ frames := 6, cells := (zpc ((sHour N T).1 1) - zpc (N 1)), slots := (zps ((sHour N T).1 1) - zps (N 1)), locals := 156 })).room s m ([.ref (r 0)] : List Value).toArray below meth c Hz Lz ((zpc ((sWatches i N T1).1 1) - zpc (N 1))) ((zps ((sWatches i N T1).1 1) - zps (N 1))) (MQ below (va_Qv (fun w1 : va_W => sCN G d r A ((sHour N T).1) ((sHour N T).2) w1) (zB G Aw) Aw) (([.ref (r 0)] : List Value).toArray) s ((zpc ((sHour N T).1 1) - zpc (N 1))) ((zps ((sHour N T).1 1) - zps (N 1))) Aw) (F0 m 50 ls []) := by
          intro n
          induction n with
          | zero => intro i h1 h2; exact absurd h2 (by omega)
          | succ n ih =>
            intro i hi hn w zA_l50 mc g Hz Lz heA_l50 hC hP hD hS ls hl
            have heA_l50_A : ∀ i, i ≠ 8 → zA_l50 i = A i := fun i h => (heA_l50 i h).trans (heA_l2 i h)
            have hk3 : (sWatches i N T1).1 3 = N 3 := sWatches_keep.1 3 (by omega)
            have hIi : sInv (sWatches i N T1).1 (sWatches i N T1).2 K i := sInv_watches hI1 hi
            have hNi := hIi.sm
            have h0i : (sWatches i N T1).1 0 < 2000 := by rw [sWatches_0]; exact h0
            have hq1 := zpc_m (sWatches_n1 (N := N) (T := T1) (a := i))
            have hq1b := zps_m (sWatches_n1 (N := N) (T := T1) (a := i))
            have hqe := zpc_m (sWatches_m (N := N) (T := T1) hi)
            have hqeb := zps_m (sWatches_m (N := N) (T := T1) hi)
            rw [← hHn] at hqe hqeb
            refine lv_iload_n hx hb dX6_endHour_50 rfl (lv_at hl 1 rfl) ?_
            refine lv_aload_n hx hb dX6_endHour_51 rfl (lv_at hl 0 rfl) ?_
            have hh0 : w[0]? = some (r 0, .inr (7, [.ref (r 1), .ref (r 2), .ref (r 3), .ref (r 4), .ref (r 5), .ref (r 6), .ref (r 7), .ref (r 8), .ref (r 9), .ref (r 10), .int (nI (((sWatches i N T1).1) 0)), .int ((((sWatches i N T1).2) 19) 0), .int ((((sWatches i N T1).2) 19) 1), .int (nI (((sWatches i N T1).1) 6))])) := hC.1.1 0 (by omega)
            refine va_get (D := G.1) (ci := 7) (v := .ref (r 6)) (C := RX6) (T := TX6) (N := 14) hx hb hts hi_X6 hown hK hP 0 hh0 rfl 5 (by decide) (hts (.fieldLink RX6 33 "BoilerLog" "alarms" "Ljava/util/ArrayList;") (List.mem_of_getElem? (i := 2) rfl)) (fun _ h9 => h9) rfl dX6_endHour_52 ?_
            have hh6 : w[6]? = some (r 6, .inr (0, [.int (mc 1), cDt d (((sWatches i N T1).1) 3) (zA_l50 10), .int (nI (((sWatches i N T1).1) 3))])) := hC.1.1 6 (by omega)
            refine z_csi (va_Run.run (va_runV (As := []) (rest := [.int (nI i)]) ⟨hx, hb, hml, hown, hts⟩ (c_Jx4a65c_size_8abf5 l G w 6 (r 6) (mc 1) (cDt d (((sWatches i N T1).1) 3) (zA_l50 10)) (nI (((sWatches i N T1).1) 3)) (by first | assumption | omega | exact sIx_in.mp (by assumption))) (cwV 0 hts gX6_endHour_Jx4a65c_size_8abf5 rfl rfl rfl (by decide +kernel) ⟨Nat.le_of_ble_eq_true rfl, Nat.le_of_ble_eq_true rfl⟩) (z_pv hK hP (ci := 0) (q0 := 6) rfl hh6 hP) rfl rfl hl.1 rfl (lv_room (Nat.le_of_ble_eq_true rfl)) dX6_endHour_55 ⟨(show (zpc ((sWatches i N T1).1 1) - zpc (N 1)) + 0 ≤ (zpc ((sHour N T).1 1) - zpc (N 1)) by first | omega | (rw [hHn]; omega)), (show (zps ((sWatches i N T1).1 1) - zps (N 1)) + 0 ≤ (zps ((sHour N T).1 1) - zps (N 1)) by first | omega | (rw [hHn]; omega))⟩)) (fun zr_2 hzr_2 => ?_)
            subst hzr_2
            refine lv_icmp_ge (tgt := 72) hx hb dX6_endHour_58 (by decide) (fun zc_3 => ?_) (fun zc_3 => ?_)
            · skip
              have zd_3 := Int32.not_lt.mpr zc_3
              rw [hk3] at zc_3
              have zhc := (nI_leI (by have := hN.2.1; omega) (by have := hN.2.1; omega)).mp zc_3
              have zie := Nat.le_antisymm hi zhc
              subst zie
              generalize hSw : sWatches (N 3) N T1 = S at hC hIi hNi h0i hHe hHn hq1 hq1b hqe hqeb ⊢
              obtain ⟨SN, ST⟩ := S
              have hC : sCQ G d r zA_l50 mc g SN ST w := hC
              have hNi : sSm SN := hNi
              have h0i : SN 0 < 2000 := h0i
              have hHn : (sHour N T).1 1 = SN 1 := hHn
              have hHe : sHour N T = (va_up SN 0 (SN 0 + 1), if (SN 0 + 1) % 8 = 0 then va_up ST 19 (upd (ST 19) 0 (nI (SN 1))) else ST) := hHe
              have hq1 : zpc (N 1) ≤ zpc (SN 1) := hq1
              have hq1b : zps (N 1) ≤ zps (SN 1) := hq1b
              refine z_widen (k := (zpc (SN 1) - zpc (N 1))) (n := (zps (SN 1) - zps (N 1))) (Nat.le_refl _) (Nat.le_refl _) ?_
              refine lv_aload_n hx hb dX6_endHour_72 rfl (lv_at hl 0 rfl) ?_
              refine lv_dup hx hb dX6_endHour_73 rfl ?_
              have hh0 : w[0]? = some (r 0, .inr (7, [.ref (r 1), .ref (r 2), .ref (r 3), .ref (r 4), .ref (r 5), .ref (r 6), .ref (r 7), .ref (r 8), .ref (r 9), .ref (r 10), .int (nI (SN 0)), .int ((ST 19) 0), .int ((ST 19) 1), .int (nI (SN 6))])) := hC.1.1 0 (by omega)
              refine va_get (D := G.1) (ci := 7) (v := .int (nI (SN 0))) (C := RX6) (T := TX6) (N := 14) hx hb hts hi_X6 hown hK hP 0 hh0 rfl 10 (by decide) (hts (.fieldLink RX6 56 "BoilerLog" "now" "I") (List.mem_of_getElem? (i := 3) rfl)) (fun _ h9 => h9) rfl dX6_endHour_74 ?_
              refine lv_iconst (v := 1) hx hb dX6_endHour_77 (by decide) ?_
              refine lv_iadd hx hb dX6_endHour_78 ?_
              refine W.eq (g2 := F0 m 79 ls [.int (nI (SN 0 + 1)), .ref (r 0)]) (by first | (rw [nI_1]; done) | (rw [nI_1]; rfl)) ?_
              refine va_put (D := G.1) (ci := 7) (v := .int (nI (SN 0 + 1))) (ty := .int) (C := RX6) (T := TX6) (N := 14) hx hb hts hi_X6 tyX6 tyX6_ok nmX6 hown hK hP hD hS 0 hh0 rfl 10 (by decide) (hts (.fieldLink RX6 56 "BoilerLog" "now" "I") (List.mem_of_getElem? (i := 3) rfl)) (fun _ h9 => h9) rfl (by decide +kernel) rfl rfl (Nat.le_of_ble_eq_true rfl) dX6_endHour_79 (fun Hz Lz hP hD hS => ?_)
              have hP : va_P G.1 vwCl (w.set 0 (r 0, .inr (7, [.ref (r 1), .ref (r 2), .ref (r 3), .ref (r 4), .ref (r 5), .ref (r 6), .ref (r 7), .ref (r 8), .ref (r 9), .ref (r 10), .int (nI (SN 0 + 1)), .int ((ST 19) 0), .int ((ST 19) 1), .int (nI (SN 6))]))) Hz := hP
              have hD : va_D Aw (w.set 0 (r 0, .inr (7, [.ref (r 1), .ref (r 2), .ref (r 3), .ref (r 4), .ref (r 5), .ref (r 6), .ref (r 7), .ref (r 8), .ref (r 9), .ref (r 10), .int (nI (SN 0 + 1)), .int ((ST 19) 0), .int ((ST 19) 1), .int (nI (SN 6))]))) := hD
              have hC : sCQ G d r zA_l50 mc g (va_up SN 0 (SN 0 + 1)) ST (w.set 0 (r 0, .inr (7, [.ref (r 1), .ref (r 2), .ref (r 3), .ref (r 4), .ref (r 5), .ref (r 6), .ref (r 7), .ref (r 8), .ref (r 9), .ref (r 10), .int (nI (SN 0 + 1)), .int ((ST 19) 0), .int ((ST 19) 1), .int (nI (SN 6))]))) := (sC_n0 hC hNi)
              generalize (w.set 0 (r 0, .inr (7, [.ref (r 1), .ref (r 2), .ref (r 3), .ref (r 4), .ref (r 5), .ref (r 6), .ref (r 7), .ref (r 8), .ref (r 9), .ref (r 10), .int (nI (SN 0 + 1)), .int ((ST 19) 0), .int ((ST 19) 1), .int (nI (SN 6))]))) = zw_4 at hP hD hC
              refine lv_aload_n hx hb dX6_endHour_82 rfl (lv_at hl 0 rfl) ?_
              have hh0 : zw_4[0]? = some (r 0, .inr (7, [.ref (r 1), .ref (r 2), .ref (r 3), .ref (r 4), .ref (r 5), .ref (r 6), .ref (r 7), .ref (r 8), .ref (r 9), .ref (r 10), .int (nI ((SN 0 + 1))), .int ((ST 19) 0), .int ((ST 19) 1), .int (nI (SN 6))])) := hC.1.1 0 (by omega)
              refine va_get (D := G.1) (ci := 7) (v := .int (nI ((SN 0 + 1)))) (C := RX6) (T := TX6) (N := 14) hx hb hts hi_X6 hown hK hP 0 hh0 rfl 10 (by decide) (hts (.fieldLink RX6 56 "BoilerLog" "now" "I") (List.mem_of_getElem? (i := 3) rfl)) (fun _ h9 => h9) rfl dX6_endHour_83 ?_
              refine lv_bipush (v := 8) hx hb dX6_endHour_86 (by decide) ?_
              refine lv_irem hx hb dX6_endHour_88 (by decide) ?_
              refine W.eq (g2 := F0 m 89 ls [.int (nI ((SN 0 + 1) % 8))]) (by first | (rw [zRem8 (by omega)]; done) | (rw [zRem8 (by omega)]; rfl)) ?_
              refine lv_if_ne (tgt := 103) hx hb dX6_endHour_89 (by decide) (fun zc_5 => ?_) (fun zc_5 => ?_)
              · skip
                have zm := zRm8n zc_5
                exact z_widen (k := (zpc ((sHour N T).1 1) - zpc (N 1))) (n := (zps ((sHour N T).1 1) - zps (N 1))) (show (zpc (SN 1) - zpc (N 1)) ≤ (zpc ((sHour N T).1 1) - zpc (N 1)) by first | omega | (rw [hHn]; omega)) (show (zps (SN 1) - zps (N 1)) ≤ (zps ((sHour N T).1 1) - zps (N 1)) by first | omega | (rw [hHn]; omega)) (W.vret hx hb hr (fun t ht hW => ⟨⟨zw_4, rfl, by rw [hHe, if_neg zm]; exact ⟨_, _, _, hC, heA_l50_A⟩, ⟨by rw [ht]; exact hP, hD⟩⟩, hS.F ht⟩) hS.2.2 dX6_endHour_103 hlocks)
              · skip
                have zm := zRm8 (by omega) zc_5
                refine lv_aload_n hx hb dX6_endHour_92 rfl (lv_at hl 0 rfl) ?_
                refine lv_aload_n hx hb dX6_endHour_93 rfl (lv_at hl 0 rfl) ?_
                refine va_get (D := G.1) (ci := 7) (v := .ref (r 9)) (C := RX6) (T := TX6) (N := 14) hx hb hts hi_X6 hown hK hP 0 hh0 rfl 8 (by decide) (hts (.fieldLink RX6 45 "BoilerLog" "log" "LBoilerLog$Log;") (List.mem_of_getElem? (i := 4) rfl)) (fun _ h9 => h9) rfl dX6_endHour_94 ?_
                have hh9 : zw_4[9]? = some (r 9, .inr (3, [.ref (zA_l50 8), .int (nI (SN 1))])) := hC.1.1 9 (by omega)
                refine z_csi (va_Run.run (va_runVN (As := []) (rest := [.ref (r 0)]) ⟨hx, hb, hml, hown, hts⟩ (c_X2_size l G zw_4 9 (r 9) (zA_l50 8) (nI (SN 1)) (by assumption)) ⟨va_cnB 0 hts gX6_endHour_X2_size_n123 rfl rfl rfl (hNs.1 _ (List.mem_append_left _ (List.mem_of_getElem? (i := 11) rfl))) (hts (.initialized RX2) (List.mem_of_getElem? (i := 55) rfl)) (by decide +kernel) ⟨Nat.le_of_ble_eq_true rfl, Nat.le_of_ble_eq_true rfl⟩, hts (.instanceMethod yX2_size) (List.mem_of_getElem? (i := 90) rfl), hts (.selects RX2 yX2_size yX2_size) (List.mem_of_getElem? (i := 91) rfl)⟩ (z_pv hK hP (ci := 3) (q0 := 9) rfl hh9 hP) rfl rfl hl.1 rfl (lv_room (Nat.le_of_ble_eq_true rfl)) dX6_endHour_97 ⟨(show (zpc (SN 1) - zpc (N 1)) + 0 ≤ (zpc ((sHour N T).1 1) - zpc (N 1)) by first | omega | (rw [hHn]; omega)), (show (zps (SN 1) - zps (N 1)) + 0 ≤ (zps ((sHour N T).1 1) - zps (N 1)) by first | omega | (rw [hHn]; omega))⟩)) (fun zr_6 hzr_6 => ?_)
                subst hzr_6
                refine va_put (D := G.1) (ci := 7) (v := .int (nI (SN 1))) (ty := .int) (C := RX6) (T := TX6) (N := 14) hx hb hts hi_X6 tyX6 tyX6_ok nmX6 hown hK hP hD hS 0 hh0 rfl 11 (by decide) (hts (.fieldLink RX6 60 "BoilerLog" "entriesAtShiftStart" "I") (List.mem_of_getElem? (i := 5) rfl)) (fun _ h9 => h9) rfl (by decide +kernel) rfl rfl (Nat.le_of_ble_eq_true rfl) dX6_endHour_100 (fun Hz Lz hP hD hS => ?_)
                have hP : va_P G.1 vwCl (zw_4.set 0 (r 0, .inr (7, [.ref (r 1), .ref (r 2), .ref (r 3), .ref (r 4), .ref (r 5), .ref (r 6), .ref (r 7), .ref (r 8), .ref (r 9), .ref (r 10), .int (nI ((SN 0 + 1))), .int (nI (SN 1)), .int ((ST 19) 1), .int (nI (SN 6))]))) Hz := hP
                have hD : va_D Aw (zw_4.set 0 (r 0, .inr (7, [.ref (r 1), .ref (r 2), .ref (r 3), .ref (r 4), .ref (r 5), .ref (r 6), .ref (r 7), .ref (r 8), .ref (r 9), .ref (r 10), .int (nI ((SN 0 + 1))), .int (nI (SN 1)), .int ((ST 19) 1), .int (nI (SN 6))]))) := hD
                have hC : sCQ G d r zA_l50 mc g (va_up SN 0 (SN 0 + 1)) (va_up ST 19 (upd (ST 19) 0 (nI (SN 1)))) (zw_4.set 0 (r 0, .inr (7, [.ref (r 1), .ref (r 2), .ref (r 3), .ref (r 4), .ref (r 5), .ref (r 6), .ref (r 7), .ref (r 8), .ref (r 9), .ref (r 10), .int (nI ((SN 0 + 1))), .int (nI (SN 1)), .int ((ST 19) 1), .int (nI (SN 6))]))) := (sC_t19 (f := upd (ST 19) 0 (nI (SN 1))) hC (by obtain ⟨a1, a2, a3, a4, a5, a6⟩ := hNi; exact ⟨a1, a2, a3, a4, a5, by show SN 0 + 1 ≤ 2000; omega⟩))
                generalize (zw_4.set 0 (r 0, .inr (7, [.ref (r 1), .ref (r 2), .ref (r 3), .ref (r 4), .ref (r 5), .ref (r 6), .ref (r 7), .ref (r 8), .ref (r 9), .ref (r 10), .int (nI ((SN 0 + 1))), .int (nI (SN 1)), .int ((ST 19) 1), .int (nI (SN 6))]))) = zw_7 at hP hD hC
                exact z_widen (k := (zpc ((sHour N T).1 1) - zpc (N 1))) (n := (zps ((sHour N T).1 1) - zps (N 1))) (show (zpc (SN 1) - zpc (N 1)) ≤ (zpc ((sHour N T).1 1) - zpc (N 1)) by first | omega | (rw [hHn]; omega)) (show (zps (SN 1) - zps (N 1)) ≤ (zps ((sHour N T).1 1) - zps (N 1)) by first | omega | (rw [hHn]; omega)) (W.vret hx hb hr (fun t ht hW => ⟨⟨zw_7, rfl, by rw [hHe, if_pos zm]; exact ⟨_, _, _, hC, heA_l50_A⟩, ⟨by rw [ht]; exact hP, hD⟩⟩, hS.F ht⟩) hS.2.2 dX6_endHour_103 hlocks)
            · skip
              have zd_3 := Int32.not_le.mp zc_3
              have zhc : i < N 3 := by have hz := hN.2.1; rw [hk3] at zc_3; exact Nat.lt_of_not_le (fun z => zc_3 ((nI_leI (by omega) (by omega)).mpr z))
              have hq2 := zpc_m (sWatch_n1 (N := (sWatches i N T1).1) (T := (sWatches i N T1).2) (a := i))
              have hq2b := zps_m (sWatch_n1 (N := (sWatches i N T1).1) (T := (sWatches i N T1).2) (a := i))
              have hsw : sWatches (i + 1) N T1 = (sWatch (sWatches i N T1).1 (sWatches i N T1).2 i) := rfl
              have hq3 := zpc_m (sWatches_m (N := N) (T := T1) (a := i + 1) (b := N 3) (by omega))
              have hq3b := zps_m (sWatches_m (N := N) (T := T1) (a := i + 1) (b := N 3) (by omega))
              rw [hsw, ← hHn] at hq3 hq3b
              refine lv_aload_n hx hb dX6_endHour_61 rfl (lv_at hl 0 rfl) ?_
              refine lv_iload_n hx hb dX6_endHour_62 rfl (lv_at hl 1 rfl) ?_
              refine z_cuv (va_runV (As := [.int (nI i)]) (rest := []) ⟨hx, hb, hml, hown, hts⟩ (c_X6_watch l G d r zA_l50 mc g ((sWatches i N T1).1) ((sWatches i N T1).2) w i K Hz.size hC hNi (by rw [hk3]; exact zhc) hIi hKk h0i) (cwV 1 hts gX6_endHour_X6_watch rfl rfl rfl (by decide +kernel) ⟨Nat.le_of_ble_eq_true rfl, Nat.le_of_ble_eq_true rfl⟩) (z_wv hK hP (ci := 7) (q0 := 0) rfl hh0 hP hD hZ hS hA) rfl rfl hl.1 rfl (lv_room (Nat.le_of_ble_eq_true rfl)) dX6_endHour_63 ⟨(show (zpc ((sWatches i N T1).1 1) - zpc (N 1)) + (zpc ((sWatch ((sWatches i N T1).1) ((sWatches i N T1).2) i).1 1) - zpc ((((sWatches i N T1).1) 1))) ≤ (zpc ((sHour N T).1 1) - zpc (N 1)) by first | omega | (rw [hHn]; omega)), (show (zps ((sWatches i N T1).1 1) - zps (N 1)) + (zps ((sWatch ((sWatches i N T1).1) ((sWatches i N T1).2) i).1 1) - zps ((((sWatches i N T1).1) 1))) ≤ (zps ((sHour N T).1 1) - zps (N 1)) by first | omega | (rw [hHn]; omega))⟩) hD hS hA (fun zw_8 Hz Lz hw hP hD hS => ?_)
              obtain ⟨zA_8, mc, g, hC, heA_8⟩ := hw
              have heA_8_zA_l2 : ∀ i, i ≠ 8 → zA_8 i = zA_l2 i := fun i h => (heA_8 i h).trans (heA_l50 i h)
              have heA_8_A : ∀ i, i ≠ 8 → zA_8 i = A i := fun i h => (heA_8 i h).trans (heA_l50_A i h)
              refine lv_iinc (v := (nI (i + 1))) (lv' := [(1, .int (nI (i + 1))), (0, .ref (r 0))]) hx hb dX6_endHour_66 hl (k := 1) rfl (by first | exact nI_1 _ | rfl) (by decide) rfl (fun ls hl => ?_)
              refine lv_goto (tgt := 50) hx hb dX6_endHour_69 (by decide) ?_
              have hl2 := lv_sub (l' := [(0, .ref (r 0)), (1, .int (nI (i + 1)))]) hl [1, 0] rfl
              exact z_widen (k := (zpc ((sWatches (i + 1) N T1).1 1) - zpc (N 1))) (n := (zps ((sWatches (i + 1) N T1).1 1) - zps (N 1))) (show (zpc ((sWatches i N T1).1 1) - zpc (N 1)) + (zpc ((sWatch ((sWatches i N T1).1) ((sWatches i N T1).2) i).1 1) - zpc ((((sWatches i N T1).1) 1))) ≤ (zpc ((sWatches (i + 1) N T1).1 1) - zpc (N 1)) by (rw [hsw]; omega)) (show (zps ((sWatches i N T1).1 1) - zps (N 1)) + (zps ((sWatch ((sWatches i N T1).1) ((sWatches i N T1).2) i).1 1) - zps ((((sWatches i N T1).1) 1))) ≤ (zps ((sWatches (i + 1) N T1).1 1) - zps (N 1)) by (rw [hsw]; omega)) (ih (i + 1) (by omega) (by omega) _ _ _ _ _ _ heA_8_zA_l2 hC hP hD hS ls hl2)
        exact z_widen (k := (zpc ((sWatches 0 N T1).1 1) - zpc (N 1))) (n := (zps ((sWatches 0 N T1).1 1) - zps (N 1))) (show 0 ≤ (zpc ((sWatches 0 N T1).1 1) - zpc (N 1)) by omega) (show 0 ≤ (zps ((sWatches 0 N T1).1 1) - zps (N 1)) by omega) (key_50 (N 3 + 1) 0 (Nat.zero_le _) (by omega) _ _ _ _ _ _ (fun _ _ => rfl) hC hP hD hS ls (lv_sub hl [1, 0] rfl))
      · skip
        have zd_1 := Int32.not_le.mp zc_1
        have zhc := Nat.lt_of_not_le (fun z => zc_1 ((nI_leI (a := 8) (by omega) (by omega)).mpr z))
        refine lv_aload_n hx hb dX6_endHour_8 rfl (lv_at hl 0 rfl) ?_
        have hh0 : w[0]? = some (r 0, .inr (7, [.ref (r 1), .ref (r 2), .ref (r 3), .ref (r 4), .ref (r 5), .ref (r 6), .ref (r 7), .ref (r 8), .ref (r 9), .ref (r 10), .int (nI (((sLeads i N T).1) 0)), .int ((((sLeads i N T).2) 19) 0), .int ((((sLeads i N T).2) 19) 1), .int (nI (((sLeads i N T).1) 6))])) := hC.1.1 0 (by omega)
        refine va_get (D := G.1) (ci := 7) (v := .ref (r 1)) (C := RX6) (T := TX6) (N := 14) hx hb hts hi_X6 hown hK hP 0 hh0 rfl 0 (by decide) (hts (.fieldLink RX6 11 "BoilerLog" "valves" "[LBoilerLog$Valve;") (List.mem_of_getElem? (i := 1) rfl)) (fun _ h9 => h9) rfl dX6_endHour_9 ?_
        refine lv_iload_n hx hb dX6_endHour_12 rfl (lv_at hl 1 rfl) ?_
        have hh1 : w[1]? = some (r 1, .inl (G.2 4, 8, .inr (.inr (.inr (.inr (cGa zA_l2 0 8)))))) := hC.1.1 1 (by omega)
        refine va_aldq hx hb hK hP 1 4 hh1 rfl (by first | assumption | exact sIx_in.mp (by assumption) | exact vp_in_nI (by omega) (by omega)) dX6_endHour_13 ?_
        refine W.eq (g2 := F0 m 14 ls [.ref (zA_l2 i)]) (by first | (rw [nI_clamp (by omega), cGa_0 (show i < 8 by omega)]; done) | (rw [nI_clamp (by omega), cGa_0 (show i < 8 by omega)]; rfl)) ?_
        obtain ⟨kz9, zk9, hz9⟩ := hC.1.2.1 i (Or.inl (show i < 8 by omega))
        rw [cE_val (show i < 8 by omega)] at hz9
        have hz9 : w[kz9]? = some (zA_l2 i, .inr (6, [.int ((((sLeads i N T).2) 3) i), .int ((((sLeads i N T).2) 4) i), .int ((((sLeads i N T).2) 5) i)])) := hz9
        refine va_getN (D := G.1) (ci := 6) (v := .int ((((sLeads i N T).2) 3) i)) (C := RX5) (T := TX5) (N := 3) hx hb hts hi_X5 hown hK hP kz9 hz9 rfl 0 (by decide) (va_Nw.use rfl (hNs.1 _ (List.mem_append_left _ (List.mem_of_getElem? (i := 10) rfl)))) (fun _ h9 => h9) rfl dX6_endHour_14 ?_
        refine lv_if_eq (tgt := 42) hx hb dX6_endHour_17 (by decide) (fun zc_10 => ?_) (fun zc_10 => ?_)
        · skip
          refine lv_iinc (v := (nI (i + 1))) (lv' := [(1, .int (nI (i + 1))), (0, .ref (r 0))]) hx hb dX6_endHour_42 hl (k := 1) rfl (by first | exact nI_1 _ | rfl) (by decide) rfl (fun ls hl => ?_)
          refine lv_goto (tgt := 2) hx hb dX6_endHour_45 (by decide) ?_
          have hl2 := lv_sub (l' := [(0, .ref (r 0)), (1, .int (nI (i + 1)))]) hl [1, 0] rfl
          exact z_widen (k := 0) (n := 0) (show 0 ≤ 0 by omega) (show 0 ≤ 0 by omega) (ih (i + 1) (by omega) (by omega) _ _ _ _ _ _ heA_l2 (by rw [sLeads_s0 zc_10]; exact hC) hP hD hS ls hl2)
        · skip
          have zc_op := zc_10
          refine lv_aload_n hx hb dX6_endHour_20 rfl (lv_at hl 0 rfl) ?_
          refine lv_aload_n hx hb dX6_endHour_21 rfl (lv_at hl 0 rfl) ?_
          refine va_get (D := G.1) (ci := 7) (v := .ref (r 1)) (C := RX6) (T := TX6) (N := 14) hx hb hts hi_X6 hown hK hP 0 hh0 rfl 0 (by decide) (hts (.fieldLink RX6 11 "BoilerLog" "valves" "[LBoilerLog$Valve;") (List.mem_of_getElem? (i := 1) rfl)) (fun _ h9 => h9) rfl dX6_endHour_22 ?_
          refine lv_iload_n hx hb dX6_endHour_25 rfl (lv_at hl 1 rfl) ?_
          refine va_aldq hx hb hK hP 1 4 hh1 rfl (by first | assumption | exact sIx_in.mp (by assumption) | exact vp_in_nI (by omega) (by omega)) dX6_endHour_26 ?_
          refine W.eq (g2 := F0 m 27 ls [.ref (zA_l2 i), .ref (r 0)]) (by first | (rw [nI_clamp (by omega), cGa_0 (show i < 8 by omega)]; done) | (rw [nI_clamp (by omega), cGa_0 (show i < 8 by omega)]; rfl)) ?_
          refine va_getN (D := G.1) (ci := 6) (v := .int ((((sLeads i N T).2) 4) i)) (C := RX5) (T := TX5) (N := 3) hx hb hts hi_X5 hown hK hP kz9 hz9 rfl 1 (by decide) (va_Nw.use rfl (hNs.1 _ (List.mem_append_left _ (List.mem_of_getElem? (i := 0) rfl)))) (fun _ h9 => h9) rfl dX6_endHour_27 ?_
          refine lv_aload_n hx hb dX6_endHour_30 rfl (lv_at hl 0 rfl) ?_
          refine va_get (D := G.1) (ci := 7) (v := .ref (r 1)) (C := RX6) (T := TX6) (N := 14) hx hb hts hi_X6 hown hK hP 0 hh0 rfl 0 (by decide) (hts (.fieldLink RX6 11 "BoilerLog" "valves" "[LBoilerLog$Valve;") (List.mem_of_getElem? (i := 1) rfl)) (fun _ h9 => h9) rfl dX6_endHour_31 ?_
          refine lv_iload_n hx hb dX6_endHour_34 rfl (lv_at hl 1 rfl) ?_
          refine va_aldq hx hb hK hP 1 4 hh1 rfl (by first | assumption | exact sIx_in.mp (by assumption) | exact vp_in_nI (by omega) (by omega)) dX6_endHour_35 ?_
          refine W.eq (g2 := F0 m 36 ls [.ref (zA_l2 i), .int ((((sLeads i N T).2) 4) i), .ref (r 0)]) (by first | (rw [nI_clamp (by omega), cGa_0 (show i < 8 by omega)]; done) | (rw [nI_clamp (by omega), cGa_0 (show i < 8 by omega)]; rfl)) ?_
          refine va_getN (D := G.1) (ci := 6) (v := .int ((((sLeads i N T).2) 5) i)) (C := RX5) (T := TX5) (N := 3) hx hb hts hi_X5 hown hK hP kz9 hz9 rfl 2 (by decide) (va_Nw.use rfl (hNs.1 _ (List.mem_append_left _ (List.mem_of_getElem? (i := 1) rfl)))) (fun _ h9 => h9) rfl dX6_endHour_36 ?_
          refine z_cuv (va_runV (As := [.int ((((sLeads i N T).2) 4) i), .int ((((sLeads i N T).2) 5) i)]) (rest := []) ⟨hx, hb, hml, hown, hts⟩ (c_X6_leadOn l G d r zA_l2 mc g ((sLeads i N T).1) ((sLeads i N T).2) w i Hz.size hC hNl (by rw [hkp.2 4 (by omega) (by omega) (by omega) (by omega) (by omega)]; exact (hI.2.2.1 i zhc).1) (by rw [hkp.2 5 (by omega) (by omega) (by omega) (by omega) (by omega)]; exact (hI.2.2.1 i zhc).2.1)) (cwV 2 hts gX6_endHour_X6_leadOn rfl rfl rfl (by decide +kernel) ⟨Nat.le_of_ble_eq_true rfl, Nat.le_of_ble_eq_true rfl⟩) (z_wv hK hP (ci := 7) (q0 := 0) rfl hh0 hP hD hZ hS hA) rfl rfl hl.1 rfl (lv_room (Nat.le_of_ble_eq_true rfl)) dX6_endHour_39 ⟨(show 0 + 0 ≤ (zpc ((sHour N T).1 1) - zpc (N 1)) by first | omega | (rw [hHn]; omega)), (show 0 + 0 ≤ (zps ((sHour N T).1 1) - zps (N 1)) by first | omega | (rw [hHn]; omega))⟩) hD hS hA (fun zw_11 Hz Lz hw hP hD hS => ?_)
          obtain ⟨zA_11, mc, g, hC, heA_11⟩ := hw
          have heA_11_A : ∀ i, i ≠ 8 → zA_11 i = A i := fun i h => (heA_11 i h).trans (heA_l2 i h)
          refine lv_iinc (v := (nI (i + 1))) (lv' := [(1, .int (nI (i + 1))), (0, .ref (r 0))]) hx hb dX6_endHour_42 hl (k := 1) rfl (by first | exact nI_1 _ | rfl) (by decide) rfl (fun ls hl => ?_)
          refine lv_goto (tgt := 2) hx hb dX6_endHour_45 (by decide) ?_
          have hl2 := lv_sub (l' := [(0, .ref (r 0)), (1, .int (nI (i + 1)))]) hl [1, 0] rfl
          exact z_widen (k := 0) (n := 0) (show 0 ≤ 0 by omega) (show 0 ≤ 0 by omega) (ih (i + 1) (by omega) (by omega) _ _ _ _ _ _ heA_11_A (by rw [sLeads_s1 zc_op]; exact hC) hP hD hS ls hl2)
  exact z_widen (k := 0) (n := 0) (show 0 ≤ 0 by omega) (show 0 ≤ 0 by omega) (key_2 (8 + 1) 0 (Nat.zero_le _) (by omega) _ _ _ _ _ _ (fun _ _ => rfl) hC hP hD hS ls (lv_sub hl [1, 0] rfl))
