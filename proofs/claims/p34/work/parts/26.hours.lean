set_option maxHeartbeats 4000000 in
set_option maxRecDepth 100000 in
theorem c_X2_noteTurn (l : Launch) (G : zG) (d : Nat) (r A : Nat → Nat) (mc : Nat → Int32) (g : Nat → Nat → Int32) (N : Nat → Nat) (T : Nat → Nat → Int32) (w : va_W) (a2 a3 : Int32) (o : Bool) (sz : Nat) (hC : sCQ G d r A mc g N T w) (hN : sSm N) (h1n : N 1 < 20512) : Met l yX2_noteTurn wsX2_noteTurn ({ frames := 3, cells := (zpc (N 1 + 1) - zpc (N 1)), slots := (zps (N 1 + 1) - zps (N 1)), locals := 86 }) (va_Pc [.ref (r 9), .int (nI (N 0)), .int a2, .int a3, .int (zb o)] (zCu G d w sz)) (va_Qv (fun w1 : va_W => sCN G d r A ((sNote N T 0 a2 (a3 + if o = true then 10 else 0)).1) ((sNote N T 0 a2 (a3 + if o = true then 10 else 0)).2) w1) (zB G (va_A w sz)) (va_A w sz)) ((zpc (N 1 + 1) - zpc (N 1))) ((zps (N 1 + 1) - zps (N 1))) (va_A w sz) := by
  refine Met.ofW (cc := cX2_noteTurn) (maxL := 5) (ret := none) (by decide) rfl ?_
  intro p e s m args below meth c s₁ B hml hv
  obtain ⟨rfl, hsz, hP, hK, hD0, hZ⟩ := hv
  have hx := B.exec
  have hb := B.bytes
  have hr := B.returns
  have hts := atoms_spec (ws := wsX2_noteTurn) B.pre
  have hown : s.vm.findClass RX2 = some m.cls := findClass_of_methodNamed B.named
  have hlocks := B.notSynchronized
  have hNs := hZ.1.2.2
  have hS0 : va_S (fun _ => False) s.heap s.heap [] := va_S.rf
  subst hsz
  have hD := hD0.self (sz := s.heap.size)
  generalize hAe : va_A w s.heap.size = Aw at hD hZ ⊢
  have hA : ∀ q : Nat, s.heap.size ≤ q → Aw q := fun q h => by rw [← hAe]; exact Or.inr h
  have hS : va_S Aw s.heap s.heap [] := va_S.rf
  have hl := lv_entry ([.ref (r 9), .int (nI (N 0)), .int a2, .int a3, .int (zb o)]) (n := 5) (Nat.le_of_ble_eq_true rfl)
  rw [lg_entry_eq]
  generalize (lg_sl ([.ref (r 9), .int (nI (N 0)), .int a2, .int a3, .int (zb o)]) ++ List.replicate (5 - (lg_sl ([.ref (r 9), .int (nI (N 0)), .int a2, .int a3, .int (zb o)])).length) Slot.unset).toArray = ls at hl ⊢
  have hl : lv_has ls 5 [(0, .ref (r 9)), (1, .int (nI (N 0))), (2, .int a2), (3, .int a3), (4, .int (zb o))] := hl
  refine lv_aload_n hx hb dX2_noteTurn_0 rfl (lv_at hl 0 rfl) ?_
  refine lv_iload_n hx hb dX2_noteTurn_1 rfl (lv_at hl 1 rfl) ?_
  refine lv_iconst (v := 0) hx hb dX2_noteTurn_2 (by decide) ?_
  refine lv_iload_n hx hb dX2_noteTurn_3 rfl (lv_at hl 2 rfl) ?_
  have cut_17 : W p l e (headSpec wsX2_noteTurn ({ frames := 3, cells := (zpc (N 1 + 1) - zpc (N 1)), slots := (zps (N 1 + 1) - zps (N 1)), locals := 86 })).room s m ([.ref (r 9), .int (nI (N 0)), .int a2, .int a3, .int (zb o)] : List Value).toArray below meth c s.heap [] (0) (0) (MQ below (va_Qv (fun w1 : va_W => sCN G d r A ((sNote N T 0 a2 (a3 + if o = true then 10 else 0)).1) ((sNote N T 0 a2 (a3 + if o = true then 10 else 0)).2) w1) (zB G Aw) Aw) (([.ref (r 9), .int (nI (N 0)), .int a2, .int a3, .int (zb o)] : List Value).toArray) s ((zpc (N 1 + 1) - zpc (N 1))) ((zps (N 1 + 1) - zps (N 1))) Aw) (F0 m 17 ls [.int (a3 + if o = true then 10 else 0), .int a2, .int 0, .int (nI (N 0)), .ref (r 9)]) := by
    have hh9 : w[9]? = some (r 9, .inr (3, [.ref (A 8), .int (nI (N 1))])) := hC.1.1 9 (by omega)
    refine z_cuv (va_runV (As := [.int (nI (N 0)), .int 0, .int a2, .int (a3 + if o = true then 10 else 0)]) (rest := []) ⟨hx, hb, hml, hown, hts⟩ (c_X2_note l G d r A mc g N T w 0 a2 (a3 + if o = true then 10 else 0) s.heap.size hC hN h1n) (cwV 4 hts gX2_noteTurn_X2_note rfl rfl rfl (by decide +kernel) ⟨Nat.le_of_ble_eq_true rfl, Nat.le_of_ble_eq_true rfl⟩) (z_wv hK hP (ci := 3) (q0 := 9) rfl hh9 hP hD hZ hS hA) rfl rfl hl.1 rfl (lv_room (Nat.le_of_ble_eq_true rfl)) dX2_noteTurn_17 ⟨(show 0 + (zpc (N 1 + 1) - zpc (N 1)) ≤ (zpc (N 1 + 1) - zpc (N 1)) by omega), (show 0 + (zps (N 1 + 1) - zps (N 1)) ≤ (zps (N 1 + 1) - zps (N 1)) by omega)⟩) hD hS hA (fun zw_1 Hz Lz hw hP hD hS => ?_)
    obtain ⟨zA_1, mc, g, hC, heA_1⟩ := hw
    exact z_widen (k := (zpc (N 1 + 1) - zpc (N 1))) (n := (zps (N 1 + 1) - zps (N 1))) (show 0 + (zpc (N 1 + 1) - zpc (N 1)) ≤ (zpc (N 1 + 1) - zpc (N 1)) by omega) (show 0 + (zps (N 1 + 1) - zps (N 1)) ≤ (zps (N 1 + 1) - zps (N 1)) by omega) (W.vret hx hb hr (fun t ht hW => ⟨⟨zw_1, rfl, ⟨_, _, _, hC, heA_1⟩, ⟨by rw [ht]; exact hP, hD⟩⟩, hS.F ht⟩) hS.2.2 dX2_noteTurn_20 hlocks)
  refine lv_iload hx hb dX2_noteTurn_4 (lv_at hl 4 rfl) ?_
  refine lv_if_eq (tgt := 16) hx hb dX2_noteTurn_6 (by decide) (fun zc_2 => ?_) (fun zc_2 => ?_)
  · skip
    have zc_2 := zb_0.mp zc_2
    refine lv_iload_n hx hb dX2_noteTurn_16 rfl (lv_at hl 3 rfl) ?_
    exact W.eq (congrArg (fun z : Int32 => F0 m 17 ls [.int z, .int a2, .int 0, .int (nI (N 0)), .ref (r 9)]) (show (a3 : Int32) = a3 + if o = true then 10 else 0 from (by simp [zc_2]))) cut_17
  · skip
    have zc_2 := zb_n0 zc_2
    refine lv_iload_n hx hb dX2_noteTurn_9 rfl (lv_at hl 3 rfl) ?_
    refine lv_bipush (v := 10) hx hb dX2_noteTurn_10 (by decide) ?_
    refine lv_iadd hx hb dX2_noteTurn_12 ?_
    refine lv_goto (tgt := 17) hx hb dX2_noteTurn_13 (by decide) ?_
    exact W.eq (congrArg (fun z : Int32 => F0 m 17 ls [.int z, .int a2, .int 0, .int (nI (N 0)), .ref (r 9)]) (show (a3 + 10 : Int32) = a3 + if o = true then 10 else 0 from (by simp [zc_2]))) cut_17

set_option maxHeartbeats 4000000 in
set_option maxRecDepth 100000 in
theorem c_X6_setValve (l : Launch) (G : zG) (d : Nat) (r A : Nat → Nat) (mc : Nat → Int32) (g : Nat → Nat → Int32) (N : Nat → Nat) (T : Nat → Nat → Int32) (w : va_W) (a1 a2 : Int32) (o : Bool) (sz : Nat) (hC : sCQ G d r A mc g N T w) (hN : sSm N) (hv : vp_in a2 8) (h1n : N 1 < 20512) : Met l yX6_setValve wsX6_setValve ({ frames := 4, cells := (zpc ((sTurn N T a1 a2 o).1 1) - zpc (N 1)), slots := (zps ((sTurn N T a1 a2 o).1 1) - zps (N 1)), locals := 110 }) (va_Pc [.ref (r 0), .int a1, .int a2, .int (zb o)] (zCu G d w sz)) (va_Qi (fun (r1 : Int32) (w1 : va_W) => r1 = zb (!decide (T 3 a2.toNatClampNeg = zb o)) ∧ sCN G d r A ((sTurn N T a1 a2 o).1) ((sTurn N T a1 a2 o).2) w1) (zB G (va_A w sz)) (va_A w sz)) ((zpc ((sTurn N T a1 a2 o).1 1) - zpc (N 1))) ((zps ((sTurn N T a1 a2 o).1 1) - zps (N 1))) (va_A w sz) := by
  refine Met.ofW (cc := cX6_setValve) (maxL := 5) (ret := (some .boolean)) (by decide) rfl ?_
  intro p e s m args below meth c s₁ B hml hv
  obtain ⟨rfl, hsz, hP, hK, hD0, hZ⟩ := hv
  have hx := B.exec
  have hb := B.bytes
  have hr := B.returns
  have hts := atoms_spec (ws := wsX6_setValve) B.pre
  have hown : s.vm.findClass RX6 = some m.cls := findClass_of_methodNamed B.named
  have hlocks := B.notSynchronized
  have hi_X5 : ∀ w ∈ u_ws RX5 TX5 3, w ∈ wsX6_setValve := (fun _ h => List.mem_cons_of_mem _ (List.mem_append_left _ (List.mem_append_right _ h)))
  have hi_X6 : ∀ w ∈ u_ws RX6 TX6 14, w ∈ wsX6_setValve := (fun _ h => List.mem_cons_of_mem _ (List.mem_append_left _ (List.mem_append_left _ (List.mem_append_right _ h))))
  have hNs := hZ.1.2.2
  have hS0 : va_S (fun _ => False) s.heap s.heap [] := va_S.rf
  subst hsz
  have hD := hD0.self (sz := s.heap.size)
  generalize hAe : va_A w s.heap.size = Aw at hD hZ ⊢
  have hA : ∀ q : Nat, s.heap.size ≤ q → Aw q := fun q h => by rw [← hAe]; exact Or.inr h
  have hS : va_S Aw s.heap s.heap [] := va_S.rf
  have hl := lv_entry ([.ref (r 0), .int a1, .int a2, .int (zb o)]) (n := 5) (Nat.le_of_ble_eq_true rfl)
  rw [lg_entry_eq]
  generalize (lg_sl ([.ref (r 0), .int a1, .int a2, .int (zb o)]) ++ List.replicate (5 - (lg_sl ([.ref (r 0), .int a1, .int a2, .int (zb o)])).length) Slot.unset).toArray = ls at hl ⊢
  have hl : lv_has ls 5 [(0, .ref (r 0)), (1, .int a1), (2, .int a2), (3, .int (zb o))] := hl
  refine lv_aload_n hx hb dX6_setValve_0 rfl (lv_at hl 0 rfl) ?_
  have hh0 : w[0]? = some (r 0, .inr (7, [.ref (r 1), .ref (r 2), .ref (r 3), .ref (r 4), .ref (r 5), .ref (r 6), .ref (r 7), .ref (r 8), .ref (r 9), .ref (r 10), .int (nI (N 0)), .int ((T 19) 0), .int ((T 19) 1), .int (nI (N 6))])) := hC.1.1 0 (by omega)
  refine va_get (D := G.1) (ci := 7) (v := .ref (r 1)) (C := RX6) (T := TX6) (N := 14) hx hb hts hi_X6 hown hK hP 0 hh0 rfl 0 (by decide) (hts (.fieldLink RX6 11 "BoilerLog" "valves" "[LBoilerLog$Valve;") (List.mem_of_getElem? (i := 1) rfl)) (fun _ h9 => h9) rfl dX6_setValve_1 ?_
  refine lv_iload_n hx hb dX6_setValve_4 rfl (lv_at hl 2 rfl) ?_
  have hh1 : w[1]? = some (r 1, .inl (G.2 4, 8, .inr (.inr (.inr (.inr (cGa A 0 8)))))) := hC.1.1 1 (by omega)
  refine va_aldq hx hb hK hP 1 4 hh1 rfl (by first | assumption | exact sIx_in.mp (by assumption) | exact vp_in_nI (by omega) (by omega)) dX6_setValve_5 ?_
  refine W.eq (g2 := F0 m 6 ls [.ref (A a2.toNatClampNeg)]) (by first | (rw [cGa_0 (zCl hv (by omega)).1]; done) | (rw [cGa_0 (zCl hv (by omega)).1]; rfl)) ?_
  refine lv_astore (lv' := [(4, .ref (A a2.toNatClampNeg)), (0, .ref (r 0)), (1, .int a1), (2, .int a2), (3, .int (zb o))]) hx hb dX6_setValve_6 hl (by decide) rfl (fun ls hl => ?_)
  refine lv_aload hx hb dX6_setValve_8 (lv_at hl 0 rfl) ?_
  obtain ⟨kz1, zk1, hz1⟩ := hC.1.2.1 a2.toNatClampNeg (Or.inl (zCl hv (by omega)).1)
  rw [cE_val (zCl hv (by omega)).1] at hz1
  have hz1 : w[kz1]? = some (A a2.toNatClampNeg, .inr (6, [.int ((T 3) a2.toNatClampNeg), .int ((T 4) a2.toNatClampNeg), .int ((T 5) a2.toNatClampNeg)])) := hz1
  refine va_getN (D := G.1) (ci := 6) (v := .int ((T 3) a2.toNatClampNeg)) (C := RX5) (T := TX5) (N := 3) hx hb hts hi_X5 hown hK hP kz1 hz1 rfl 0 (by decide) (va_Nw.use rfl (hNs.1 _ (List.mem_append_left _ (List.mem_of_getElem? (i := 10) rfl)))) (fun _ h9 => h9) rfl dX6_setValve_10 ?_
  refine lv_iload_n hx hb dX6_setValve_13 rfl (lv_at hl 4 rfl) ?_
  refine lv_icmp_ne (tgt := 19) hx hb dX6_setValve_14 (by decide) (fun zc_2 => ?_) (fun zc_2 => ?_)
  · skip
    have zc_v := zc_2
    have zrm := sTurn_n1 (N := N) (a := a1) zc_v
    refine lv_aload hx hb dX6_setValve_19 (lv_at hl 0 rfl) ?_
    refine lv_iload_n hx hb dX6_setValve_21 rfl (lv_at hl 4 rfl) ?_
    refine va_putN (D := G.1) (ci := 6) (v := .int (zb o)) (ty := .boolean) (C := RX5) (T := TX5) (N := 3) hx hb hts hi_X5 tyX5 tyX5_ok nmX5 hown hK hP hD hS kz1 hz1 rfl 0 (by decide) (va_Nw.use rfl (hNs.1 _ (List.mem_append_left _ (List.mem_of_getElem? (i := 10) rfl)))) (fun _ h9 => h9) rfl (by decide +kernel) (zn_zb _) (zf_zb _) (Nat.le_of_ble_eq_true rfl) dX6_setValve_22 (fun Hz Lz hP hD hS => ?_)
    have hP : va_P G.1 vwCl (w.set kz1 (A a2.toNatClampNeg, .inr (6, [.int (zb o), .int ((T 4) a2.toNatClampNeg), .int ((T 5) a2.toNatClampNeg)]))) Hz := hP
    have hD : va_D Aw (w.set kz1 (A a2.toNatClampNeg, .inr (6, [.int (zb o), .int ((T 4) a2.toNatClampNeg), .int ((T 5) a2.toNatClampNeg)]))) := hD
    have hC : sCQ G d r A mc g N (va_up T 3 (upd (T 3) a2.toNatClampNeg (zb o))) (w.set kz1 (A a2.toNatClampNeg, .inr (6, [.int (zb o), .int ((T 4) a2.toNatClampNeg), .int ((T 5) a2.toNatClampNeg)]))) := (sC_v3 hC hN (zCl hv (by omega)).1 zk1 hz1)
    generalize (w.set kz1 (A a2.toNatClampNeg, .inr (6, [.int (zb o), .int ((T 4) a2.toNatClampNeg), .int ((T 5) a2.toNatClampNeg)]))) = zw_3 at hP hD hC
    refine lv_aload_n hx hb dX6_setValve_25 rfl (lv_at hl 1 rfl) ?_
    have hh0 : zw_3[0]? = some (r 0, .inr (7, [.ref (r 1), .ref (r 2), .ref (r 3), .ref (r 4), .ref (r 5), .ref (r 6), .ref (r 7), .ref (r 8), .ref (r 9), .ref (r 10), .int (nI (N 0)), .int ((T 19) 0), .int ((T 19) 1), .int (nI (N 6))])) := hC.1.1 0 (by omega)
    refine va_get (D := G.1) (ci := 7) (v := .ref (r 9)) (C := RX6) (T := TX6) (N := 14) hx hb hts hi_X6 hown hK hP 0 hh0 rfl 8 (by decide) (hts (.fieldLink RX6 45 "BoilerLog" "log" "LBoilerLog$Log;") (List.mem_of_getElem? (i := 2) rfl)) (fun _ h9 => h9) rfl dX6_setValve_26 ?_
    refine lv_aload_n hx hb dX6_setValve_29 rfl (lv_at hl 1 rfl) ?_
    refine va_get (D := G.1) (ci := 7) (v := .int (nI (N 0))) (C := RX6) (T := TX6) (N := 14) hx hb hts hi_X6 hown hK hP 0 hh0 rfl 10 (by decide) (hts (.fieldLink RX6 56 "BoilerLog" "now" "I") (List.mem_of_getElem? (i := 3) rfl)) (fun _ h9 => h9) rfl dX6_setValve_30 ?_
    refine lv_iload_n hx hb dX6_setValve_33 rfl (lv_at hl 2 rfl) ?_
    refine lv_iload_n hx hb dX6_setValve_34 rfl (lv_at hl 3 rfl) ?_
    refine lv_iload_n hx hb dX6_setValve_35 rfl (lv_at hl 4 rfl) ?_
    have hh9 : zw_3[9]? = some (r 9, .inr (3, [.ref (A 8), .int (nI (N 1))])) := hC.1.1 9 (by omega)
    refine z_cuv (va_runVN (As := [.int (nI (N 0)), .int a1, .int a2, .int (zb o)]) (rest := []) ⟨hx, hb, hml, hown, hts⟩ (c_X2_noteTurn l G d r A mc g N (va_up T 3 (upd (T 3) a2.toNatClampNeg (zb o))) zw_3 a1 a2 o Hz.size hC hN h1n) ⟨va_cnB 4 hts gX6_setValve_X2_noteTurn_n296 rfl rfl rfl (hNs.1 _ (List.mem_append_left _ (List.mem_of_getElem? (i := 29) rfl))) (hts (.initialized RX2) (List.mem_of_getElem? (i := 5) rfl)) (by decide +kernel) ⟨Nat.le_of_ble_eq_true rfl, Nat.le_of_ble_eq_true rfl⟩, hts (.instanceMethod yX2_noteTurn) (List.mem_of_getElem? (i := 4) rfl), hts (.selects RX2 yX2_noteTurn yX2_noteTurn) (List.mem_of_getElem? (i := 6) rfl)⟩ (z_wv hK hP (ci := 3) (q0 := 9) rfl hh9 hP hD hZ hS hA) rfl rfl hl.1 rfl (lv_room (Nat.le_of_ble_eq_true rfl)) dX6_setValve_36 ⟨(show 0 + (zpc (N 1 + 1) - zpc (N 1)) ≤ (zpc ((sTurn N T a1 a2 o).1 1) - zpc (N 1)) by first | omega | (rw [zrm]; omega)), (show 0 + (zps (N 1 + 1) - zps (N 1)) ≤ (zps ((sTurn N T a1 a2 o).1 1) - zps (N 1)) by first | omega | (rw [zrm]; omega))⟩) hD hS hA (fun zw_4 Hz Lz hw hP hD hS => ?_)
    obtain ⟨zA_4, mc, g, hC, heA_4⟩ := hw
    refine lv_iconst (v := 1) hx hb dX6_setValve_39 (by decide) ?_
    exact z_widen (k := (zpc ((sTurn N T a1 a2 o).1 1) - zpc (N 1))) (n := (zps ((sTurn N T a1 a2 o).1 1) - zps (N 1))) (show 0 + (zpc (N 1 + 1) - zpc (N 1)) ≤ (zpc ((sTurn N T a1 a2 o).1 1) - zpc (N 1)) by first | omega | (rw [zrm]; omega)) (show 0 + (zps (N 1 + 1) - zps (N 1)) ≤ (zps ((sTurn N T a1 a2 o).1 1) - zps (N 1)) by first | omega | (rw [zrm]; omega)) (W.zret (v := 1) hx hb hr rfl (fun t ht hW => ⟨⟨1, zw_4, rfl, ⟨by rw [decide_eq_false zc_v]; rfl, by rw [sTurn_d zc_v]; exact ⟨_, _, _, hC, heA_4⟩⟩, ⟨by rw [ht]; exact hP, hD⟩⟩, hS.F ht⟩) hS.2.2 dX6_setValve_40 hlocks)
  · skip
    refine lv_iconst (v := 0) hx hb dX6_setValve_17 (by decide) ?_
    exact z_widen (k := (zpc ((sTurn N T a1 a2 o).1 1) - zpc (N 1))) (n := (zps ((sTurn N T a1 a2 o).1 1) - zps (N 1))) (show 0 ≤ (zpc ((sTurn N T a1 a2 o).1 1) - zpc (N 1)) by first | omega | (rw [zrm]; omega)) (show 0 ≤ (zps ((sTurn N T a1 a2 o).1 1) - zps (N 1)) by first | omega | (rw [zrm]; omega)) (W.zret (v := 0) hx hb hr rfl (fun t ht hW => ⟨⟨0, w, rfl, ⟨by rw [zc_2, decide_eq_true rfl]; rfl, by rw [sTurn_e zc_2]; exact ⟨_, _, _, hC, fun _ _ => rfl⟩⟩, ⟨by rw [ht]; exact hP, hD⟩⟩, hS.F ht⟩) hS.2.2 dX6_setValve_18 hlocks)

set_option maxHeartbeats 4000000 in
set_option maxRecDepth 100000 in
theorem c_X6_assign (l : Launch) (G : zG) (d : Nat) (r A : Nat → Nat) (mc : Nat → Int32) (g : Nat → Nat → Int32) (N : Nat → Nat) (T : Nat → Nat → Int32) (w : va_W) (a1 a2 : Int32) (sz : Nat) (hC : sCQ G d r A mc g N T w) (hN : sSm N) (hth : vp_in a1 60) (h1n : N 1 < 20512) : Met l yX6_assign wsX6_assign ({ frames := 3, cells := (zpc ((sAssign N T a1 a2).1 1) - zpc (N 1)), slots := (zps ((sAssign N T a1 a2).1 1) - zps (N 1)), locals := 86 }) (va_Pc [.ref (r 0), .int a1, .int a2] (zCu G d w sz)) (va_Qv (fun w1 : va_W => sCN G d r A ((sAssign N T a1 a2).1) ((sAssign N T a1 a2).2) w1) (zB G (va_A w sz)) (va_A w sz)) ((zpc ((sAssign N T a1 a2).1 1) - zpc (N 1))) ((zps ((sAssign N T a1 a2).1 1) - zps (N 1))) (va_A w sz) := by
  refine Met.ofW (cc := cX6_assign) (maxL := 3) (ret := none) (by decide) rfl ?_
  intro p e s m args below meth c s₁ B hml hv
  obtain ⟨rfl, hsz, hP, hK, hD0, hZ⟩ := hv
  have hx := B.exec
  have hb := B.bytes
  have hr := B.returns
  have hts := atoms_spec (ws := wsX6_assign) B.pre
  have hown : s.vm.findClass RX6 = some m.cls := findClass_of_methodNamed B.named
  have hlocks := B.notSynchronized
  have hi_X6 : ∀ w ∈ u_ws RX6 TX6 14, w ∈ wsX6_assign := (fun _ h => List.mem_cons_of_mem _ (List.mem_append_left _ (List.mem_append_right _ h)))
  have hNs := hZ.1.2.2
  have hS0 : va_S (fun _ => False) s.heap s.heap [] := va_S.rf
  subst hsz
  have hD := hD0.self (sz := s.heap.size)
  generalize hAe : va_A w s.heap.size = Aw at hD hZ ⊢
  have hA : ∀ q : Nat, s.heap.size ≤ q → Aw q := fun q h => by rw [← hAe]; exact Or.inr h
  have hS : va_S Aw s.heap s.heap [] := va_S.rf
  have hl := lv_entry ([.ref (r 0), .int a1, .int a2]) (n := 3) (Nat.le_of_ble_eq_true rfl)
  rw [lg_entry_eq]
  generalize (lg_sl ([.ref (r 0), .int a1, .int a2]) ++ List.replicate (3 - (lg_sl ([.ref (r 0), .int a1, .int a2])).length) Slot.unset).toArray = ls at hl ⊢
  have hl : lv_has ls 3 [(0, .ref (r 0)), (1, .int a1), (2, .int a2)] := hl
  refine lv_iload_n hx hb dX6_assign_0 rfl (lv_at hl 2 rfl) ?_
  refine lv_iconst (v := (-1)) hx hb dX6_assign_1 (by decide) ?_
  refine lv_icmp_eq (tgt := 26) hx hb dX6_assign_2 (by decide) (fun zc_1 => ?_) (fun zc_1 => ?_)
  · skip
    exact z_widen (k := (zpc ((sAssign N T a1 a2).1 1) - zpc (N 1))) (n := (zps ((sAssign N T a1 a2).1 1) - zps (N 1))) (show 0 ≤ (zpc ((sAssign N T a1 a2).1 1) - zpc (N 1)) by first | omega | (rw [zrm]; omega)) (show 0 ≤ (zps ((sAssign N T a1 a2).1 1) - zps (N 1)) by first | omega | (rw [zrm]; omega)) (W.vret hx hb hr (fun t ht hW => ⟨⟨w, rfl, by rw [sAssign, if_pos zc_1]; exact ⟨_, _, _, hC, fun _ _ => rfl⟩, ⟨by rw [ht]; exact hP, hD⟩⟩, hS.F ht⟩) hS.2.2 dX6_assign_26 hlocks)
  · skip
    have zc_v := zc_1
    have zrm : (sAssign N T a1 a2).1 1 = N 1 + 1 := by rw [sAssign, if_neg zc_v]; rfl
    refine lv_aload_n hx hb dX6_assign_5 rfl (lv_at hl 0 rfl) ?_
    have hh0 : w[0]? = some (r 0, .inr (7, [.ref (r 1), .ref (r 2), .ref (r 3), .ref (r 4), .ref (r 5), .ref (r 6), .ref (r 7), .ref (r 8), .ref (r 9), .ref (r 10), .int (nI (N 0)), .int ((T 19) 0), .int ((T 19) 1), .int (nI (N 6))])) := hC.1.1 0 (by omega)
    refine va_get (D := G.1) (ci := 7) (v := .ref (r 8)) (C := RX6) (T := TX6) (N := 14) hx hb hts hi_X6 hown hK hP 0 hh0 rfl 7 (by decide) (hts (.fieldLink RX6 39 "BoilerLog" "tasks" "[I") (List.mem_of_getElem? (i := 1) rfl)) (fun _ h9 => h9) rfl dX6_assign_6 ?_
    refine lv_iload_n hx hb dX6_assign_9 rfl (lv_at hl 1 rfl) ?_
    refine lv_iload_n hx hb dX6_assign_10 rfl (lv_at hl 2 rfl) ?_
    have hh8 : w[8]? = some (r 8, .inl (G.2 0, 60, .inl (T 18))) := hC.1.1 8 (by omega)
    refine va_iast hx hb hK hP hD hS 8 0 hh8 rfl hth dX6_assign_11 (fun Hz Lz hP hD hS => ?_)
    have hP : va_P G.1 vwCl (w.set 8 (r 8, .inl (G.2 0, 60, .inl (upd (T 18) a1.toNatClampNeg a2)))) Hz := hP
    have hD : va_D Aw (w.set 8 (r 8, .inl (G.2 0, 60, .inl (upd (T 18) a1.toNatClampNeg a2)))) := hD
    have hC : sCQ G d r A mc g N (va_up T 18 (upd (T 18) a1.toNatClampNeg a2)) (w.set 8 (r 8, .inl (G.2 0, 60, .inl (upd (T 18) a1.toNatClampNeg a2)))) := (sC_x8 hC hN)
    generalize (w.set 8 (r 8, .inl (G.2 0, 60, .inl (upd (T 18) a1.toNatClampNeg a2)))) = zw_2 at hP hD hC
    refine lv_aload_n hx hb dX6_assign_12 rfl (lv_at hl 0 rfl) ?_
    have hh0 : zw_2[0]? = some (r 0, .inr (7, [.ref (r 1), .ref (r 2), .ref (r 3), .ref (r 4), .ref (r 5), .ref (r 6), .ref (r 7), .ref (r 8), .ref (r 9), .ref (r 10), .int (nI (N 0)), .int ((T 19) 0), .int ((T 19) 1), .int (nI (N 6))])) := hC.1.1 0 (by omega)
    refine va_get (D := G.1) (ci := 7) (v := .ref (r 9)) (C := RX6) (T := TX6) (N := 14) hx hb hts hi_X6 hown hK hP 0 hh0 rfl 8 (by decide) (hts (.fieldLink RX6 45 "BoilerLog" "log" "LBoilerLog$Log;") (List.mem_of_getElem? (i := 2) rfl)) (fun _ h9 => h9) rfl dX6_assign_13 ?_
    refine lv_aload_n hx hb dX6_assign_16 rfl (lv_at hl 0 rfl) ?_
    refine va_get (D := G.1) (ci := 7) (v := .int (nI (N 0))) (C := RX6) (T := TX6) (N := 14) hx hb hts hi_X6 hown hK hP 0 hh0 rfl 10 (by decide) (hts (.fieldLink RX6 56 "BoilerLog" "now" "I") (List.mem_of_getElem? (i := 3) rfl)) (fun _ h9 => h9) rfl dX6_assign_17 ?_
    refine lv_iconst (v := 5) hx hb dX6_assign_20 (by decide) ?_
    refine lv_iload_n hx hb dX6_assign_21 rfl (lv_at hl 2 rfl) ?_
    refine lv_iload_n hx hb dX6_assign_22 rfl (lv_at hl 1 rfl) ?_
    have hh9 : zw_2[9]? = some (r 9, .inr (3, [.ref (A 8), .int (nI (N 1))])) := hC.1.1 9 (by omega)
    refine z_cuv (va_runVN (As := [.int (nI (N 0)), .int 5, .int a2, .int a1]) (rest := []) ⟨hx, hb, hml, hown, hts⟩ (c_X2_note l G d r A mc g N (va_up T 18 (upd (T 18) a1.toNatClampNeg a2)) zw_2 5 a2 a1 Hz.size hC hN h1n) ⟨va_cnB 4 hts gX6_assign_X2_note_n154 rfl rfl rfl (hNs.1 _ (List.mem_append_left _ (List.mem_of_getElem? (i := 16) rfl))) (hts (.initialized RX2) (List.mem_of_getElem? (i := 5) rfl)) (by decide +kernel) ⟨Nat.le_of_ble_eq_true rfl, Nat.le_of_ble_eq_true rfl⟩, hts (.instanceMethod yX2_note) (List.mem_of_getElem? (i := 4) rfl), hts (.selects RX2 yX2_note yX2_note) (List.mem_of_getElem? (i := 6) rfl)⟩ (z_wv hK hP (ci := 3) (q0 := 9) rfl hh9 hP hD hZ hS hA) rfl rfl hl.1 rfl (lv_room (Nat.le_of_ble_eq_true rfl)) dX6_assign_23 ⟨(show 0 + (zpc (N 1 + 1) - zpc (N 1)) ≤ (zpc ((sAssign N T a1 a2).1 1) - zpc (N 1)) by first | omega | (rw [zrm]; omega)), (show 0 + (zps (N 1 + 1) - zps (N 1)) ≤ (zps ((sAssign N T a1 a2).1 1) - zps (N 1)) by first | omega | (rw [zrm]; omega))⟩) hD hS hA (fun zw_3 Hz Lz hw hP hD hS => ?_)
    obtain ⟨zA_3, mc, g, hC, heA_3⟩ := hw
    exact z_widen (k := (zpc ((sAssign N T a1 a2).1 1) - zpc (N 1))) (n := (zps ((sAssign N T a1 a2).1 1) - zps (N 1))) (show 0 + (zpc (N 1 + 1) - zpc (N 1)) ≤ (zpc ((sAssign N T a1 a2).1 1) - zpc (N 1)) by first | omega | (rw [zrm]; omega)) (show 0 + (zps (N 1 + 1) - zps (N 1)) ≤ (zps ((sAssign N T a1 a2).1 1) - zps (N 1)) by first | omega | (rw [zrm]; omega)) (W.vret hx hb hr (fun t ht hW => ⟨⟨zw_3, rfl, by rw [sAssign, if_neg zc_v]; exact ⟨_, _, _, hC, heA_3⟩, ⟨by rw [ht]; exact hP, hD⟩⟩, hS.F ht⟩) hS.2.2 dX6_assign_26 hlocks)

set_option maxHeartbeats 4000000 in
set_option maxRecDepth 100000 in
theorem c_X6_leadOn (l : Launch) (G : zG) (d : Nat) (r A : Nat → Nat) (mc : Nat → Int32) (g : Nat → Nat → Int32) (N : Nat → Nat) (T : Nat → Nat → Int32) (w : va_W) (v : Nat) (sz : Nat) (hC : sCQ G d r A mc g N T w) (hN : sSm N) (hf : sEnd (T 4 v) = true) (htt : sEnd (T 5 v) = true) : Met l yX6_leadOn wsX6_leadOn ({ frames := 1, cells := 0, slots := 0, locals := 20 }) (va_Pc [.ref (r 0), .int (T 4 v), .int (T 5 v)] (zCu G d w sz)) (va_Qv (fun w1 : va_W => sCN G d r A ((sLed N T v).1) ((sLed N T v).2) w1) (zB G (va_A w sz)) (va_A w sz)) (0) (0) (va_A w sz) := by
  refine Met.ofW (cc := cX6_leadOn) (maxL := 5) (ret := none) (by decide) rfl ?_
  intro p e s m args below meth c s₁ B hml hv
  obtain ⟨rfl, hsz, hP, hK, hD0, hZ⟩ := hv
  have hx := B.exec
  have hb := B.bytes
  have hr := B.returns
  have hts := atoms_spec (ws := wsX6_leadOn) B.pre
  have hown : s.vm.findClass RX6 = some m.cls := findClass_of_methodNamed B.named
  have hlocks := B.notSynchronized
  have hi_X6 : ∀ w ∈ u_ws RX6 TX6 14, w ∈ wsX6_leadOn := (fun _ h => List.mem_cons_of_mem _ (List.mem_append_right _ h))
  have hNs := hZ.1.2.2
  have hS0 : va_S (fun _ => False) s.heap s.heap [] := va_S.rf
  subst hsz
  have hD := hD0.self (sz := s.heap.size)
  generalize hAe : va_A w s.heap.size = Aw at hD hZ ⊢
  have hA : ∀ q : Nat, s.heap.size ≤ q → Aw q := fun q h => by rw [← hAe]; exact Or.inr h
  have hS : va_S Aw s.heap s.heap [] := va_S.rf
  have hl := lv_entry ([.ref (r 0), .int (T 4 v), .int (T 5 v)]) (n := 5) (Nat.le_of_ble_eq_true rfl)
  rw [lg_entry_eq]
  generalize (lg_sl ([.ref (r 0), .int (T 4 v), .int (T 5 v)]) ++ List.replicate (5 - (lg_sl ([.ref (r 0), .int (T 4 v), .int (T 5 v)])).length) Slot.unset).toArray = ls at hl ⊢
  have hl : lv_has ls 5 [(0, .ref (r 0)), (1, .int (T 4 v)), (2, .int (T 5 v))] := hl
  refine lv_bipush (v := 10) hx hb dX6_leadOn_0 (by decide) ?_
  refine lv_istore_n (lv' := [(3, .int 10), (0, .ref (r 0)), (1, .int (T 4 v)), (2, .int (T 5 v))]) hx hb dX6_leadOn_2 rfl hl (by decide) rfl (fun ls hl => ?_)
  refine lv_iload_n hx hb dX6_leadOn_3 rfl (lv_at hl 2 rfl) ?_
  refine z_csi (va_Run.run (va_runS (As := [.int (T 4 v)]) (rest := []) ⟨hx, hb, hml, hown, hts⟩ (c_X6_isVessel l G (T 4 v)) (va_cwS 1 hts gX6_leadOn_X6_isVessel rfl rfl rfl (by decide +kernel) ⟨Nat.le_of_ble_eq_true rfl, Nat.le_of_ble_eq_true rfl⟩) (z_ps hK z_none) rfl rfl hl.1 rfl (lv_room (Nat.le_of_ble_eq_true rfl)) dX6_leadOn_4 ⟨(show 0 + 0 ≤ 0 by omega), (show 0 + 0 ≤ 0 by omega)⟩)) (fun zr_1 hzr_1 => ?_)
  subst hzr_1
  refine lv_if_eq (tgt := 32) hx hb dX6_leadOn_7 (by decide) (fun zc_2 => ?_) (fun zc_2 => ?_)
  · skip
    have zc_2 := zb_0.mp zc_2
    have zneg := zEnd3 hf zc_2
    have hms : sMuch T v = 10 := by rw [sMuch, if_pos zneg]
    have hC : sCQ G d r A mc g N (va_up T 6 (sL1 T v)) w := by rw [sL1, if_pos zneg, va_up_id]; exact hC
    have hl : lv_has ls 5 [(3, .int (sMuch T v)), (0, .ref (r 0)), (1, .int (T 4 v)), (2, .int (T 5 v))] := by rw [hms]; exact hl
    refine lv_iload_n hx hb dX6_leadOn_32 rfl (lv_at hl 3 rfl) ?_
    refine z_csi (va_Run.run (va_runS (As := [.int (T 5 v)]) (rest := []) ⟨hx, hb, hml, hown, hts⟩ (c_X6_isVessel l G (T 5 v)) (va_cwS 1 hts gX6_leadOn_X6_isVessel rfl rfl rfl (by decide +kernel) ⟨Nat.le_of_ble_eq_true rfl, Nat.le_of_ble_eq_true rfl⟩) (z_ps hK z_none) rfl rfl hl.1 rfl (lv_room (Nat.le_of_ble_eq_true rfl)) dX6_leadOn_33 ⟨(show 0 + 0 ≤ 0 by omega), (show 0 + 0 ≤ 0 by omega)⟩)) (fun zr_3 hzr_3 => ?_)
    subst hzr_3
    refine lv_if_eq (tgt := 81) hx hb dX6_leadOn_36 (by decide) (fun zc_4 => ?_) (fun zc_4 => ?_)
    · skip
      have zc_4 := zb_0.mp zc_4
      exact z_widen (k := 0) (n := 0) (show 0 ≤ 0 by omega) (show 0 ≤ 0 by omega) (W.vret hx hb hr (fun t ht hW => ⟨⟨w, rfl, by rw [sLed, if_pos (zEnd3 htt zc_4)]; exact ⟨_, _, _, hC, fun _ _ => rfl⟩, ⟨by rw [ht]; exact hP, hD⟩⟩, hS.F ht⟩) hS.2.2 dX6_leadOn_81 hlocks)
    · skip
      have zc_4 := zb_n0 zc_4
      have hzt := zc_4
      refine lv_aload_n hx hb dX6_leadOn_39 rfl (lv_at hl 1 rfl) ?_
      have hh0 : w[0]? = some (r 0, .inr (7, [.ref (r 1), .ref (r 2), .ref (r 3), .ref (r 4), .ref (r 5), .ref (r 6), .ref (r 7), .ref (r 8), .ref (r 9), .ref (r 10), .int (nI (N 0)), .int ((T 19) 0), .int ((T 19) 1), .int (nI (N 6))])) := hC.1.1 0 (by omega)
      refine va_get (D := G.1) (ci := 7) (v := .ref (r 2)) (C := RX6) (T := TX6) (N := 14) hx hb hts hi_X6 hown hK hP 0 hh0 rfl 1 (by decide) (hts (.fieldLink RX6 15 "BoilerLog" "levels" "[I") (List.mem_of_getElem? (i := 1) rfl)) (fun _ h9 => h9) rfl dX6_leadOn_40 ?_
      refine lv_iload_n hx hb dX6_leadOn_43 rfl (lv_at hl 3 rfl) ?_
      have hh2 : w[2]? = some (r 2, .inl (G.2 0, 3, .inl (sL1 T v))) := hC.1.1 2 (by omega)
      refine va_iald hx hb hK hP 2 0 hh2 rfl (sIx_in.mp hzt) dX6_leadOn_44 ?_
      refine lv_iload_n hx hb dX6_leadOn_45 rfl (lv_at hl 0 rfl) ?_
      refine lv_iadd hx hb dX6_leadOn_46 ?_
      refine W.eq (g2 := F0 m 47 ls [.int (sFill T v)]) (by first | (rfl; done) | (rfl; rfl)) ?_
      refine lv_istore (lv' := [(4, .int (sFill T v)), (3, .int (sMuch T v)), (0, .ref (r 0)), (1, .int (T 4 v)), (2, .int (T 5 v))]) hx hb dX6_leadOn_47 hl (by decide) rfl (fun ls hl => ?_)
      refine lv_aload_n hx hb dX6_leadOn_49 rfl (lv_at hl 2 rfl) ?_
      refine va_get (D := G.1) (ci := 7) (v := .ref (r 2)) (C := RX6) (T := TX6) (N := 14) hx hb hts hi_X6 hown hK hP 0 hh0 rfl 1 (by decide) (hts (.fieldLink RX6 15 "BoilerLog" "levels" "[I") (List.mem_of_getElem? (i := 1) rfl)) (fun _ h9 => h9) rfl dX6_leadOn_50 ?_
      refine lv_iload_n hx hb dX6_leadOn_53 rfl (lv_at hl 4 rfl) ?_
      refine lv_sipush (v := 1000) hx hb dX6_leadOn_54 (by decide) ?_
      refine lv_iload hx hb dX6_leadOn_57 (lv_at hl 0 rfl) ?_
      refine va_mmin hx hb (by rw [hml]; exact hl.1.symm) hown (hts _ (List.mem_of_getElem? (i := 2) rfl)) (hts _ (List.mem_of_getElem? (i := 3) rfl)) (hts _ (List.mem_of_getElem? (i := 4) rfl)) (hts _ (List.mem_of_getElem? (i := 5) rfl)) (Nat.le_of_ble_eq_true rfl) (Nat.le_of_ble_eq_true rfl) (Nat.le_refl _) (Nat.le_refl _) dX6_leadOn_59 ?_
      refine W.eq (g2 := F0 m 62 ls [.int (sFill T v - sOver T v), .int (T 5 v), .ref (r 2)]) (by rw [zmin1000]; rfl) ?_
      refine va_iast hx hb hK hP hD hS 2 0 hh2 rfl (sIx_in.mp hzt) dX6_leadOn_62 (fun Hz Lz hP hD hS => ?_)
      have hP : va_P G.1 vwCl (w.set 2 (r 2, .inl (G.2 0, 3, .inl (upd (sL1 T v) (T 5 v).toNatClampNeg (sFill T v - sOver T v))))) Hz := hP
      have hD : va_D Aw (w.set 2 (r 2, .inl (G.2 0, 3, .inl (upd (sL1 T v) (T 5 v).toNatClampNeg (sFill T v - sOver T v))))) := hD
      have hC : sCQ G d r A mc g N (va_up T 6 (upd (sL1 T v) (T 5 v).toNatClampNeg (sFill T v - sOver T v))) (w.set 2 (r 2, .inl (G.2 0, 3, .inl (upd (sL1 T v) (T 5 v).toNatClampNeg (sFill T v - sOver T v))))) := (by have hz := sC_x2 (f := upd (sL1 T v) (T 5 v).toNatClampNeg (sFill T v - sOver T v)) hC hN; rw [va_up_tw] at hz; exact hz)
      generalize (w.set 2 (r 2, .inl (G.2 0, 3, .inl (upd (sL1 T v) (T 5 v).toNatClampNeg (sFill T v - sOver T v))))) = zw_5 at hP hD hC
      refine lv_aload_n hx hb dX6_leadOn_63 rfl (lv_at hl 2 rfl) ?_
      refine lv_dup hx hb dX6_leadOn_64 rfl ?_
      have hh0 : zw_5[0]? = some (r 0, .inr (7, [.ref (r 1), .ref (r 2), .ref (r 3), .ref (r 4), .ref (r 5), .ref (r 6), .ref (r 7), .ref (r 8), .ref (r 9), .ref (r 10), .int (nI (N 0)), .int ((T 19) 0), .int ((T 19) 1), .int (nI (N 6))])) := hC.1.1 0 (by omega)
      refine va_get (D := G.1) (ci := 7) (v := .int ((T 19) 1)) (C := RX6) (T := TX6) (N := 14) hx hb hts hi_X6 hown hK hP 0 hh0 rfl 12 (by decide) (hts (.fieldLink RX6 63 "BoilerLog" "lost" "I") (List.mem_of_getElem? (i := 6) rfl)) (fun _ h9 => h9) rfl dX6_leadOn_65 ?_
      refine lv_iload hx hb dX6_leadOn_68 (lv_at hl 0 rfl) ?_
      refine lv_aload_n hx hb dX6_leadOn_70 rfl (lv_at hl 2 rfl) ?_
      refine va_get (D := G.1) (ci := 7) (v := .ref (r 2)) (C := RX6) (T := TX6) (N := 14) hx hb hts hi_X6 hown hK hP 0 hh0 rfl 1 (by decide) (hts (.fieldLink RX6 15 "BoilerLog" "levels" "[I") (List.mem_of_getElem? (i := 1) rfl)) (fun _ h9 => h9) rfl dX6_leadOn_71 ?_
      refine lv_iload_n hx hb dX6_leadOn_74 rfl (lv_at hl 4 rfl) ?_
      have hh2 : zw_5[2]? = some (r 2, .inl (G.2 0, 3, .inl (upd (sL1 T v) (T 5 v).toNatClampNeg (sFill T v - sOver T v)))) := hC.1.1 2 (by omega)
      refine va_iald hx hb hK hP 2 0 hh2 rfl (sIx_in.mp hzt) dX6_leadOn_75 ?_
      refine W.eq (g2 := F0 m 76 ls [.int (sFill T v - sOver T v), .int (sFill T v), .int ((T 19) 1), .ref (r 0)]) (by first | (rw [upd_at]; done) | (rw [upd_at]; rfl)) ?_
      refine lv_isub hx hb dX6_leadOn_76 ?_
      refine W.eq (g2 := F0 m 77 ls [.int (sOver T v), .int ((T 19) 1), .ref (r 0)]) (by first | (rw [zsub2]; done) | (rw [zsub2]; rfl)) ?_
      refine lv_iadd hx hb dX6_leadOn_77 ?_
      refine va_put (D := G.1) (ci := 7) (v := .int (((T 19) 1) + (sOver T v))) (ty := .int) (C := RX6) (T := TX6) (N := 14) hx hb hts hi_X6 tyX6 tyX6_ok nmX6 hown hK hP hD hS 0 hh0 rfl 12 (by decide) (hts (.fieldLink RX6 63 "BoilerLog" "lost" "I") (List.mem_of_getElem? (i := 6) rfl)) (fun _ h9 => h9) rfl (by decide +kernel) rfl rfl (Nat.le_of_ble_eq_true rfl) dX6_leadOn_78 (fun Hz Lz hP hD hS => ?_)
      have hP : va_P G.1 vwCl (zw_5.set 0 (r 0, .inr (7, [.ref (r 1), .ref (r 2), .ref (r 3), .ref (r 4), .ref (r 5), .ref (r 6), .ref (r 7), .ref (r 8), .ref (r 9), .ref (r 10), .int (nI (N 0)), .int ((T 19) 0), .int (((T 19) 1) + (sOver T v)), .int (nI (N 6))]))) Hz := hP
      have hD : va_D Aw (zw_5.set 0 (r 0, .inr (7, [.ref (r 1), .ref (r 2), .ref (r 3), .ref (r 4), .ref (r 5), .ref (r 6), .ref (r 7), .ref (r 8), .ref (r 9), .ref (r 10), .int (nI (N 0)), .int ((T 19) 0), .int (((T 19) 1) + (sOver T v)), .int (nI (N 6))]))) := hD
      have hC : sCQ G d r A mc g N (va_up (va_up T 6 (upd (sL1 T v) (T 5 v).toNatClampNeg (sFill T v - sOver T v))) 19 (upd (T 19) 1 (T 19 1 + sOver T v))) (zw_5.set 0 (r 0, .inr (7, [.ref (r 1), .ref (r 2), .ref (r 3), .ref (r 4), .ref (r 5), .ref (r 6), .ref (r 7), .ref (r 8), .ref (r 9), .ref (r 10), .int (nI (N 0)), .int ((T 19) 0), .int (((T 19) 1) + (sOver T v)), .int (nI (N 6))]))) := (sC_t19 (f := upd (T 19) 1 (T 19 1 + sOver T v)) hC hN)
      generalize (zw_5.set 0 (r 0, .inr (7, [.ref (r 1), .ref (r 2), .ref (r 3), .ref (r 4), .ref (r 5), .ref (r 6), .ref (r 7), .ref (r 8), .ref (r 9), .ref (r 10), .int (nI (N 0)), .int ((T 19) 0), .int (((T 19) 1) + (sOver T v)), .int (nI (N 6))]))) = zw_6 at hP hD hC
      exact z_widen (k := 0) (n := 0) (show 0 ≤ 0 by omega) (show 0 ≤ 0 by omega) (W.vret hx hb hr (fun t ht hW => ⟨⟨zw_6, rfl, by rw [sLed, if_neg (zEnd3n hzt)]; exact ⟨_, _, _, hC, fun _ _ => rfl⟩, ⟨by rw [ht]; exact hP, hD⟩⟩, hS.F ht⟩) hS.2.2 dX6_leadOn_81 hlocks)
  · skip
    have zc_2 := zb_n0 zc_2
    have hzf := zc_2
    refine lv_bipush (v := 10) hx hb dX6_leadOn_10 (by decide) ?_
    refine lv_aload_n hx hb dX6_leadOn_12 rfl (lv_at hl 1 rfl) ?_
    have hh0 : w[0]? = some (r 0, .inr (7, [.ref (r 1), .ref (r 2), .ref (r 3), .ref (r 4), .ref (r 5), .ref (r 6), .ref (r 7), .ref (r 8), .ref (r 9), .ref (r 10), .int (nI (N 0)), .int ((T 19) 0), .int ((T 19) 1), .int (nI (N 6))])) := hC.1.1 0 (by omega)
    refine va_get (D := G.1) (ci := 7) (v := .ref (r 2)) (C := RX6) (T := TX6) (N := 14) hx hb hts hi_X6 hown hK hP 0 hh0 rfl 1 (by decide) (hts (.fieldLink RX6 15 "BoilerLog" "levels" "[I") (List.mem_of_getElem? (i := 1) rfl)) (fun _ h9 => h9) rfl dX6_leadOn_13 ?_
    refine lv_iload_n hx hb dX6_leadOn_16 rfl (lv_at hl 2 rfl) ?_
    have hh2 : w[2]? = some (r 2, .inl (G.2 0, 3, .inl (T 6))) := hC.1.1 2 (by omega)
    refine va_iald hx hb hK hP 2 0 hh2 rfl (sIx_in.mp hzf) dX6_leadOn_17 ?_
    refine va_mmin hx hb (by rw [hml]; exact hl.1.symm) hown (hts _ (List.mem_of_getElem? (i := 2) rfl)) (hts _ (List.mem_of_getElem? (i := 3) rfl)) (hts _ (List.mem_of_getElem? (i := 4) rfl)) (hts _ (List.mem_of_getElem? (i := 5) rfl)) (Nat.le_of_ble_eq_true rfl) (Nat.le_of_ble_eq_true rfl) (Nat.le_refl _) (Nat.le_refl _) dX6_leadOn_18 ?_
    refine W.eq (g2 := F0 m 21 ls [.int (sMuch T v)]) (by rw [zmin10, sMuch, if_neg (zEnd3n hzf)]) ?_
    refine lv_istore_n (lv' := [(3, .int (sMuch T v)), (0, .ref (r 0)), (1, .int (T 4 v)), (2, .int (T 5 v))]) hx hb dX6_leadOn_21 rfl hl (by decide) rfl (fun ls hl => ?_)
    refine lv_aload_n hx hb dX6_leadOn_22 rfl (lv_at hl 1 rfl) ?_
    refine va_get (D := G.1) (ci := 7) (v := .ref (r 2)) (C := RX6) (T := TX6) (N := 14) hx hb hts hi_X6 hown hK hP 0 hh0 rfl 1 (by decide) (hts (.fieldLink RX6 15 "BoilerLog" "levels" "[I") (List.mem_of_getElem? (i := 1) rfl)) (fun _ h9 => h9) rfl dX6_leadOn_23 ?_
    refine lv_iload_n hx hb dX6_leadOn_26 rfl (lv_at hl 2 rfl) ?_
    refine lv_dup2_11 hx hb dX6_leadOn_27 rfl rfl ?_
    refine va_iald hx hb hK hP 2 0 hh2 rfl (sIx_in.mp hzf) dX6_leadOn_28 ?_
    refine lv_iload_n hx hb dX6_leadOn_29 rfl (lv_at hl 0 rfl) ?_
    refine lv_isub hx hb dX6_leadOn_30 ?_
    refine va_iast hx hb hK hP hD hS 2 0 hh2 rfl (sIx_in.mp hzf) dX6_leadOn_31 (fun Hz Lz hP hD hS => ?_)
    have hP : va_P G.1 vwCl (w.set 2 (r 2, .inl (G.2 0, 3, .inl (upd (T 6) (T 4 v).toNatClampNeg (((T 6) (T 4 v).toNatClampNeg) - (sMuch T v)))))) Hz := hP
    have hD : va_D Aw (w.set 2 (r 2, .inl (G.2 0, 3, .inl (upd (T 6) (T 4 v).toNatClampNeg (((T 6) (T 4 v).toNatClampNeg) - (sMuch T v)))))) := hD
    have hC : sCQ G d r A mc g N (va_up T 6 (sL1 T v)) (w.set 2 (r 2, .inl (G.2 0, 3, .inl (upd (T 6) (T 4 v).toNatClampNeg (((T 6) (T 4 v).toNatClampNeg) - (sMuch T v)))))) := (by rw [sL1, if_neg (zEnd3n hzf)]; exact sC_x2 hC hN)
    generalize (w.set 2 (r 2, .inl (G.2 0, 3, .inl (upd (T 6) (T 4 v).toNatClampNeg (((T 6) (T 4 v).toNatClampNeg) - (sMuch T v)))))) = zw_7 at hP hD hC
    refine lv_iload_n hx hb dX6_leadOn_32 rfl (lv_at hl 3 rfl) ?_
    refine z_csi (va_Run.run (va_runS (As := [.int (T 5 v)]) (rest := []) ⟨hx, hb, hml, hown, hts⟩ (c_X6_isVessel l G (T 5 v)) (va_cwS 1 hts gX6_leadOn_X6_isVessel rfl rfl rfl (by decide +kernel) ⟨Nat.le_of_ble_eq_true rfl, Nat.le_of_ble_eq_true rfl⟩) (z_ps hK z_none) rfl rfl hl.1 rfl (lv_room (Nat.le_of_ble_eq_true rfl)) dX6_leadOn_33 ⟨(show 0 + 0 ≤ 0 by omega), (show 0 + 0 ≤ 0 by omega)⟩)) (fun zr_8 hzr_8 => ?_)
    subst hzr_8
    refine lv_if_eq (tgt := 81) hx hb dX6_leadOn_36 (by decide) (fun zc_9 => ?_) (fun zc_9 => ?_)
    · skip
      have zc_9 := zb_0.mp zc_9
      exact z_widen (k := 0) (n := 0) (show 0 ≤ 0 by omega) (show 0 ≤ 0 by omega) (W.vret hx hb hr (fun t ht hW => ⟨⟨zw_7, rfl, by rw [sLed, if_pos (zEnd3 htt zc_9)]; exact ⟨_, _, _, hC, fun _ _ => rfl⟩, ⟨by rw [ht]; exact hP, hD⟩⟩, hS.F ht⟩) hS.2.2 dX6_leadOn_81 hlocks)
    · skip
      have zc_9 := zb_n0 zc_9
      have hzt := zc_9
      refine lv_aload_n hx hb dX6_leadOn_39 rfl (lv_at hl 1 rfl) ?_
      have hh0 : zw_7[0]? = some (r 0, .inr (7, [.ref (r 1), .ref (r 2), .ref (r 3), .ref (r 4), .ref (r 5), .ref (r 6), .ref (r 7), .ref (r 8), .ref (r 9), .ref (r 10), .int (nI (N 0)), .int ((T 19) 0), .int ((T 19) 1), .int (nI (N 6))])) := hC.1.1 0 (by omega)
      refine va_get (D := G.1) (ci := 7) (v := .ref (r 2)) (C := RX6) (T := TX6) (N := 14) hx hb hts hi_X6 hown hK hP 0 hh0 rfl 1 (by decide) (hts (.fieldLink RX6 15 "BoilerLog" "levels" "[I") (List.mem_of_getElem? (i := 1) rfl)) (fun _ h9 => h9) rfl dX6_leadOn_40 ?_
      refine lv_iload_n hx hb dX6_leadOn_43 rfl (lv_at hl 3 rfl) ?_
      have hh2 : zw_7[2]? = some (r 2, .inl (G.2 0, 3, .inl (sL1 T v))) := hC.1.1 2 (by omega)
      refine va_iald hx hb hK hP 2 0 hh2 rfl (sIx_in.mp hzt) dX6_leadOn_44 ?_
      refine lv_iload_n hx hb dX6_leadOn_45 rfl (lv_at hl 0 rfl) ?_
      refine lv_iadd hx hb dX6_leadOn_46 ?_
      refine W.eq (g2 := F0 m 47 ls [.int (sFill T v)]) (by first | (rfl; done) | (rfl; rfl)) ?_
      refine lv_istore (lv' := [(4, .int (sFill T v)), (3, .int (sMuch T v)), (0, .ref (r 0)), (1, .int (T 4 v)), (2, .int (T 5 v))]) hx hb dX6_leadOn_47 hl (by decide) rfl (fun ls hl => ?_)
      refine lv_aload_n hx hb dX6_leadOn_49 rfl (lv_at hl 2 rfl) ?_
      refine va_get (D := G.1) (ci := 7) (v := .ref (r 2)) (C := RX6) (T := TX6) (N := 14) hx hb hts hi_X6 hown hK hP 0 hh0 rfl 1 (by decide) (hts (.fieldLink RX6 15 "BoilerLog" "levels" "[I") (List.mem_of_getElem? (i := 1) rfl)) (fun _ h9 => h9) rfl dX6_leadOn_50 ?_
      refine lv_iload_n hx hb dX6_leadOn_53 rfl (lv_at hl 4 rfl) ?_
      refine lv_sipush (v := 1000) hx hb dX6_leadOn_54 (by decide) ?_
      refine lv_iload hx hb dX6_leadOn_57 (lv_at hl 0 rfl) ?_
      refine va_mmin hx hb (by rw [hml]; exact hl.1.symm) hown (hts _ (List.mem_of_getElem? (i := 2) rfl)) (hts _ (List.mem_of_getElem? (i := 3) rfl)) (hts _ (List.mem_of_getElem? (i := 4) rfl)) (hts _ (List.mem_of_getElem? (i := 5) rfl)) (Nat.le_of_ble_eq_true rfl) (Nat.le_of_ble_eq_true rfl) (Nat.le_refl _) (Nat.le_refl _) dX6_leadOn_59 ?_
      refine W.eq (g2 := F0 m 62 ls [.int (sFill T v - sOver T v), .int (T 5 v), .ref (r 2)]) (by rw [zmin1000]; rfl) ?_
      refine va_iast hx hb hK hP hD hS 2 0 hh2 rfl (sIx_in.mp hzt) dX6_leadOn_62 (fun Hz Lz hP hD hS => ?_)
      have hP : va_P G.1 vwCl (zw_7.set 2 (r 2, .inl (G.2 0, 3, .inl (upd (sL1 T v) (T 5 v).toNatClampNeg (sFill T v - sOver T v))))) Hz := hP
      have hD : va_D Aw (zw_7.set 2 (r 2, .inl (G.2 0, 3, .inl (upd (sL1 T v) (T 5 v).toNatClampNeg (sFill T v - sOver T v))))) := hD
      have hC : sCQ G d r A mc g N (va_up T 6 (upd (sL1 T v) (T 5 v).toNatClampNeg (sFill T v - sOver T v))) (zw_7.set 2 (r 2, .inl (G.2 0, 3, .inl (upd (sL1 T v) (T 5 v).toNatClampNeg (sFill T v - sOver T v))))) := (by have hz := sC_x2 (f := upd (sL1 T v) (T 5 v).toNatClampNeg (sFill T v - sOver T v)) hC hN; rw [va_up_tw] at hz; exact hz)
      generalize (zw_7.set 2 (r 2, .inl (G.2 0, 3, .inl (upd (sL1 T v) (T 5 v).toNatClampNeg (sFill T v - sOver T v))))) = zw_10 at hP hD hC
      refine lv_aload_n hx hb dX6_leadOn_63 rfl (lv_at hl 2 rfl) ?_
      refine lv_dup hx hb dX6_leadOn_64 rfl ?_
      have hh0 : zw_10[0]? = some (r 0, .inr (7, [.ref (r 1), .ref (r 2), .ref (r 3), .ref (r 4), .ref (r 5), .ref (r 6), .ref (r 7), .ref (r 8), .ref (r 9), .ref (r 10), .int (nI (N 0)), .int ((T 19) 0), .int ((T 19) 1), .int (nI (N 6))])) := hC.1.1 0 (by omega)
      refine va_get (D := G.1) (ci := 7) (v := .int ((T 19) 1)) (C := RX6) (T := TX6) (N := 14) hx hb hts hi_X6 hown hK hP 0 hh0 rfl 12 (by decide) (hts (.fieldLink RX6 63 "BoilerLog" "lost" "I") (List.mem_of_getElem? (i := 6) rfl)) (fun _ h9 => h9) rfl dX6_leadOn_65 ?_
      refine lv_iload hx hb dX6_leadOn_68 (lv_at hl 0 rfl) ?_
      refine lv_aload_n hx hb dX6_leadOn_70 rfl (lv_at hl 2 rfl) ?_
      refine va_get (D := G.1) (ci := 7) (v := .ref (r 2)) (C := RX6) (T := TX6) (N := 14) hx hb hts hi_X6 hown hK hP 0 hh0 rfl 1 (by decide) (hts (.fieldLink RX6 15 "BoilerLog" "levels" "[I") (List.mem_of_getElem? (i := 1) rfl)) (fun _ h9 => h9) rfl dX6_leadOn_71 ?_
      refine lv_iload_n hx hb dX6_leadOn_74 rfl (lv_at hl 4 rfl) ?_
      have hh2 : zw_10[2]? = some (r 2, .inl (G.2 0, 3, .inl (upd (sL1 T v) (T 5 v).toNatClampNeg (sFill T v - sOver T v)))) := hC.1.1 2 (by omega)
      refine va_iald hx hb hK hP 2 0 hh2 rfl (sIx_in.mp hzt) dX6_leadOn_75 ?_
      refine W.eq (g2 := F0 m 76 ls [.int (sFill T v - sOver T v), .int (sFill T v), .int ((T 19) 1), .ref (r 0)]) (by first | (rw [upd_at]; done) | (rw [upd_at]; rfl)) ?_
      refine lv_isub hx hb dX6_leadOn_76 ?_
      refine W.eq (g2 := F0 m 77 ls [.int (sOver T v), .int ((T 19) 1), .ref (r 0)]) (by first | (rw [zsub2]; done) | (rw [zsub2]; rfl)) ?_
      refine lv_iadd hx hb dX6_leadOn_77 ?_
      refine va_put (D := G.1) (ci := 7) (v := .int (((T 19) 1) + (sOver T v))) (ty := .int) (C := RX6) (T := TX6) (N := 14) hx hb hts hi_X6 tyX6 tyX6_ok nmX6 hown hK hP hD hS 0 hh0 rfl 12 (by decide) (hts (.fieldLink RX6 63 "BoilerLog" "lost" "I") (List.mem_of_getElem? (i := 6) rfl)) (fun _ h9 => h9) rfl (by decide +kernel) rfl rfl (Nat.le_of_ble_eq_true rfl) dX6_leadOn_78 (fun Hz Lz hP hD hS => ?_)
      have hP : va_P G.1 vwCl (zw_10.set 0 (r 0, .inr (7, [.ref (r 1), .ref (r 2), .ref (r 3), .ref (r 4), .ref (r 5), .ref (r 6), .ref (r 7), .ref (r 8), .ref (r 9), .ref (r 10), .int (nI (N 0)), .int ((T 19) 0), .int (((T 19) 1) + (sOver T v)), .int (nI (N 6))]))) Hz := hP
      have hD : va_D Aw (zw_10.set 0 (r 0, .inr (7, [.ref (r 1), .ref (r 2), .ref (r 3), .ref (r 4), .ref (r 5), .ref (r 6), .ref (r 7), .ref (r 8), .ref (r 9), .ref (r 10), .int (nI (N 0)), .int ((T 19) 0), .int (((T 19) 1) + (sOver T v)), .int (nI (N 6))]))) := hD
      have hC : sCQ G d r A mc g N (va_up (va_up T 6 (upd (sL1 T v) (T 5 v).toNatClampNeg (sFill T v - sOver T v))) 19 (upd (T 19) 1 (T 19 1 + sOver T v))) (zw_10.set 0 (r 0, .inr (7, [.ref (r 1), .ref (r 2), .ref (r 3), .ref (r 4), .ref (r 5), .ref (r 6), .ref (r 7), .ref (r 8), .ref (r 9), .ref (r 10), .int (nI (N 0)), .int ((T 19) 0), .int (((T 19) 1) + (sOver T v)), .int (nI (N 6))]))) := (sC_t19 (f := upd (T 19) 1 (T 19 1 + sOver T v)) hC hN)
      generalize (zw_10.set 0 (r 0, .inr (7, [.ref (r 1), .ref (r 2), .ref (r 3), .ref (r 4), .ref (r 5), .ref (r 6), .ref (r 7), .ref (r 8), .ref (r 9), .ref (r 10), .int (nI (N 0)), .int ((T 19) 0), .int (((T 19) 1) + (sOver T v)), .int (nI (N 6))]))) = zw_11 at hP hD hC
      exact z_widen (k := 0) (n := 0) (show 0 ≤ 0 by omega) (show 0 ≤ 0 by omega) (W.vret hx hb hr (fun t ht hW => ⟨⟨zw_11, rfl, by rw [sLed, if_neg (zEnd3n hzt)]; exact ⟨_, _, _, hC, fun _ _ => rfl⟩, ⟨by rw [ht]; exact hP, hD⟩⟩, hS.F ht⟩) hS.2.2 dX6_leadOn_81 hlocks)
