set_option maxHeartbeats 4000000 in
set_option maxRecDepth 100000 in
theorem h_pipe (l : Launch) (hst : l.stackTraces = false) (G : zG) (d : Nat) (r A : Nat → Nat) (mc : Nat → Int32) (g : Nat → Nat → Int32) (N : Nat → Nat) (T : Nat → Nat → Int32) (w : va_W) (K : Nat) (a1 a2 a3 : Int32) (o : Nat) (fo : Nat → Int64) (sz : Nat) (hC : sCQ G d r A mc g N T w) (hI : sInv N T K 0) (hKk : K ≤ 511) : vx_Met l yL_pipe wsL_pipe ({ frames := 8, cells := 8, slots := 200, locals := 134 }) (va_Pc [.ref (r 0), .int a1, .int a2, .int a3, .ref o] (zHu G d (w ++ ([(o, zOut G fo)] : va_W)) sz)) (va_Qi (fun (k : Int32) (w1 : va_W) => k = sK3 (sIx a1 8) (((sEnd a2) && (sEnd a3)) && !decide (a2 = a3)) (decide (T 3 a1.toNatClampNeg = 0)) ∧ zHq G d r o k (nI (sOn N T a1) : Int32).toInt64 N T N ((nPipe N T a1 a2 a3).2) w1) (zB G (va_A (w ++ ([(o, zOut G fo)] : va_W)) sz)) (va_A (w ++ ([(o, zOut G fo)] : va_W)) sz)) (zXk [] 0) (8) (200) (va_A (w ++ ([(o, zOut G fo)] : va_W)) sz) := by
  refine vx_ofWH (cc := cL_pipe) (maxL := 6) (ret := (some .int)) (hh := [(0, 12, 15, 13), (0, 12, 19, 15), (0, 12, 23, 17)]) (by decide) rfl ?_
  intro p e s m args below meth c s₁ B hml hv
  obtain ⟨rfl, ⟨hsz, hP, hK, hD0, hZ⟩, hX⟩ := hv
  have hx := B.exec
  have hb := B.bytes
  have hr := B.returns
  have hts := atoms_spec (ws := wsL_pipe) B.pre
  have hown : s.vm.findClass RL = some m.cls := findClass_of_methodNamed B.named
  have hlocks := B.notSynchronized
  have htab := vx_table (x := yL_pipe) B (hts _ (List.mem_of_getElem? (i := 0) rfl))
  subst hsz
  have hD := hD0.self (sz := s.heap.size)
  generalize hAe : va_A (w ++ ([(o, zOut G fo)] : va_W)) s.heap.size = Aw at hD hZ ⊢
  have hA : ∀ q : Nat, s.heap.size ≤ q → Aw q := fun q h => by rw [← hAe]; exact Or.inr h
  have hS : va_S Aw s.heap s.heap [] := va_S.rf
  have hl := lv_entry ([.ref (r 0), .int a1, .int a2, .int a3, .ref o]) (n := 6) (Nat.le_of_ble_eq_true rfl)
  rw [lg_entry_eq]
  generalize (lg_sl ([.ref (r 0), .int a1, .int a2, .int a3, .ref o]) ++ List.replicate (6 - (lg_sl ([.ref (r 0), .int a1, .int a2, .int a3, .ref o])).length) Slot.unset).toArray = ls at hl ⊢
  have hl : lv_has ls 6 [(0, .ref (r 0)), (1, .int a1), (2, .int a2), (3, .int a3), (4, .ref o)] := hl
  refine lv_aload hx hb dL_pipe_0 (lv_at hl 4 rfl) ?_
  refine lv_iconst (v := 0) hx hb dL_pipe_2 (by decide) ?_
  refine lv_aload_n hx hb dL_pipe_3 rfl (lv_at hl 0 rfl) ?_
  refine lv_iload_n hx hb dL_pipe_4 rfl (lv_at hl 1 rfl) ?_
  refine lv_iload_n hx hb dL_pipe_5 rfl (lv_at hl 2 rfl) ?_
  refine lv_iload_n hx hb dL_pipe_6 rfl (lv_at hl 3 rfl) ?_
  refine z_xi (G := G) (w := w) (wr := ([(o, zOut G fo)] : va_W)) (vx_runV (As := [.int a1, .int a2, .int a3]) (rest := [.int 0, .ref o]) ⟨hx, hb, hml, hown, hts⟩ (c_X6_pipe l hst G d r A mc g N T w K a1 a2 a3 s.heap.size hC hI hKk) (cwV 3 hts gL_pipe_X6_pipe rfl rfl rfl (by decide +kernel) ⟨Nat.le_of_ble_eq_true rfl, Nat.le_of_ble_eq_true rfl⟩) (z_wv hK (z_apL hP) (ci := 7) (q0 := 0) rfl (hC.1.1 0 (by omega)) (z_apL hP) (z_dL hD) hZ hS hA) rfl rfl hl.1 rfl (lv_room (Nat.le_of_ble_eq_true rfl)) dL_pipe_7 ⟨Nat.le_of_eq (Nat.zero_add _), Nat.le_of_eq (Nat.zero_add _)⟩) hP hD hS hA (fun i E ce q9 Hz Lz hk hE hP hS hce hcv hcl => ?_) (fun rz w1 Hz Lz hq hP hD hS => ?_)
  · have hi : i < 3 := (List.getElem?_eq_some_iff.mp hE).1
    rcases (show i = 0 ∨ i = 1 ∨ i = 2 by omega) with rfl | rfl | rfl
    · skip
      have hE : E = "java/lang/IndexOutOfBoundsException" := (Option.some.inj hE).symm
      subst hE
      refine vx_catch (own := RL) (name := "java/lang/IndexOutOfBoundsException") hown [] ⟨0, 12, 15, 13⟩ [⟨0, 12, 19, 15⟩, ⟨0, 12, 23, 17⟩] htab (fun _ h => absurd h List.not_mem_nil) rfl (by decide) (hts (.classLink RL 13 "java/lang/IndexOutOfBoundsException") (List.mem_of_getElem? (i := 1) rfl)) (va_Nw.use (w := .castable "java/lang/IndexOutOfBoundsException" "java/lang/IndexOutOfBoundsException") rfl (hX.1 0 (by omega))) hce hcv hcl ?_
      refine lv_astore (lv' := [(5, .ref q9), (0, .ref (r 0)), (1, .int a1), (2, .int a2), (3, .int a3), (4, .ref o)]) hx hb dL_pipe_15 hl (by decide) rfl (fun ls hl => ?_)
      refine lv_iconst (v := 1) hx hb dL_pipe_17 (by decide) ?_
      exact vx_ret (z_widen (k := 8) (n := 200) (Nat.le_of_eq (Nat.zero_add _)) (Nat.le_of_eq (Nat.zero_add _)) (W.iret (v := 1) hx hb hr (fun t ht hW => ⟨⟨1, (w ++ ([(o, zOut G fo)] : va_W)), rfl, ⟨hk.symm, w, fo, rfl, fun h => absurd h (by decide), fun _ => ⟨A, mc, g, hC⟩⟩, ⟨by rw [ht]; exact hP, hD⟩⟩, hS.F ht⟩) hS.2.2 dL_pipe_18 hlocks))
    · skip
      have hE : E = "java/lang/IllegalArgumentException" := (Option.some.inj hE).symm
      subst hE
      refine vx_catch (own := RL) (name := "java/lang/IllegalArgumentException") hown [⟨0, 12, 15, 13⟩] ⟨0, 12, 19, 15⟩ [⟨0, 12, 23, 17⟩] htab (List.forall_mem_cons.mpr ⟨Or.inr ⟨by decide, "java/lang/IndexOutOfBoundsException", hts (.classLink RL 13 "java/lang/IndexOutOfBoundsException") (List.mem_of_getElem? (i := 1) rfl), hX.2 1 0 (by omega) (by omega) (by decide)⟩, fun _ h => absurd h List.not_mem_nil⟩) rfl (by decide) (hts (.classLink RL 15 "java/lang/IllegalArgumentException") (List.mem_of_getElem? (i := 2) rfl)) (va_Nw.use (w := .castable "java/lang/IllegalArgumentException" "java/lang/IllegalArgumentException") rfl (hX.1 1 (by omega))) hce hcv hcl ?_
      refine lv_astore (lv' := [(5, .ref q9), (0, .ref (r 0)), (1, .int a1), (2, .int a2), (3, .int a3), (4, .ref o)]) hx hb dL_pipe_19 hl (by decide) rfl (fun ls hl => ?_)
      refine lv_iconst (v := 2) hx hb dL_pipe_21 (by decide) ?_
      exact vx_ret (z_widen (k := 8) (n := 200) (Nat.le_of_eq (Nat.zero_add _)) (Nat.le_of_eq (Nat.zero_add _)) (W.iret (v := 2) hx hb hr (fun t ht hW => ⟨⟨2, (w ++ ([(o, zOut G fo)] : va_W)), rfl, ⟨hk.symm, w, fo, rfl, fun h => absurd h (by decide), fun _ => ⟨A, mc, g, hC⟩⟩, ⟨by rw [ht]; exact hP, hD⟩⟩, hS.F ht⟩) hS.2.2 dL_pipe_22 hlocks))
    · skip
      have hE : E = "java/lang/IllegalStateException" := (Option.some.inj hE).symm
      subst hE
      refine vx_catch (own := RL) (name := "java/lang/IllegalStateException") hown [⟨0, 12, 15, 13⟩, ⟨0, 12, 19, 15⟩] ⟨0, 12, 23, 17⟩ [] htab (List.forall_mem_cons.mpr ⟨Or.inr ⟨by decide, "java/lang/IndexOutOfBoundsException", hts (.classLink RL 13 "java/lang/IndexOutOfBoundsException") (List.mem_of_getElem? (i := 1) rfl), hX.2 2 0 (by omega) (by omega) (by decide)⟩, List.forall_mem_cons.mpr ⟨Or.inr ⟨by decide, "java/lang/IllegalArgumentException", hts (.classLink RL 15 "java/lang/IllegalArgumentException") (List.mem_of_getElem? (i := 2) rfl), hX.2 2 1 (by omega) (by omega) (by decide)⟩, fun _ h => absurd h List.not_mem_nil⟩⟩) rfl (by decide) (hts (.classLink RL 17 "java/lang/IllegalStateException") (List.mem_of_getElem? (i := 3) rfl)) (va_Nw.use (w := .castable "java/lang/IllegalStateException" "java/lang/IllegalStateException") rfl (hX.1 2 (by omega))) hce hcv hcl ?_
      refine lv_astore (lv' := [(5, .ref q9), (0, .ref (r 0)), (1, .int a1), (2, .int a2), (3, .int a3), (4, .ref o)]) hx hb dL_pipe_23 hl (by decide) rfl (fun ls hl => ?_)
      refine lv_iconst (v := 3) hx hb dL_pipe_25 (by decide) ?_
      exact vx_ret (z_widen (k := 8) (n := 200) (Nat.le_of_eq (Nat.zero_add _)) (Nat.le_of_eq (Nat.zero_add _)) (W.iret (v := 3) hx hb hr (fun t ht hW => ⟨⟨3, (w ++ ([(o, zOut G fo)] : va_W)), rfl, ⟨hk.symm, w, fo, rfl, fun h => absurd h (by decide), fun _ => ⟨A, mc, g, hC⟩⟩, ⟨by rw [ht]; exact hP, hD⟩⟩, hS.F ht⟩) hS.2.2 dL_pipe_26 hlocks))
  · obtain ⟨hk0, hra, hco⟩ := hq
    subst hra
    refine lv_i2l (v := (nI (sOn N T a1) : Int32).toInt64) hx hb dL_pipe_10 rfl ?_
    refine z_lay hx hb hK hP hD hS dL_pipe_11 (fun Hz Lz hP hD hS => ?_)
    refine lv_goto (tgt := 27) hx hb dL_pipe_12 (by decide) ?_
    refine lv_iconst (v := 0) hx hb dL_pipe_27 (by decide) ?_
    exact vx_ret (z_widen (k := 8) (n := 200) (Nat.le_of_eq (Nat.zero_add _)) (Nat.le_of_eq (Nat.zero_add _)) (W.iret (v := 0) hx hb hr (fun t ht hW => ⟨⟨0, (w1 ++ ([(o, zOut G (vp_updL fo 0 (nI (sOn N T a1) : Int32).toInt64))] : va_W)), rfl, ⟨hk0.symm, w1, _, rfl, fun _ => ⟨pk_uLs, hco⟩, fun h => absurd rfl h⟩, ⟨by rw [ht]; exact hP, hD⟩⟩, hS.F ht⟩) hS.2.2 dL_pipe_28 hlocks))

set_option maxHeartbeats 4000000 in
set_option maxRecDepth 100000 in
theorem h_turn (l : Launch) (hst : l.stackTraces = false) (G : zG) (d : Nat) (r A : Nat → Nat) (mc : Nat → Int32) (g : Nat → Nat → Int32) (N : Nat → Nat) (T : Nat → Nat → Int32) (w : va_W) (K : Nat) (a1 a2 : Int32) (b3 : Bool) (o : Nat) (fo : Nat → Int64) (sz : Nat) (hC : sCQ G d r A mc g N T w) (hI : sInv N T K 0) (hKk : K ≤ 511) : vx_Met l yL_turn wsL_turn ({ frames := 8, cells := (8 + zmc (sK2 ((sIx a1 9) && (sIx a2 8)) (decide (sBars N T a1 a2 = 0))) (N 1) ((sTurn N T a1 a2 b3).1 1)), slots := (200 + zms (sK2 ((sIx a1 9) && (sIx a2 8)) (decide (sBars N T a1 a2 = 0))) (N 1) ((sTurn N T a1 a2 b3).1 1)), locals := 157 }) (va_Pc [.ref (r 0), .int a1, .int a2, .int (zb b3), .ref o] (zHu G d (w ++ ([(o, zOut G fo)] : va_W)) sz)) (va_Qi (fun (k : Int32) (w1 : va_W) => k = sK2 ((sIx a1 9) && (sIx a2 8)) (decide (sBars N T a1 a2 = 0)) ∧ zHq G d r o k (zL1 (zb (!decide (T 3 a2.toNatClampNeg = zb b3)))) N T ((sTurn N T a1 a2 b3).1) ((sTurn N T a1 a2 b3).2) w1) (zB G (va_A (w ++ ([(o, zOut G fo)] : va_W)) sz)) (va_A (w ++ ([(o, zOut G fo)] : va_W)) sz)) (zXk [] 0) ((8 + zmc (sK2 ((sIx a1 9) && (sIx a2 8)) (decide (sBars N T a1 a2 = 0))) (N 1) ((sTurn N T a1 a2 b3).1 1))) ((200 + zms (sK2 ((sIx a1 9) && (sIx a2 8)) (decide (sBars N T a1 a2 = 0))) (N 1) ((sTurn N T a1 a2 b3).1 1))) (va_A (w ++ ([(o, zOut G fo)] : va_W)) sz) := by
  refine vx_ofWH (cc := cL_turn) (maxL := 6) (ret := (some .int)) (hh := [(0, 19, 22, 13), (0, 19, 26, 17)]) (by decide) rfl ?_
  intro p e s m args below meth c s₁ B hml hv
  obtain ⟨rfl, ⟨hsz, hP, hK, hD0, hZ⟩, hX⟩ := hv
  have hx := B.exec
  have hb := B.bytes
  have hr := B.returns
  have hts := atoms_spec (ws := wsL_turn) B.pre
  have hown : s.vm.findClass RL = some m.cls := findClass_of_methodNamed B.named
  have hlocks := B.notSynchronized
  have htab := vx_table (x := yL_turn) B (hts _ (List.mem_of_getElem? (i := 0) rfl))
  subst hsz
  have hD := hD0.self (sz := s.heap.size)
  generalize hAe : va_A (w ++ ([(o, zOut G fo)] : va_W)) s.heap.size = Aw at hD hZ ⊢
  have hA : ∀ q : Nat, s.heap.size ≤ q → Aw q := fun q h => by rw [← hAe]; exact Or.inr h
  have hS : va_S Aw s.heap s.heap [] := va_S.rf
  have hl := lv_entry ([.ref (r 0), .int a1, .int a2, .int (zb b3), .ref o]) (n := 6) (Nat.le_of_ble_eq_true rfl)
  rw [lg_entry_eq]
  generalize (lg_sl ([.ref (r 0), .int a1, .int a2, .int (zb b3), .ref o]) ++ List.replicate (6 - (lg_sl ([.ref (r 0), .int a1, .int a2, .int (zb b3), .ref o])).length) Slot.unset).toArray = ls at hl ⊢
  have hl : lv_has ls 6 [(0, .ref (r 0)), (1, .int a1), (2, .int a2), (3, .int (zb b3)), (4, .ref o)] := hl
  refine lv_aload hx hb dL_turn_0 (lv_at hl 4 rfl) ?_
  refine lv_iconst (v := 0) hx hb dL_turn_2 (by decide) ?_
  refine lv_aload_n hx hb dL_turn_3 rfl (lv_at hl 0 rfl) ?_
  refine lv_iload_n hx hb dL_turn_4 rfl (lv_at hl 1 rfl) ?_
  refine lv_iload_n hx hb dL_turn_5 rfl (lv_at hl 2 rfl) ?_
  refine lv_iload_n hx hb dL_turn_6 rfl (lv_at hl 3 rfl) ?_
  refine z_xi (G := G) (w := w) (wr := ([(o, zOut G fo)] : va_W)) (vx_runV (As := [.int a1, .int a2, .int (zb b3)]) (rest := [.int 0, .ref o]) ⟨hx, hb, hml, hown, hts⟩ (c_X6_turn l hst G d r A mc g N T w K a1 a2 b3 s.heap.size hC hI hKk) (cwV 3 hts gL_turn_X6_turn rfl rfl rfl (by decide +kernel) ⟨Nat.le_of_ble_eq_true rfl, Nat.le_of_ble_eq_true rfl⟩) (z_wv hK (z_apL hP) (ci := 7) (q0 := 0) rfl (hC.1.1 0 (by omega)) (z_apL hP) (z_dL hD) hZ hS hA) rfl rfl hl.1 rfl (lv_room (Nat.le_of_ble_eq_true rfl)) dL_turn_7 ⟨Nat.le_of_eq (Nat.zero_add _), Nat.le_of_eq (Nat.zero_add _)⟩) hP hD hS hA (fun i E ce q9 Hz Lz hk hE hP hS hce hcv hcl => ?_) (fun rz w1 Hz Lz hq hP hD hS => ?_)
  · have hi : i < 2 := (List.getElem?_eq_some_iff.mp hE).1
    rcases (show i = 0 ∨ i = 1 by omega) with rfl | rfl
    · skip
      have hE : E = "java/lang/IndexOutOfBoundsException" := (Option.some.inj hE).symm
      subst hE
      refine vx_catch (own := RL) (name := "java/lang/IndexOutOfBoundsException") hown [] ⟨0, 19, 22, 13⟩ [⟨0, 19, 26, 17⟩] htab (fun _ h => absurd h List.not_mem_nil) rfl (by decide) (hts (.classLink RL 13 "java/lang/IndexOutOfBoundsException") (List.mem_of_getElem? (i := 1) rfl)) (va_Nw.use (w := .castable "java/lang/IndexOutOfBoundsException" "java/lang/IndexOutOfBoundsException") rfl (hX.1 0 (by omega))) hce hcv hcl ?_
      refine lv_astore (lv' := [(5, .ref q9), (0, .ref (r 0)), (1, .int a1), (2, .int a2), (3, .int (zb b3)), (4, .ref o)]) hx hb dL_turn_22 hl (by decide) rfl (fun ls hl => ?_)
      refine lv_iconst (v := 1) hx hb dL_turn_24 (by decide) ?_
      exact vx_ret (z_widen (k := (8 + zmc (sK2 ((sIx a1 9) && (sIx a2 8)) (decide (sBars N T a1 a2 = 0))) (N 1) ((sTurn N T a1 a2 b3).1 1))) (n := (200 + zms (sK2 ((sIx a1 9) && (sIx a2 8)) (decide (sBars N T a1 a2 = 0))) (N 1) ((sTurn N T a1 a2 b3).1 1))) (Nat.le_of_eq (Nat.zero_add _)) (Nat.le_of_eq (Nat.zero_add _)) (W.iret (v := 1) hx hb hr (fun t ht hW => ⟨⟨1, (w ++ ([(o, zOut G fo)] : va_W)), rfl, ⟨hk.symm, w, fo, rfl, fun h => absurd h (by decide), fun _ => ⟨A, mc, g, hC⟩⟩, ⟨by rw [ht]; exact hP, hD⟩⟩, hS.F ht⟩) hS.2.2 dL_turn_25 hlocks))
    · skip
      have hE : E = "java/lang/IllegalStateException" := (Option.some.inj hE).symm
      subst hE
      refine vx_catch (own := RL) (name := "java/lang/IllegalStateException") hown [⟨0, 19, 22, 13⟩] ⟨0, 19, 26, 17⟩ [] htab (List.forall_mem_cons.mpr ⟨Or.inr ⟨by decide, "java/lang/IndexOutOfBoundsException", hts (.classLink RL 13 "java/lang/IndexOutOfBoundsException") (List.mem_of_getElem? (i := 1) rfl), hX.2 2 0 (by omega) (by omega) (by decide)⟩, fun _ h => absurd h List.not_mem_nil⟩) rfl (by decide) (hts (.classLink RL 17 "java/lang/IllegalStateException") (List.mem_of_getElem? (i := 2) rfl)) (va_Nw.use (w := .castable "java/lang/IllegalStateException" "java/lang/IllegalStateException") rfl (hX.1 2 (by omega))) hce hcv hcl ?_
      refine lv_astore (lv' := [(5, .ref q9), (0, .ref (r 0)), (1, .int a1), (2, .int a2), (3, .int (zb b3)), (4, .ref o)]) hx hb dL_turn_26 hl (by decide) rfl (fun ls hl => ?_)
      refine lv_iconst (v := 2) hx hb dL_turn_28 (by decide) ?_
      exact vx_ret (z_widen (k := (8 + zmc (sK2 ((sIx a1 9) && (sIx a2 8)) (decide (sBars N T a1 a2 = 0))) (N 1) ((sTurn N T a1 a2 b3).1 1))) (n := (200 + zms (sK2 ((sIx a1 9) && (sIx a2 8)) (decide (sBars N T a1 a2 = 0))) (N 1) ((sTurn N T a1 a2 b3).1 1))) (Nat.le_of_eq (Nat.zero_add _)) (Nat.le_of_eq (Nat.zero_add _)) (W.iret (v := 2) hx hb hr (fun t ht hW => ⟨⟨2, (w ++ ([(o, zOut G fo)] : va_W)), rfl, ⟨hk.symm, w, fo, rfl, fun h => absurd h (by decide), fun _ => ⟨A, mc, g, hC⟩⟩, ⟨by rw [ht]; exact hP, hD⟩⟩, hS.F ht⟩) hS.2.2 dL_turn_29 hlocks))
  · obtain ⟨hk0, hra, hco⟩ := hq
    subst hra
    refine z_bl hx hb dL_turn_10 dL_turn_13 dL_turn_14 dL_turn_17 ?_
    refine z_lay hx hb hK hP hD hS dL_turn_18 (fun Hz Lz hP hD hS => ?_)
    refine lv_goto (tgt := 30) hx hb dL_turn_19 (by decide) ?_
    refine lv_iconst (v := 0) hx hb dL_turn_30 (by decide) ?_
    exact vx_ret (z_widen (k := (8 + zmc (sK2 ((sIx a1 9) && (sIx a2 8)) (decide (sBars N T a1 a2 = 0))) (N 1) ((sTurn N T a1 a2 b3).1 1))) (n := (200 + zms (sK2 ((sIx a1 9) && (sIx a2 8)) (decide (sBars N T a1 a2 = 0))) (N 1) ((sTurn N T a1 a2 b3).1 1))) (Nat.le_of_eq (Nat.zero_add _)) (Nat.le_of_eq (Nat.zero_add _)) (W.iret (v := 0) hx hb hr (fun t ht hW => ⟨⟨0, (w1 ++ ([(o, zOut G (vp_updL fo 0 (zL1 (zb (!decide (T 3 a2.toNatClampNeg = zb b3))))))] : va_W)), rfl, ⟨hk0.symm, w1, _, rfl, fun _ => ⟨pk_uLs, hco⟩, fun h => absurd rfl h⟩, ⟨by rw [ht]; exact hP, hD⟩⟩, hS.F ht⟩) hS.2.2 dL_turn_31 hlocks))

set_option maxHeartbeats 4000000 in
set_option maxRecDepth 100000 in
theorem h_obstacle (l : Launch) (hst : l.stackTraces = false) (G : zG) (d : Nat) (r A : Nat → Nat) (mc : Nat → Int32) (g : Nat → Nat → Int32) (N : Nat → Nat) (T : Nat → Nat → Int32) (w : va_W) (K : Nat) (a1 a2 : Int32) (o : Nat) (fo : Nat → Int64) (sz : Nat) (hC : sCQ G d r A mc g N T w) (hI : sInv N T K 0) (hKk : K ≤ 511) : vx_Met l yL_obstacle wsL_obstacle ({ frames := 8, cells := 8, slots := 200, locals := 132 }) (va_Pc [.ref (r 0), .int a1, .int a2, .ref o] (zHu G d (w ++ ([(o, zOut G fo)] : va_W)) sz)) (va_Qi (fun (k : Int32) (w1 : va_W) => k = sK1 ((sIx a1 9) && (sIx a2 8)) ∧ zHq G d r o k (sBars N T a1 a2 : Int32).toInt64 N T N T w1) (zB G (va_A (w ++ ([(o, zOut G fo)] : va_W)) sz)) (va_A (w ++ ([(o, zOut G fo)] : va_W)) sz)) (zXk [] 0) (8) (200) (va_A (w ++ ([(o, zOut G fo)] : va_W)) sz) := by
  refine vx_ofWH (cc := cL_obstacle) (maxL := 5) (ret := (some .int)) (hh := [(0, 10, 13, 13)]) (by decide) rfl ?_
  intro p e s m args below meth c s₁ B hml hv
  obtain ⟨rfl, ⟨hsz, hP, hK, hD0, hZ⟩, hX⟩ := hv
  have hx := B.exec
  have hb := B.bytes
  have hr := B.returns
  have hts := atoms_spec (ws := wsL_obstacle) B.pre
  have hown : s.vm.findClass RL = some m.cls := findClass_of_methodNamed B.named
  have hlocks := B.notSynchronized
  have htab := vx_table (x := yL_obstacle) B (hts _ (List.mem_of_getElem? (i := 0) rfl))
  subst hsz
  have hD := hD0.self (sz := s.heap.size)
  generalize hAe : va_A (w ++ ([(o, zOut G fo)] : va_W)) s.heap.size = Aw at hD hZ ⊢
  have hA : ∀ q : Nat, s.heap.size ≤ q → Aw q := fun q h => by rw [← hAe]; exact Or.inr h
  have hS : va_S Aw s.heap s.heap [] := va_S.rf
  have hl := lv_entry ([.ref (r 0), .int a1, .int a2, .ref o]) (n := 5) (Nat.le_of_ble_eq_true rfl)
  rw [lg_entry_eq]
  generalize (lg_sl ([.ref (r 0), .int a1, .int a2, .ref o]) ++ List.replicate (5 - (lg_sl ([.ref (r 0), .int a1, .int a2, .ref o])).length) Slot.unset).toArray = ls at hl ⊢
  have hl : lv_has ls 5 [(0, .ref (r 0)), (1, .int a1), (2, .int a2), (3, .ref o)] := hl
  refine lv_aload_n hx hb dL_obstacle_0 rfl (lv_at hl 3 rfl) ?_
  refine lv_iconst (v := 0) hx hb dL_obstacle_1 (by decide) ?_
  refine lv_aload_n hx hb dL_obstacle_2 rfl (lv_at hl 0 rfl) ?_
  refine lv_iload_n hx hb dL_obstacle_3 rfl (lv_at hl 1 rfl) ?_
  refine lv_iload_n hx hb dL_obstacle_4 rfl (lv_at hl 2 rfl) ?_
  refine z_xi (G := G) (w := w) (wr := ([(o, zOut G fo)] : va_W)) (vx_runV (As := [.int a1, .int a2]) (rest := [.int 0, .ref o]) ⟨hx, hb, hml, hown, hts⟩ (c_X6_obstacle l hst G d r A mc g N T w K a1 a2 s.heap.size hC hI hKk) (cwV 2 hts gL_obstacle_X6_obstacle rfl rfl rfl (by decide +kernel) ⟨Nat.le_of_ble_eq_true rfl, Nat.le_of_ble_eq_true rfl⟩) (z_wv hK (z_apL hP) (ci := 7) (q0 := 0) rfl (hC.1.1 0 (by omega)) (z_apL hP) (z_dL hD) hZ hS hA) rfl rfl hl.1 rfl (lv_room (Nat.le_of_ble_eq_true rfl)) dL_obstacle_5 ⟨Nat.le_of_eq (Nat.zero_add _), Nat.le_of_eq (Nat.zero_add _)⟩) hP hD hS hA (fun i E ce q9 Hz Lz hk hE hP hS hce hcv hcl => ?_) (fun rz w1 Hz Lz hq hP hD hS => ?_)
  · have hi : i < 1 := (List.getElem?_eq_some_iff.mp hE).1
    obtain rfl : i = 0 := by omega
    have hE : E = "java/lang/IndexOutOfBoundsException" := (Option.some.inj hE).symm
    subst hE
    refine vx_catch (own := RL) (name := "java/lang/IndexOutOfBoundsException") hown [] ⟨0, 10, 13, 13⟩ [] htab (fun _ h => absurd h List.not_mem_nil) rfl (by decide) (hts (.classLink RL 13 "java/lang/IndexOutOfBoundsException") (List.mem_of_getElem? (i := 1) rfl)) (va_Nw.use (w := .castable "java/lang/IndexOutOfBoundsException" "java/lang/IndexOutOfBoundsException") rfl (hX.1 0 (by omega))) hce hcv hcl ?_
    refine lv_astore (lv' := [(4, .ref q9), (0, .ref (r 0)), (1, .int a1), (2, .int a2), (3, .ref o)]) hx hb dL_obstacle_13 hl (by decide) rfl (fun ls hl => ?_)
    refine lv_iconst (v := 1) hx hb dL_obstacle_15 (by decide) ?_
    exact vx_ret (z_widen (k := 8) (n := 200) (Nat.le_of_eq (Nat.zero_add _)) (Nat.le_of_eq (Nat.zero_add _)) (W.iret (v := 1) hx hb hr (fun t ht hW => ⟨⟨1, (w ++ ([(o, zOut G fo)] : va_W)), rfl, ⟨hk.symm, w, fo, rfl, fun h => absurd h (by decide), fun _ => ⟨A, mc, g, hC⟩⟩, ⟨by rw [ht]; exact hP, hD⟩⟩, hS.F ht⟩) hS.2.2 dL_obstacle_16 hlocks))
  · obtain ⟨hk0, hra, hco⟩ := hq
    subst hra
    refine lv_i2l (v := (sBars N T a1 a2 : Int32).toInt64) hx hb dL_obstacle_8 rfl ?_
    refine z_lay hx hb hK hP hD hS dL_obstacle_9 (fun Hz Lz hP hD hS => ?_)
    refine lv_goto (tgt := 17) hx hb dL_obstacle_10 (by decide) ?_
    refine lv_iconst (v := 0) hx hb dL_obstacle_17 (by decide) ?_
    exact vx_ret (z_widen (k := 8) (n := 200) (Nat.le_of_eq (Nat.zero_add _)) (Nat.le_of_eq (Nat.zero_add _)) (W.iret (v := 0) hx hb hr (fun t ht hW => ⟨⟨0, (w1 ++ ([(o, zOut G (vp_updL fo 0 (sBars N T a1 a2 : Int32).toInt64))] : va_W)), rfl, ⟨hk0.symm, w1, _, rfl, fun _ => ⟨pk_uLs, hco⟩, fun h => absurd rfl h⟩, ⟨by rw [ht]; exact hP, hD⟩⟩, hS.F ht⟩) hS.2.2 dL_obstacle_18 hlocks))

set_option maxHeartbeats 4000000 in
set_option maxRecDepth 100000 in
theorem h_isOpen (l : Launch) (hst : l.stackTraces = false) (G : zG) (d : Nat) (r A : Nat → Nat) (mc : Nat → Int32) (g : Nat → Nat → Int32) (N : Nat → Nat) (T : Nat → Nat → Int32) (w : va_W) (K : Nat) (a1 : Int32) (o : Nat) (fo : Nat → Int64) (sz : Nat) (hC : sCQ G d r A mc g N T w) (hI : sInv N T K 0) (hKk : K ≤ 511) : vx_Met l yL_isOpen wsL_isOpen ({ frames := 8, cells := 8, slots := 200, locals := 131 }) (va_Pc [.ref (r 0), .int a1, .ref o] (zHu G d (w ++ ([(o, zOut G fo)] : va_W)) sz)) (va_Qi (fun (k : Int32) (w1 : va_W) => k = sK1 (sIx a1 8) ∧ zHq G d r o k (zL1 (T 3 a1.toNatClampNeg)) N T N T w1) (zB G (va_A (w ++ ([(o, zOut G fo)] : va_W)) sz)) (va_A (w ++ ([(o, zOut G fo)] : va_W)) sz)) (zXk [] 0) (8) (200) (va_A (w ++ ([(o, zOut G fo)] : va_W)) sz) := by
  refine vx_ofWH (cc := cL_isOpen) (maxL := 4) (ret := (some .int)) (hh := [(0, 16, 19, 13)]) (by decide) rfl ?_
  intro p e s m args below meth c s₁ B hml hv
  obtain ⟨rfl, ⟨hsz, hP, hK, hD0, hZ⟩, hX⟩ := hv
  have hx := B.exec
  have hb := B.bytes
  have hr := B.returns
  have hts := atoms_spec (ws := wsL_isOpen) B.pre
  have hown : s.vm.findClass RL = some m.cls := findClass_of_methodNamed B.named
  have hlocks := B.notSynchronized
  have htab := vx_table (x := yL_isOpen) B (hts _ (List.mem_of_getElem? (i := 0) rfl))
  subst hsz
  have hD := hD0.self (sz := s.heap.size)
  generalize hAe : va_A (w ++ ([(o, zOut G fo)] : va_W)) s.heap.size = Aw at hD hZ ⊢
  have hA : ∀ q : Nat, s.heap.size ≤ q → Aw q := fun q h => by rw [← hAe]; exact Or.inr h
  have hS : va_S Aw s.heap s.heap [] := va_S.rf
  have hl := lv_entry ([.ref (r 0), .int a1, .ref o]) (n := 4) (Nat.le_of_ble_eq_true rfl)
  rw [lg_entry_eq]
  generalize (lg_sl ([.ref (r 0), .int a1, .ref o]) ++ List.replicate (4 - (lg_sl ([.ref (r 0), .int a1, .ref o])).length) Slot.unset).toArray = ls at hl ⊢
  have hl : lv_has ls 4 [(0, .ref (r 0)), (1, .int a1), (2, .ref o)] := hl
  refine lv_aload_n hx hb dL_isOpen_0 rfl (lv_at hl 2 rfl) ?_
  refine lv_iconst (v := 0) hx hb dL_isOpen_1 (by decide) ?_
  refine lv_aload_n hx hb dL_isOpen_2 rfl (lv_at hl 0 rfl) ?_
  refine lv_iload_n hx hb dL_isOpen_3 rfl (lv_at hl 1 rfl) ?_
  refine z_xi (G := G) (w := w) (wr := ([(o, zOut G fo)] : va_W)) (vx_runV (As := [.int a1]) (rest := [.int 0, .ref o]) ⟨hx, hb, hml, hown, hts⟩ (c_X6_isOpen l hst G d r A mc g N T w K a1 s.heap.size hC hI hKk) (cwV 1 hts gL_isOpen_X6_isOpen rfl rfl rfl (by decide +kernel) ⟨Nat.le_of_ble_eq_true rfl, Nat.le_of_ble_eq_true rfl⟩) (z_wv hK (z_apL hP) (ci := 7) (q0 := 0) rfl (hC.1.1 0 (by omega)) (z_apL hP) (z_dL hD) hZ hS hA) rfl rfl hl.1 rfl (lv_room (Nat.le_of_ble_eq_true rfl)) dL_isOpen_4 ⟨Nat.le_of_eq (Nat.zero_add _), Nat.le_of_eq (Nat.zero_add _)⟩) hP hD hS hA (fun i E ce q9 Hz Lz hk hE hP hS hce hcv hcl => ?_) (fun rz w1 Hz Lz hq hP hD hS => ?_)
  · have hi : i < 1 := (List.getElem?_eq_some_iff.mp hE).1
    obtain rfl : i = 0 := by omega
    have hE : E = "java/lang/IndexOutOfBoundsException" := (Option.some.inj hE).symm
    subst hE
    refine vx_catch (own := RL) (name := "java/lang/IndexOutOfBoundsException") hown [] ⟨0, 16, 19, 13⟩ [] htab (fun _ h => absurd h List.not_mem_nil) rfl (by decide) (hts (.classLink RL 13 "java/lang/IndexOutOfBoundsException") (List.mem_of_getElem? (i := 1) rfl)) (va_Nw.use (w := .castable "java/lang/IndexOutOfBoundsException" "java/lang/IndexOutOfBoundsException") rfl (hX.1 0 (by omega))) hce hcv hcl ?_
    refine lv_astore_n (lv' := [(3, .ref q9), (0, .ref (r 0)), (1, .int a1), (2, .ref o)]) hx hb dL_isOpen_19 rfl hl (by decide) rfl (fun ls hl => ?_)
    refine lv_iconst (v := 1) hx hb dL_isOpen_20 (by decide) ?_
    exact vx_ret (z_widen (k := 8) (n := 200) (Nat.le_of_eq (Nat.zero_add _)) (Nat.le_of_eq (Nat.zero_add _)) (W.iret (v := 1) hx hb hr (fun t ht hW => ⟨⟨1, (w ++ ([(o, zOut G fo)] : va_W)), rfl, ⟨hk.symm, w, fo, rfl, fun h => absurd h (by decide), fun _ => ⟨A, mc, g, hC⟩⟩, ⟨by rw [ht]; exact hP, hD⟩⟩, hS.F ht⟩) hS.2.2 dL_isOpen_21 hlocks))
  · obtain ⟨hk0, hra, hco⟩ := hq
    subst hra
    refine z_bl hx hb dL_isOpen_7 dL_isOpen_10 dL_isOpen_11 dL_isOpen_14 ?_
    refine z_lay hx hb hK hP hD hS dL_isOpen_15 (fun Hz Lz hP hD hS => ?_)
    refine lv_goto (tgt := 22) hx hb dL_isOpen_16 (by decide) ?_
    refine lv_iconst (v := 0) hx hb dL_isOpen_22 (by decide) ?_
    exact vx_ret (z_widen (k := 8) (n := 200) (Nat.le_of_eq (Nat.zero_add _)) (Nat.le_of_eq (Nat.zero_add _)) (W.iret (v := 0) hx hb hr (fun t ht hW => ⟨⟨0, (w1 ++ ([(o, zOut G (vp_updL fo 0 (zL1 (T 3 a1.toNatClampNeg))))] : va_W)), rfl, ⟨hk0.symm, w1, _, rfl, fun _ => ⟨pk_uLs, hco⟩, fun h => absurd rfl h⟩, ⟨by rw [ht]; exact hP, hD⟩⟩, hS.F ht⟩) hS.2.2 dL_isOpen_23 hlocks))

set_option maxHeartbeats 4000000 in
set_option maxRecDepth 100000 in
theorem h_isOpenByLog (l : Launch) (hst : l.stackTraces = false) (G : zG) (d : Nat) (r A : Nat → Nat) (mc : Nat → Int32) (g : Nat → Nat → Int32) (N : Nat → Nat) (T : Nat → Nat → Int32) (w : va_W) (K : Nat) (a1 : Int32) (o : Nat) (fo : Nat → Int64) (sz : Nat) (hC : sCQ G d r A mc g N T w) (hI : sInv N T K 0) (hKk : K ≤ 511) (hLG : sLG N T) : vx_Met l yL_isOpenByLog wsL_isOpenByLog ({ frames := 8, cells := 8, slots := 200, locals := 132 }) (va_Pc [.ref (r 0), .int a1, .ref o] (zHu G d (w ++ ([(o, zOut G fo)] : va_W)) sz)) (va_Qi (fun (k : Int32) (w1 : va_W) => k = sK1 (sIx a1 8) ∧ zHq G d r o k (zL1 (T 3 a1.toNatClampNeg)) N T N T w1) (zB G (va_A (w ++ ([(o, zOut G fo)] : va_W)) sz)) (va_A (w ++ ([(o, zOut G fo)] : va_W)) sz)) (zXk [] 0) (8) (200) (va_A (w ++ ([(o, zOut G fo)] : va_W)) sz) := by
  refine vx_ofWH (cc := cL_isOpenByLog) (maxL := 4) (ret := (some .int)) (hh := [(0, 16, 19, 13)]) (by decide) rfl ?_
  intro p e s m args below meth c s₁ B hml hv
  obtain ⟨rfl, ⟨hsz, hP, hK, hD0, hZ⟩, hX⟩ := hv
  have hx := B.exec
  have hb := B.bytes
  have hr := B.returns
  have hts := atoms_spec (ws := wsL_isOpenByLog) B.pre
  have hown : s.vm.findClass RL = some m.cls := findClass_of_methodNamed B.named
  have hlocks := B.notSynchronized
  have htab := vx_table (x := yL_isOpenByLog) B (hts _ (List.mem_of_getElem? (i := 0) rfl))
  subst hsz
  have hD := hD0.self (sz := s.heap.size)
  generalize hAe : va_A (w ++ ([(o, zOut G fo)] : va_W)) s.heap.size = Aw at hD hZ ⊢
  have hA : ∀ q : Nat, s.heap.size ≤ q → Aw q := fun q h => by rw [← hAe]; exact Or.inr h
  have hS : va_S Aw s.heap s.heap [] := va_S.rf
  have hl := lv_entry ([.ref (r 0), .int a1, .ref o]) (n := 4) (Nat.le_of_ble_eq_true rfl)
  rw [lg_entry_eq]
  generalize (lg_sl ([.ref (r 0), .int a1, .ref o]) ++ List.replicate (4 - (lg_sl ([.ref (r 0), .int a1, .ref o])).length) Slot.unset).toArray = ls at hl ⊢
  have hl : lv_has ls 4 [(0, .ref (r 0)), (1, .int a1), (2, .ref o)] := hl
  refine lv_aload_n hx hb dL_isOpenByLog_0 rfl (lv_at hl 2 rfl) ?_
  refine lv_iconst (v := 0) hx hb dL_isOpenByLog_1 (by decide) ?_
  refine lv_aload_n hx hb dL_isOpenByLog_2 rfl (lv_at hl 0 rfl) ?_
  refine lv_iload_n hx hb dL_isOpenByLog_3 rfl (lv_at hl 1 rfl) ?_
  refine z_xi (G := G) (w := w) (wr := ([(o, zOut G fo)] : va_W)) (vx_runV (As := [.int a1]) (rest := [.int 0, .ref o]) ⟨hx, hb, hml, hown, hts⟩ (c_X6_isOpenByLog l hst G d r A mc g N T w K a1 s.heap.size hC hI hKk hLG) (cwV 1 hts gL_isOpenByLog_X6_isOpenByLog rfl rfl rfl (by decide +kernel) ⟨Nat.le_of_ble_eq_true rfl, Nat.le_of_ble_eq_true rfl⟩) (z_wv hK (z_apL hP) (ci := 7) (q0 := 0) rfl (hC.1.1 0 (by omega)) (z_apL hP) (z_dL hD) hZ hS hA) rfl rfl hl.1 rfl (lv_room (Nat.le_of_ble_eq_true rfl)) dL_isOpenByLog_4 ⟨Nat.le_of_eq (Nat.zero_add _), Nat.le_of_eq (Nat.zero_add _)⟩) hP hD hS hA (fun i E ce q9 Hz Lz hk hE hP hS hce hcv hcl => ?_) (fun rz w1 Hz Lz hq hP hD hS => ?_)
  · have hi : i < 1 := (List.getElem?_eq_some_iff.mp hE).1
    obtain rfl : i = 0 := by omega
    have hE : E = "java/lang/IndexOutOfBoundsException" := (Option.some.inj hE).symm
    subst hE
    refine vx_catch (own := RL) (name := "java/lang/IndexOutOfBoundsException") hown [] ⟨0, 16, 19, 13⟩ [] htab (fun _ h => absurd h List.not_mem_nil) rfl (by decide) (hts (.classLink RL 13 "java/lang/IndexOutOfBoundsException") (List.mem_of_getElem? (i := 1) rfl)) (va_Nw.use (w := .castable "java/lang/IndexOutOfBoundsException" "java/lang/IndexOutOfBoundsException") rfl (hX.1 0 (by omega))) hce hcv hcl ?_
    refine lv_astore_n (lv' := [(3, .ref q9), (0, .ref (r 0)), (1, .int a1), (2, .ref o)]) hx hb dL_isOpenByLog_19 rfl hl (by decide) rfl (fun ls hl => ?_)
    refine lv_iconst (v := 1) hx hb dL_isOpenByLog_20 (by decide) ?_
    exact vx_ret (z_widen (k := 8) (n := 200) (Nat.le_of_eq (Nat.zero_add _)) (Nat.le_of_eq (Nat.zero_add _)) (W.iret (v := 1) hx hb hr (fun t ht hW => ⟨⟨1, (w ++ ([(o, zOut G fo)] : va_W)), rfl, ⟨hk.symm, w, fo, rfl, fun h => absurd h (by decide), fun _ => ⟨A, mc, g, hC⟩⟩, ⟨by rw [ht]; exact hP, hD⟩⟩, hS.F ht⟩) hS.2.2 dL_isOpenByLog_21 hlocks))
  · obtain ⟨hk0, hra, hco⟩ := hq
    subst hra
    refine z_bl hx hb dL_isOpenByLog_7 dL_isOpenByLog_10 dL_isOpenByLog_11 dL_isOpenByLog_14 ?_
    refine z_lay hx hb hK hP hD hS dL_isOpenByLog_15 (fun Hz Lz hP hD hS => ?_)
    refine lv_goto (tgt := 22) hx hb dL_isOpenByLog_16 (by decide) ?_
    refine lv_iconst (v := 0) hx hb dL_isOpenByLog_22 (by decide) ?_
    exact vx_ret (z_widen (k := 8) (n := 200) (Nat.le_of_eq (Nat.zero_add _)) (Nat.le_of_eq (Nat.zero_add _)) (W.iret (v := 0) hx hb hr (fun t ht hW => ⟨⟨0, (w1 ++ ([(o, zOut G (vp_updL fo 0 (zL1 (T 3 a1.toNatClampNeg))))] : va_W)), rfl, ⟨hk0.symm, w1, _, rfl, fun _ => ⟨pk_uLs, hco⟩, fun h => absurd rfl h⟩, ⟨by rw [ht]; exact hP, hD⟩⟩, hS.F ht⟩) hS.2.2 dL_isOpenByLog_23 hlocks))

set_option maxHeartbeats 4000000 in
set_option maxRecDepth 100000 in
theorem h_level (l : Launch) (hst : l.stackTraces = false) (G : zG) (d : Nat) (r A : Nat → Nat) (mc : Nat → Int32) (g : Nat → Nat → Int32) (N : Nat → Nat) (T : Nat → Nat → Int32) (w : va_W) (K : Nat) (a1 : Int32) (o : Nat) (fo : Nat → Int64) (sz : Nat) (hC : sCQ G d r A mc g N T w) (hI : sInv N T K 0) (hKk : K ≤ 511) : vx_Met l yL_level wsL_level ({ frames := 8, cells := 8, slots := 200, locals := 131 }) (va_Pc [.ref (r 0), .int a1, .ref o] (zHu G d (w ++ ([(o, zOut G fo)] : va_W)) sz)) (va_Qi (fun (k : Int32) (w1 : va_W) => k = sK1 (sIx a1 3) ∧ zHq G d r o k (T 6 a1.toNatClampNeg : Int32).toInt64 N T N T w1) (zB G (va_A (w ++ ([(o, zOut G fo)] : va_W)) sz)) (va_A (w ++ ([(o, zOut G fo)] : va_W)) sz)) (zXk [] 0) (8) (200) (va_A (w ++ ([(o, zOut G fo)] : va_W)) sz) := by
  refine vx_ofWH (cc := cL_level) (maxL := 4) (ret := (some .int)) (hh := [(0, 9, 12, 13)]) (by decide) rfl ?_
  intro p e s m args below meth c s₁ B hml hv
  obtain ⟨rfl, ⟨hsz, hP, hK, hD0, hZ⟩, hX⟩ := hv
  have hx := B.exec
  have hb := B.bytes
  have hr := B.returns
  have hts := atoms_spec (ws := wsL_level) B.pre
  have hown : s.vm.findClass RL = some m.cls := findClass_of_methodNamed B.named
  have hlocks := B.notSynchronized
  have htab := vx_table (x := yL_level) B (hts _ (List.mem_of_getElem? (i := 0) rfl))
  subst hsz
  have hD := hD0.self (sz := s.heap.size)
  generalize hAe : va_A (w ++ ([(o, zOut G fo)] : va_W)) s.heap.size = Aw at hD hZ ⊢
  have hA : ∀ q : Nat, s.heap.size ≤ q → Aw q := fun q h => by rw [← hAe]; exact Or.inr h
  have hS : va_S Aw s.heap s.heap [] := va_S.rf
  have hl := lv_entry ([.ref (r 0), .int a1, .ref o]) (n := 4) (Nat.le_of_ble_eq_true rfl)
  rw [lg_entry_eq]
  generalize (lg_sl ([.ref (r 0), .int a1, .ref o]) ++ List.replicate (4 - (lg_sl ([.ref (r 0), .int a1, .ref o])).length) Slot.unset).toArray = ls at hl ⊢
  have hl : lv_has ls 4 [(0, .ref (r 0)), (1, .int a1), (2, .ref o)] := hl
  refine lv_aload_n hx hb dL_level_0 rfl (lv_at hl 2 rfl) ?_
  refine lv_iconst (v := 0) hx hb dL_level_1 (by decide) ?_
  refine lv_aload_n hx hb dL_level_2 rfl (lv_at hl 0 rfl) ?_
  refine lv_iload_n hx hb dL_level_3 rfl (lv_at hl 1 rfl) ?_
  refine z_xi (G := G) (w := w) (wr := ([(o, zOut G fo)] : va_W)) (vx_runV (As := [.int a1]) (rest := [.int 0, .ref o]) ⟨hx, hb, hml, hown, hts⟩ (c_X6_level l hst G d r A mc g N T w K a1 s.heap.size hC hI hKk) (cwV 1 hts gL_level_X6_level rfl rfl rfl (by decide +kernel) ⟨Nat.le_of_ble_eq_true rfl, Nat.le_of_ble_eq_true rfl⟩) (z_wv hK (z_apL hP) (ci := 7) (q0 := 0) rfl (hC.1.1 0 (by omega)) (z_apL hP) (z_dL hD) hZ hS hA) rfl rfl hl.1 rfl (lv_room (Nat.le_of_ble_eq_true rfl)) dL_level_4 ⟨Nat.le_of_eq (Nat.zero_add _), Nat.le_of_eq (Nat.zero_add _)⟩) hP hD hS hA (fun i E ce q9 Hz Lz hk hE hP hS hce hcv hcl => ?_) (fun rz w1 Hz Lz hq hP hD hS => ?_)
  · have hi : i < 1 := (List.getElem?_eq_some_iff.mp hE).1
    obtain rfl : i = 0 := by omega
    have hE : E = "java/lang/IndexOutOfBoundsException" := (Option.some.inj hE).symm
    subst hE
    refine vx_catch (own := RL) (name := "java/lang/IndexOutOfBoundsException") hown [] ⟨0, 9, 12, 13⟩ [] htab (fun _ h => absurd h List.not_mem_nil) rfl (by decide) (hts (.classLink RL 13 "java/lang/IndexOutOfBoundsException") (List.mem_of_getElem? (i := 1) rfl)) (va_Nw.use (w := .castable "java/lang/IndexOutOfBoundsException" "java/lang/IndexOutOfBoundsException") rfl (hX.1 0 (by omega))) hce hcv hcl ?_
    refine lv_astore_n (lv' := [(3, .ref q9), (0, .ref (r 0)), (1, .int a1), (2, .ref o)]) hx hb dL_level_12 rfl hl (by decide) rfl (fun ls hl => ?_)
    refine lv_iconst (v := 1) hx hb dL_level_13 (by decide) ?_
    exact vx_ret (z_widen (k := 8) (n := 200) (Nat.le_of_eq (Nat.zero_add _)) (Nat.le_of_eq (Nat.zero_add _)) (W.iret (v := 1) hx hb hr (fun t ht hW => ⟨⟨1, (w ++ ([(o, zOut G fo)] : va_W)), rfl, ⟨hk.symm, w, fo, rfl, fun h => absurd h (by decide), fun _ => ⟨A, mc, g, hC⟩⟩, ⟨by rw [ht]; exact hP, hD⟩⟩, hS.F ht⟩) hS.2.2 dL_level_14 hlocks))
  · obtain ⟨hk0, hra, hco⟩ := hq
    subst hra
    refine lv_i2l (v := (T 6 a1.toNatClampNeg : Int32).toInt64) hx hb dL_level_7 rfl ?_
    refine z_lay hx hb hK hP hD hS dL_level_8 (fun Hz Lz hP hD hS => ?_)
    refine lv_goto (tgt := 15) hx hb dL_level_9 (by decide) ?_
    refine lv_iconst (v := 0) hx hb dL_level_15 (by decide) ?_
    exact vx_ret (z_widen (k := 8) (n := 200) (Nat.le_of_eq (Nat.zero_add _)) (Nat.le_of_eq (Nat.zero_add _)) (W.iret (v := 0) hx hb hr (fun t ht hW => ⟨⟨0, (w1 ++ ([(o, zOut G (vp_updL fo 0 (T 6 a1.toNatClampNeg : Int32).toInt64))] : va_W)), rfl, ⟨hk0.symm, w1, _, rfl, fun _ => ⟨pk_uLs, hco⟩, fun h => absurd rfl h⟩, ⟨by rw [ht]; exact hP, hD⟩⟩, hS.F ht⟩) hS.2.2 dL_level_16 hlocks))

set_option maxHeartbeats 4000000 in
set_option maxRecDepth 100000 in
theorem h_hang (l : Launch) (hst : l.stackTraces = false) (G : zG) (d : Nat) (r A : Nat → Nat) (mc : Nat → Int32) (g : Nat → Nat → Int32) (N : Nat → Nat) (T : Nat → Nat → Int32) (w : va_W) (K : Nat) (a1 a2 : Int32) (o : Nat) (fo : Nat → Int64) (sz : Nat) (hC : sCQ G d r A mc g N T w) (hI : sInv N T K 0) (hKk : K ≤ 511) : vx_Met l yL_hang wsL_hang ({ frames := 8, cells := (8 + zmc (sK2 ((sIx a1 9) && (sIx a2 8)) ((sMay N T a1) && !decide (N 2 = 40))) (N 1) (N 1 + 1)), slots := (200 + zms (sK2 ((sIx a1 9) && (sIx a2 8)) ((sMay N T a1) && !decide (N 2 = 40))) (N 1) (N 1 + 1)), locals := 194 }) (va_Pc [.ref (r 0), .int a1, .int a2, .ref o] (zHu G d (w ++ ([(o, zOut G fo)] : va_W)) sz)) (va_Qi (fun (k : Int32) (w1 : va_W) => k = sK2 ((sIx a1 9) && (sIx a2 8)) ((sMay N T a1) && !decide (N 2 = 40)) ∧ zHq G d r o k (nI (N 2) : Int32).toInt64 N T ((nHang N T a1 a2).1) ((nHang N T a1 a2).2) w1) (zB G (va_A (w ++ ([(o, zOut G fo)] : va_W)) sz)) (va_A (w ++ ([(o, zOut G fo)] : va_W)) sz)) (zXk [] 0) ((8 + zmc (sK2 ((sIx a1 9) && (sIx a2 8)) ((sMay N T a1) && !decide (N 2 = 40))) (N 1) (N 1 + 1))) ((200 + zms (sK2 ((sIx a1 9) && (sIx a2 8)) ((sMay N T a1) && !decide (N 2 = 40))) (N 1) (N 1 + 1))) (va_A (w ++ ([(o, zOut G fo)] : va_W)) sz) := by
  refine vx_ofWH (cc := cL_hang) (maxL := 5) (ret := (some .int)) (hh := [(0, 10, 13, 13), (0, 10, 17, 17)]) (by decide) rfl ?_
  intro p e s m args below meth c s₁ B hml hv
  obtain ⟨rfl, ⟨hsz, hP, hK, hD0, hZ⟩, hX⟩ := hv
  have hx := B.exec
  have hb := B.bytes
  have hr := B.returns
  have hts := atoms_spec (ws := wsL_hang) B.pre
  have hown : s.vm.findClass RL = some m.cls := findClass_of_methodNamed B.named
  have hlocks := B.notSynchronized
  have htab := vx_table (x := yL_hang) B (hts _ (List.mem_of_getElem? (i := 0) rfl))
  subst hsz
  have hD := hD0.self (sz := s.heap.size)
  generalize hAe : va_A (w ++ ([(o, zOut G fo)] : va_W)) s.heap.size = Aw at hD hZ ⊢
  have hA : ∀ q : Nat, s.heap.size ≤ q → Aw q := fun q h => by rw [← hAe]; exact Or.inr h
  have hS : va_S Aw s.heap s.heap [] := va_S.rf
  have hl := lv_entry ([.ref (r 0), .int a1, .int a2, .ref o]) (n := 5) (Nat.le_of_ble_eq_true rfl)
  rw [lg_entry_eq]
  generalize (lg_sl ([.ref (r 0), .int a1, .int a2, .ref o]) ++ List.replicate (5 - (lg_sl ([.ref (r 0), .int a1, .int a2, .ref o])).length) Slot.unset).toArray = ls at hl ⊢
  have hl : lv_has ls 5 [(0, .ref (r 0)), (1, .int a1), (2, .int a2), (3, .ref o)] := hl
  refine lv_aload_n hx hb dL_hang_0 rfl (lv_at hl 3 rfl) ?_
  refine lv_iconst (v := 0) hx hb dL_hang_1 (by decide) ?_
  refine lv_aload_n hx hb dL_hang_2 rfl (lv_at hl 0 rfl) ?_
  refine lv_iload_n hx hb dL_hang_3 rfl (lv_at hl 1 rfl) ?_
  refine lv_iload_n hx hb dL_hang_4 rfl (lv_at hl 2 rfl) ?_
  refine z_xi (G := G) (w := w) (wr := ([(o, zOut G fo)] : va_W)) (vx_runV (As := [.int a1, .int a2]) (rest := [.int 0, .ref o]) ⟨hx, hb, hml, hown, hts⟩ (c_X6_hang l hst G d r A mc g N T w K a1 a2 s.heap.size hC hI hKk) (cwV 2 hts gL_hang_X6_hang rfl rfl rfl (by decide +kernel) ⟨Nat.le_of_ble_eq_true rfl, Nat.le_of_ble_eq_true rfl⟩) (z_wv hK (z_apL hP) (ci := 7) (q0 := 0) rfl (hC.1.1 0 (by omega)) (z_apL hP) (z_dL hD) hZ hS hA) rfl rfl hl.1 rfl (lv_room (Nat.le_of_ble_eq_true rfl)) dL_hang_5 ⟨Nat.le_of_eq (Nat.zero_add _), Nat.le_of_eq (Nat.zero_add _)⟩) hP hD hS hA (fun i E ce q9 Hz Lz hk hE hP hS hce hcv hcl => ?_) (fun rz w1 Hz Lz hq hP hD hS => ?_)
  · have hi : i < 2 := (List.getElem?_eq_some_iff.mp hE).1
    rcases (show i = 0 ∨ i = 1 by omega) with rfl | rfl
    · skip
      have hE : E = "java/lang/IndexOutOfBoundsException" := (Option.some.inj hE).symm
      subst hE
      refine vx_catch (own := RL) (name := "java/lang/IndexOutOfBoundsException") hown [] ⟨0, 10, 13, 13⟩ [⟨0, 10, 17, 17⟩] htab (fun _ h => absurd h List.not_mem_nil) rfl (by decide) (hts (.classLink RL 13 "java/lang/IndexOutOfBoundsException") (List.mem_of_getElem? (i := 1) rfl)) (va_Nw.use (w := .castable "java/lang/IndexOutOfBoundsException" "java/lang/IndexOutOfBoundsException") rfl (hX.1 0 (by omega))) hce hcv hcl ?_
      refine lv_astore (lv' := [(4, .ref q9), (0, .ref (r 0)), (1, .int a1), (2, .int a2), (3, .ref o)]) hx hb dL_hang_13 hl (by decide) rfl (fun ls hl => ?_)
      refine lv_iconst (v := 1) hx hb dL_hang_15 (by decide) ?_
      exact vx_ret (z_widen (k := (8 + zmc (sK2 ((sIx a1 9) && (sIx a2 8)) ((sMay N T a1) && !decide (N 2 = 40))) (N 1) (N 1 + 1))) (n := (200 + zms (sK2 ((sIx a1 9) && (sIx a2 8)) ((sMay N T a1) && !decide (N 2 = 40))) (N 1) (N 1 + 1))) (Nat.le_of_eq (Nat.zero_add _)) (Nat.le_of_eq (Nat.zero_add _)) (W.iret (v := 1) hx hb hr (fun t ht hW => ⟨⟨1, (w ++ ([(o, zOut G fo)] : va_W)), rfl, ⟨hk.symm, w, fo, rfl, fun h => absurd h (by decide), fun _ => ⟨A, mc, g, hC⟩⟩, ⟨by rw [ht]; exact hP, hD⟩⟩, hS.F ht⟩) hS.2.2 dL_hang_16 hlocks))
    · skip
      have hE : E = "java/lang/IllegalStateException" := (Option.some.inj hE).symm
      subst hE
      refine vx_catch (own := RL) (name := "java/lang/IllegalStateException") hown [⟨0, 10, 13, 13⟩] ⟨0, 10, 17, 17⟩ [] htab (List.forall_mem_cons.mpr ⟨Or.inr ⟨by decide, "java/lang/IndexOutOfBoundsException", hts (.classLink RL 13 "java/lang/IndexOutOfBoundsException") (List.mem_of_getElem? (i := 1) rfl), hX.2 2 0 (by omega) (by omega) (by decide)⟩, fun _ h => absurd h List.not_mem_nil⟩) rfl (by decide) (hts (.classLink RL 17 "java/lang/IllegalStateException") (List.mem_of_getElem? (i := 2) rfl)) (va_Nw.use (w := .castable "java/lang/IllegalStateException" "java/lang/IllegalStateException") rfl (hX.1 2 (by omega))) hce hcv hcl ?_
      refine lv_astore (lv' := [(4, .ref q9), (0, .ref (r 0)), (1, .int a1), (2, .int a2), (3, .ref o)]) hx hb dL_hang_17 hl (by decide) rfl (fun ls hl => ?_)
      refine lv_iconst (v := 2) hx hb dL_hang_19 (by decide) ?_
      exact vx_ret (z_widen (k := (8 + zmc (sK2 ((sIx a1 9) && (sIx a2 8)) ((sMay N T a1) && !decide (N 2 = 40))) (N 1) (N 1 + 1))) (n := (200 + zms (sK2 ((sIx a1 9) && (sIx a2 8)) ((sMay N T a1) && !decide (N 2 = 40))) (N 1) (N 1 + 1))) (Nat.le_of_eq (Nat.zero_add _)) (Nat.le_of_eq (Nat.zero_add _)) (W.iret (v := 2) hx hb hr (fun t ht hW => ⟨⟨2, (w ++ ([(o, zOut G fo)] : va_W)), rfl, ⟨hk.symm, w, fo, rfl, fun h => absurd h (by decide), fun _ => ⟨A, mc, g, hC⟩⟩, ⟨by rw [ht]; exact hP, hD⟩⟩, hS.F ht⟩) hS.2.2 dL_hang_20 hlocks))
  · obtain ⟨hk0, hra, hco⟩ := hq
    subst hra
    refine lv_i2l (v := (nI (N 2) : Int32).toInt64) hx hb dL_hang_8 rfl ?_
    refine z_lay hx hb hK hP hD hS dL_hang_9 (fun Hz Lz hP hD hS => ?_)
    refine lv_goto (tgt := 21) hx hb dL_hang_10 (by decide) ?_
    refine lv_iconst (v := 0) hx hb dL_hang_21 (by decide) ?_
    exact vx_ret (z_widen (k := (8 + zmc (sK2 ((sIx a1 9) && (sIx a2 8)) ((sMay N T a1) && !decide (N 2 = 40))) (N 1) (N 1 + 1))) (n := (200 + zms (sK2 ((sIx a1 9) && (sIx a2 8)) ((sMay N T a1) && !decide (N 2 = 40))) (N 1) (N 1 + 1))) (Nat.le_of_eq (Nat.zero_add _)) (Nat.le_of_eq (Nat.zero_add _)) (W.iret (v := 0) hx hb hr (fun t ht hW => ⟨⟨0, (w1 ++ ([(o, zOut G (vp_updL fo 0 (nI (N 2) : Int32).toInt64))] : va_W)), rfl, ⟨hk0.symm, w1, _, rfl, fun _ => ⟨pk_uLs, hco⟩, fun h => absurd rfl h⟩, ⟨by rw [ht]; exact hP, hD⟩⟩, hS.F ht⟩) hS.2.2 dL_hang_22 hlocks))

set_option maxHeartbeats 4000000 in
set_option maxRecDepth 100000 in
theorem h_takeOff (l : Launch) (hst : l.stackTraces = false) (G : zG) (d : Nat) (r A : Nat → Nat) (mc : Nat → Int32) (g : Nat → Nat → Int32) (N : Nat → Nat) (T : Nat → Nat → Int32) (w : va_W) (K : Nat) (a1 a2 : Int32) (o : Nat) (fo : Nat → Int64) (sz : Nat) (hC : sCQ G d r A mc g N T w) (hI : sInv N T K 0) (hKk : K ≤ 511) : vx_Met l yL_takeOff wsL_takeOff ({ frames := 8, cells := (8 + zmc (sK2 ((sIx a1 9) && (sIx a2 (N 2))) (((decide (T 10 a2.toNatClampNeg = 0)) && (sMay N T a1)) && (decide (a1 = T 7 a2.toNatClampNeg) || !decide (T 2 (T 7 a2.toNatClampNeg).toNatClampNeg = 0)))) (N 1) ((nTake N T a1 a2).1 1)), slots := (200 + zms (sK2 ((sIx a1 9) && (sIx a2 (N 2))) (((decide (T 10 a2.toNatClampNeg = 0)) && (sMay N T a1)) && (decide (a1 = T 7 a2.toNatClampNeg) || !decide (T 2 (T 7 a2.toNatClampNeg).toNatClampNeg = 0)))) (N 1) ((nTake N T a1 a2).1 1)), locals := 134 }) (va_Pc [.ref (r 0), .int a1, .int a2, .ref o] (zHu G d (w ++ ([(o, zOut G fo)] : va_W)) sz)) (va_Qi (fun (k : Int32) (w1 : va_W) => k = sK2 ((sIx a1 9) && (sIx a2 (N 2))) (((decide (T 10 a2.toNatClampNeg = 0)) && (sMay N T a1)) && (decide (a1 = T 7 a2.toNatClampNeg) || !decide (T 2 (T 7 a2.toNatClampNeg).toNatClampNeg = 0))) ∧ zHq G d r o k (zL1 (zb (sComes T a1 a2.toNatClampNeg))) N T ((nTake N T a1 a2).1) ((nTake N T a1 a2).2) w1) (zB G (va_A (w ++ ([(o, zOut G fo)] : va_W)) sz)) (va_A (w ++ ([(o, zOut G fo)] : va_W)) sz)) (zXk [] 0) ((8 + zmc (sK2 ((sIx a1 9) && (sIx a2 (N 2))) (((decide (T 10 a2.toNatClampNeg = 0)) && (sMay N T a1)) && (decide (a1 = T 7 a2.toNatClampNeg) || !decide (T 2 (T 7 a2.toNatClampNeg).toNatClampNeg = 0)))) (N 1) ((nTake N T a1 a2).1 1))) ((200 + zms (sK2 ((sIx a1 9) && (sIx a2 (N 2))) (((decide (T 10 a2.toNatClampNeg = 0)) && (sMay N T a1)) && (decide (a1 = T 7 a2.toNatClampNeg) || !decide (T 2 (T 7 a2.toNatClampNeg).toNatClampNeg = 0)))) (N 1) ((nTake N T a1 a2).1 1))) (va_A (w ++ ([(o, zOut G fo)] : va_W)) sz) := by
  refine vx_ofWH (cc := cL_takeOff) (maxL := 5) (ret := (some .int)) (hh := [(0, 17, 20, 13), (0, 17, 24, 17)]) (by decide) rfl ?_
  intro p e s m args below meth c s₁ B hml hv
  obtain ⟨rfl, ⟨hsz, hP, hK, hD0, hZ⟩, hX⟩ := hv
  have hx := B.exec
  have hb := B.bytes
  have hr := B.returns
  have hts := atoms_spec (ws := wsL_takeOff) B.pre
  have hown : s.vm.findClass RL = some m.cls := findClass_of_methodNamed B.named
  have hlocks := B.notSynchronized
  have htab := vx_table (x := yL_takeOff) B (hts _ (List.mem_of_getElem? (i := 0) rfl))
  subst hsz
  have hD := hD0.self (sz := s.heap.size)
  generalize hAe : va_A (w ++ ([(o, zOut G fo)] : va_W)) s.heap.size = Aw at hD hZ ⊢
  have hA : ∀ q : Nat, s.heap.size ≤ q → Aw q := fun q h => by rw [← hAe]; exact Or.inr h
  have hS : va_S Aw s.heap s.heap [] := va_S.rf
  have hl := lv_entry ([.ref (r 0), .int a1, .int a2, .ref o]) (n := 5) (Nat.le_of_ble_eq_true rfl)
  rw [lg_entry_eq]
  generalize (lg_sl ([.ref (r 0), .int a1, .int a2, .ref o]) ++ List.replicate (5 - (lg_sl ([.ref (r 0), .int a1, .int a2, .ref o])).length) Slot.unset).toArray = ls at hl ⊢
  have hl : lv_has ls 5 [(0, .ref (r 0)), (1, .int a1), (2, .int a2), (3, .ref o)] := hl
  refine lv_aload_n hx hb dL_takeOff_0 rfl (lv_at hl 3 rfl) ?_
  refine lv_iconst (v := 0) hx hb dL_takeOff_1 (by decide) ?_
  refine lv_aload_n hx hb dL_takeOff_2 rfl (lv_at hl 0 rfl) ?_
  refine lv_iload_n hx hb dL_takeOff_3 rfl (lv_at hl 1 rfl) ?_
  refine lv_iload_n hx hb dL_takeOff_4 rfl (lv_at hl 2 rfl) ?_
  refine z_xi (G := G) (w := w) (wr := ([(o, zOut G fo)] : va_W)) (vx_runV (As := [.int a1, .int a2]) (rest := [.int 0, .ref o]) ⟨hx, hb, hml, hown, hts⟩ (c_X6_takeOff l hst G d r A mc g N T w K a1 a2 s.heap.size hC hI hKk) (cwV 2 hts gL_takeOff_X6_takeOff rfl rfl rfl (by decide +kernel) ⟨Nat.le_of_ble_eq_true rfl, Nat.le_of_ble_eq_true rfl⟩) (z_wv hK (z_apL hP) (ci := 7) (q0 := 0) rfl (hC.1.1 0 (by omega)) (z_apL hP) (z_dL hD) hZ hS hA) rfl rfl hl.1 rfl (lv_room (Nat.le_of_ble_eq_true rfl)) dL_takeOff_5 ⟨Nat.le_of_eq (Nat.zero_add _), Nat.le_of_eq (Nat.zero_add _)⟩) hP hD hS hA (fun i E ce q9 Hz Lz hk hE hP hS hce hcv hcl => ?_) (fun rz w1 Hz Lz hq hP hD hS => ?_)
  · have hi : i < 2 := (List.getElem?_eq_some_iff.mp hE).1
    rcases (show i = 0 ∨ i = 1 by omega) with rfl | rfl
    · skip
      have hE : E = "java/lang/IndexOutOfBoundsException" := (Option.some.inj hE).symm
      subst hE
      refine vx_catch (own := RL) (name := "java/lang/IndexOutOfBoundsException") hown [] ⟨0, 17, 20, 13⟩ [⟨0, 17, 24, 17⟩] htab (fun _ h => absurd h List.not_mem_nil) rfl (by decide) (hts (.classLink RL 13 "java/lang/IndexOutOfBoundsException") (List.mem_of_getElem? (i := 1) rfl)) (va_Nw.use (w := .castable "java/lang/IndexOutOfBoundsException" "java/lang/IndexOutOfBoundsException") rfl (hX.1 0 (by omega))) hce hcv hcl ?_
      refine lv_astore (lv' := [(4, .ref q9), (0, .ref (r 0)), (1, .int a1), (2, .int a2), (3, .ref o)]) hx hb dL_takeOff_20 hl (by decide) rfl (fun ls hl => ?_)
      refine lv_iconst (v := 1) hx hb dL_takeOff_22 (by decide) ?_
      exact vx_ret (z_widen (k := (8 + zmc (sK2 ((sIx a1 9) && (sIx a2 (N 2))) (((decide (T 10 a2.toNatClampNeg = 0)) && (sMay N T a1)) && (decide (a1 = T 7 a2.toNatClampNeg) || !decide (T 2 (T 7 a2.toNatClampNeg).toNatClampNeg = 0)))) (N 1) ((nTake N T a1 a2).1 1))) (n := (200 + zms (sK2 ((sIx a1 9) && (sIx a2 (N 2))) (((decide (T 10 a2.toNatClampNeg = 0)) && (sMay N T a1)) && (decide (a1 = T 7 a2.toNatClampNeg) || !decide (T 2 (T 7 a2.toNatClampNeg).toNatClampNeg = 0)))) (N 1) ((nTake N T a1 a2).1 1))) (Nat.le_of_eq (Nat.zero_add _)) (Nat.le_of_eq (Nat.zero_add _)) (W.iret (v := 1) hx hb hr (fun t ht hW => ⟨⟨1, (w ++ ([(o, zOut G fo)] : va_W)), rfl, ⟨hk.symm, w, fo, rfl, fun h => absurd h (by decide), fun _ => ⟨A, mc, g, hC⟩⟩, ⟨by rw [ht]; exact hP, hD⟩⟩, hS.F ht⟩) hS.2.2 dL_takeOff_23 hlocks))
    · skip
      have hE : E = "java/lang/IllegalStateException" := (Option.some.inj hE).symm
      subst hE
      refine vx_catch (own := RL) (name := "java/lang/IllegalStateException") hown [⟨0, 17, 20, 13⟩] ⟨0, 17, 24, 17⟩ [] htab (List.forall_mem_cons.mpr ⟨Or.inr ⟨by decide, "java/lang/IndexOutOfBoundsException", hts (.classLink RL 13 "java/lang/IndexOutOfBoundsException") (List.mem_of_getElem? (i := 1) rfl), hX.2 2 0 (by omega) (by omega) (by decide)⟩, fun _ h => absurd h List.not_mem_nil⟩) rfl (by decide) (hts (.classLink RL 17 "java/lang/IllegalStateException") (List.mem_of_getElem? (i := 2) rfl)) (va_Nw.use (w := .castable "java/lang/IllegalStateException" "java/lang/IllegalStateException") rfl (hX.1 2 (by omega))) hce hcv hcl ?_
      refine lv_astore (lv' := [(4, .ref q9), (0, .ref (r 0)), (1, .int a1), (2, .int a2), (3, .ref o)]) hx hb dL_takeOff_24 hl (by decide) rfl (fun ls hl => ?_)
      refine lv_iconst (v := 2) hx hb dL_takeOff_26 (by decide) ?_
      exact vx_ret (z_widen (k := (8 + zmc (sK2 ((sIx a1 9) && (sIx a2 (N 2))) (((decide (T 10 a2.toNatClampNeg = 0)) && (sMay N T a1)) && (decide (a1 = T 7 a2.toNatClampNeg) || !decide (T 2 (T 7 a2.toNatClampNeg).toNatClampNeg = 0)))) (N 1) ((nTake N T a1 a2).1 1))) (n := (200 + zms (sK2 ((sIx a1 9) && (sIx a2 (N 2))) (((decide (T 10 a2.toNatClampNeg = 0)) && (sMay N T a1)) && (decide (a1 = T 7 a2.toNatClampNeg) || !decide (T 2 (T 7 a2.toNatClampNeg).toNatClampNeg = 0)))) (N 1) ((nTake N T a1 a2).1 1))) (Nat.le_of_eq (Nat.zero_add _)) (Nat.le_of_eq (Nat.zero_add _)) (W.iret (v := 2) hx hb hr (fun t ht hW => ⟨⟨2, (w ++ ([(o, zOut G fo)] : va_W)), rfl, ⟨hk.symm, w, fo, rfl, fun h => absurd h (by decide), fun _ => ⟨A, mc, g, hC⟩⟩, ⟨by rw [ht]; exact hP, hD⟩⟩, hS.F ht⟩) hS.2.2 dL_takeOff_27 hlocks))
  · obtain ⟨hk0, hra, hco⟩ := hq
    subst hra
    refine z_bl hx hb dL_takeOff_8 dL_takeOff_11 dL_takeOff_12 dL_takeOff_15 ?_
    refine z_lay hx hb hK hP hD hS dL_takeOff_16 (fun Hz Lz hP hD hS => ?_)
    refine lv_goto (tgt := 28) hx hb dL_takeOff_17 (by decide) ?_
    refine lv_iconst (v := 0) hx hb dL_takeOff_28 (by decide) ?_
    exact vx_ret (z_widen (k := (8 + zmc (sK2 ((sIx a1 9) && (sIx a2 (N 2))) (((decide (T 10 a2.toNatClampNeg = 0)) && (sMay N T a1)) && (decide (a1 = T 7 a2.toNatClampNeg) || !decide (T 2 (T 7 a2.toNatClampNeg).toNatClampNeg = 0)))) (N 1) ((nTake N T a1 a2).1 1))) (n := (200 + zms (sK2 ((sIx a1 9) && (sIx a2 (N 2))) (((decide (T 10 a2.toNatClampNeg = 0)) && (sMay N T a1)) && (decide (a1 = T 7 a2.toNatClampNeg) || !decide (T 2 (T 7 a2.toNatClampNeg).toNatClampNeg = 0)))) (N 1) ((nTake N T a1 a2).1 1))) (Nat.le_of_eq (Nat.zero_add _)) (Nat.le_of_eq (Nat.zero_add _)) (W.iret (v := 0) hx hb hr (fun t ht hW => ⟨⟨0, (w1 ++ ([(o, zOut G (vp_updL fo 0 (zL1 (zb (sComes T a1 a2.toNatClampNeg)))))] : va_W)), rfl, ⟨hk0.symm, w1, _, rfl, fun _ => ⟨pk_uLs, hco⟩, fun h => absurd rfl h⟩, ⟨by rw [ht]; exact hP, hD⟩⟩, hS.F ht⟩) hS.2.2 dL_takeOff_29 hlocks))

set_option maxHeartbeats 4000000 in
set_option maxRecDepth 100000 in
theorem h_valveOf (l : Launch) (hst : l.stackTraces = false) (G : zG) (d : Nat) (r A : Nat → Nat) (mc : Nat → Int32) (g : Nat → Nat → Int32) (N : Nat → Nat) (T : Nat → Nat → Int32) (w : va_W) (K : Nat) (a1 : Int32) (o : Nat) (fo : Nat → Int64) (sz : Nat) (hC : sCQ G d r A mc g N T w) (hI : sInv N T K 0) (hKk : K ≤ 511) : vx_Met l yL_valveOf wsL_valveOf ({ frames := 8, cells := 8, slots := 200, locals := 133 }) (va_Pc [.ref (r 0), .int a1, .ref o] (zHu G d (w ++ ([(o, zOut G fo)] : va_W)) sz)) (va_Qi (fun (k : Int32) (w1 : va_W) => k = sK1 (sIx a1 (N 2)) ∧ zHq G d r o k (rValveOf T a1 : Int32).toInt64 N T N T w1) (zB G (va_A (w ++ ([(o, zOut G fo)] : va_W)) sz)) (va_A (w ++ ([(o, zOut G fo)] : va_W)) sz)) (zXk [] 0) (8) (200) (va_A (w ++ ([(o, zOut G fo)] : va_W)) sz) := by
  refine vx_ofWH (cc := cL_valveOf) (maxL := 4) (ret := (some .int)) (hh := [(0, 9, 12, 13)]) (by decide) rfl ?_
  intro p e s m args below meth c s₁ B hml hv
  obtain ⟨rfl, ⟨hsz, hP, hK, hD0, hZ⟩, hX⟩ := hv
  have hx := B.exec
  have hb := B.bytes
  have hr := B.returns
  have hts := atoms_spec (ws := wsL_valveOf) B.pre
  have hown : s.vm.findClass RL = some m.cls := findClass_of_methodNamed B.named
  have hlocks := B.notSynchronized
  have htab := vx_table (x := yL_valveOf) B (hts _ (List.mem_of_getElem? (i := 0) rfl))
  subst hsz
  have hD := hD0.self (sz := s.heap.size)
  generalize hAe : va_A (w ++ ([(o, zOut G fo)] : va_W)) s.heap.size = Aw at hD hZ ⊢
  have hA : ∀ q : Nat, s.heap.size ≤ q → Aw q := fun q h => by rw [← hAe]; exact Or.inr h
  have hS : va_S Aw s.heap s.heap [] := va_S.rf
  have hl := lv_entry ([.ref (r 0), .int a1, .ref o]) (n := 4) (Nat.le_of_ble_eq_true rfl)
  rw [lg_entry_eq]
  generalize (lg_sl ([.ref (r 0), .int a1, .ref o]) ++ List.replicate (4 - (lg_sl ([.ref (r 0), .int a1, .ref o])).length) Slot.unset).toArray = ls at hl ⊢
  have hl : lv_has ls 4 [(0, .ref (r 0)), (1, .int a1), (2, .ref o)] := hl
  refine lv_aload_n hx hb dL_valveOf_0 rfl (lv_at hl 2 rfl) ?_
  refine lv_iconst (v := 0) hx hb dL_valveOf_1 (by decide) ?_
  refine lv_aload_n hx hb dL_valveOf_2 rfl (lv_at hl 0 rfl) ?_
  refine lv_iload_n hx hb dL_valveOf_3 rfl (lv_at hl 1 rfl) ?_
  refine z_xi (G := G) (w := w) (wr := ([(o, zOut G fo)] : va_W)) (vx_runV (As := [.int a1]) (rest := [.int 0, .ref o]) ⟨hx, hb, hml, hown, hts⟩ (c_X6_valveOf l hst G d r A mc g N T w K a1 s.heap.size hC hI hKk) (cwV 1 hts gL_valveOf_X6_valveOf rfl rfl rfl (by decide +kernel) ⟨Nat.le_of_ble_eq_true rfl, Nat.le_of_ble_eq_true rfl⟩) (z_wv hK (z_apL hP) (ci := 7) (q0 := 0) rfl (hC.1.1 0 (by omega)) (z_apL hP) (z_dL hD) hZ hS hA) rfl rfl hl.1 rfl (lv_room (Nat.le_of_ble_eq_true rfl)) dL_valveOf_4 ⟨Nat.le_of_eq (Nat.zero_add _), Nat.le_of_eq (Nat.zero_add _)⟩) hP hD hS hA (fun i E ce q9 Hz Lz hk hE hP hS hce hcv hcl => ?_) (fun rz w1 Hz Lz hq hP hD hS => ?_)
  · have hi : i < 1 := (List.getElem?_eq_some_iff.mp hE).1
    obtain rfl : i = 0 := by omega
    have hE : E = "java/lang/IndexOutOfBoundsException" := (Option.some.inj hE).symm
    subst hE
    refine vx_catch (own := RL) (name := "java/lang/IndexOutOfBoundsException") hown [] ⟨0, 9, 12, 13⟩ [] htab (fun _ h => absurd h List.not_mem_nil) rfl (by decide) (hts (.classLink RL 13 "java/lang/IndexOutOfBoundsException") (List.mem_of_getElem? (i := 1) rfl)) (va_Nw.use (w := .castable "java/lang/IndexOutOfBoundsException" "java/lang/IndexOutOfBoundsException") rfl (hX.1 0 (by omega))) hce hcv hcl ?_
    refine lv_astore_n (lv' := [(3, .ref q9), (0, .ref (r 0)), (1, .int a1), (2, .ref o)]) hx hb dL_valveOf_12 rfl hl (by decide) rfl (fun ls hl => ?_)
    refine lv_iconst (v := 1) hx hb dL_valveOf_13 (by decide) ?_
    exact vx_ret (z_widen (k := 8) (n := 200) (Nat.le_of_eq (Nat.zero_add _)) (Nat.le_of_eq (Nat.zero_add _)) (W.iret (v := 1) hx hb hr (fun t ht hW => ⟨⟨1, (w ++ ([(o, zOut G fo)] : va_W)), rfl, ⟨hk.symm, w, fo, rfl, fun h => absurd h (by decide), fun _ => ⟨A, mc, g, hC⟩⟩, ⟨by rw [ht]; exact hP, hD⟩⟩, hS.F ht⟩) hS.2.2 dL_valveOf_14 hlocks))
  · obtain ⟨hk0, hra, hco⟩ := hq
    subst hra
    refine lv_i2l (v := (rValveOf T a1 : Int32).toInt64) hx hb dL_valveOf_7 rfl ?_
    refine z_lay hx hb hK hP hD hS dL_valveOf_8 (fun Hz Lz hP hD hS => ?_)
    refine lv_goto (tgt := 15) hx hb dL_valveOf_9 (by decide) ?_
    refine lv_iconst (v := 0) hx hb dL_valveOf_15 (by decide) ?_
    exact vx_ret (z_widen (k := 8) (n := 200) (Nat.le_of_eq (Nat.zero_add _)) (Nat.le_of_eq (Nat.zero_add _)) (W.iret (v := 0) hx hb hr (fun t ht hW => ⟨⟨0, (w1 ++ ([(o, zOut G (vp_updL fo 0 (rValveOf T a1 : Int32).toInt64))] : va_W)), rfl, ⟨hk0.symm, w1, _, rfl, fun _ => ⟨pk_uLs, hco⟩, fun h => absurd rfl h⟩, ⟨by rw [ht]; exact hP, hD⟩⟩, hS.F ht⟩) hS.2.2 dL_valveOf_16 hlocks))

set_option maxHeartbeats 4000000 in
set_option maxRecDepth 100000 in
theorem h_ownerOf (l : Launch) (hst : l.stackTraces = false) (G : zG) (d : Nat) (r A : Nat → Nat) (mc : Nat → Int32) (g : Nat → Nat → Int32) (N : Nat → Nat) (T : Nat → Nat → Int32) (w : va_W) (K : Nat) (a1 : Int32) (o : Nat) (fo : Nat → Int64) (sz : Nat) (hC : sCQ G d r A mc g N T w) (hI : sInv N T K 0) (hKk : K ≤ 511) : vx_Met l yL_ownerOf wsL_ownerOf ({ frames := 8, cells := 8, slots := 200, locals := 132 }) (va_Pc [.ref (r 0), .int a1, .ref o] (zHu G d (w ++ ([(o, zOut G fo)] : va_W)) sz)) (va_Qi (fun (k : Int32) (w1 : va_W) => k = sK1 (sIx a1 (N 2)) ∧ zHq G d r o k (T 7 a1.toNatClampNeg : Int32).toInt64 N T N T w1) (zB G (va_A (w ++ ([(o, zOut G fo)] : va_W)) sz)) (va_A (w ++ ([(o, zOut G fo)] : va_W)) sz)) (zXk [] 0) (8) (200) (va_A (w ++ ([(o, zOut G fo)] : va_W)) sz) := by
  refine vx_ofWH (cc := cL_ownerOf) (maxL := 4) (ret := (some .int)) (hh := [(0, 9, 12, 13)]) (by decide) rfl ?_
  intro p e s m args below meth c s₁ B hml hv
  obtain ⟨rfl, ⟨hsz, hP, hK, hD0, hZ⟩, hX⟩ := hv
  have hx := B.exec
  have hb := B.bytes
  have hr := B.returns
  have hts := atoms_spec (ws := wsL_ownerOf) B.pre
  have hown : s.vm.findClass RL = some m.cls := findClass_of_methodNamed B.named
  have hlocks := B.notSynchronized
  have htab := vx_table (x := yL_ownerOf) B (hts _ (List.mem_of_getElem? (i := 0) rfl))
  subst hsz
  have hD := hD0.self (sz := s.heap.size)
  generalize hAe : va_A (w ++ ([(o, zOut G fo)] : va_W)) s.heap.size = Aw at hD hZ ⊢
  have hA : ∀ q : Nat, s.heap.size ≤ q → Aw q := fun q h => by rw [← hAe]; exact Or.inr h
  have hS : va_S Aw s.heap s.heap [] := va_S.rf
  have hl := lv_entry ([.ref (r 0), .int a1, .ref o]) (n := 4) (Nat.le_of_ble_eq_true rfl)
  rw [lg_entry_eq]
  generalize (lg_sl ([.ref (r 0), .int a1, .ref o]) ++ List.replicate (4 - (lg_sl ([.ref (r 0), .int a1, .ref o])).length) Slot.unset).toArray = ls at hl ⊢
  have hl : lv_has ls 4 [(0, .ref (r 0)), (1, .int a1), (2, .ref o)] := hl
  refine lv_aload_n hx hb dL_ownerOf_0 rfl (lv_at hl 2 rfl) ?_
  refine lv_iconst (v := 0) hx hb dL_ownerOf_1 (by decide) ?_
  refine lv_aload_n hx hb dL_ownerOf_2 rfl (lv_at hl 0 rfl) ?_
  refine lv_iload_n hx hb dL_ownerOf_3 rfl (lv_at hl 1 rfl) ?_
  refine z_xi (G := G) (w := w) (wr := ([(o, zOut G fo)] : va_W)) (vx_runV (As := [.int a1]) (rest := [.int 0, .ref o]) ⟨hx, hb, hml, hown, hts⟩ (c_X6_ownerOf l hst G d r A mc g N T w K a1 s.heap.size hC hI hKk) (cwV 1 hts gL_ownerOf_X6_ownerOf rfl rfl rfl (by decide +kernel) ⟨Nat.le_of_ble_eq_true rfl, Nat.le_of_ble_eq_true rfl⟩) (z_wv hK (z_apL hP) (ci := 7) (q0 := 0) rfl (hC.1.1 0 (by omega)) (z_apL hP) (z_dL hD) hZ hS hA) rfl rfl hl.1 rfl (lv_room (Nat.le_of_ble_eq_true rfl)) dL_ownerOf_4 ⟨Nat.le_of_eq (Nat.zero_add _), Nat.le_of_eq (Nat.zero_add _)⟩) hP hD hS hA (fun i E ce q9 Hz Lz hk hE hP hS hce hcv hcl => ?_) (fun rz w1 Hz Lz hq hP hD hS => ?_)
  · have hi : i < 1 := (List.getElem?_eq_some_iff.mp hE).1
    obtain rfl : i = 0 := by omega
    have hE : E = "java/lang/IndexOutOfBoundsException" := (Option.some.inj hE).symm
    subst hE
    refine vx_catch (own := RL) (name := "java/lang/IndexOutOfBoundsException") hown [] ⟨0, 9, 12, 13⟩ [] htab (fun _ h => absurd h List.not_mem_nil) rfl (by decide) (hts (.classLink RL 13 "java/lang/IndexOutOfBoundsException") (List.mem_of_getElem? (i := 1) rfl)) (va_Nw.use (w := .castable "java/lang/IndexOutOfBoundsException" "java/lang/IndexOutOfBoundsException") rfl (hX.1 0 (by omega))) hce hcv hcl ?_
    refine lv_astore_n (lv' := [(3, .ref q9), (0, .ref (r 0)), (1, .int a1), (2, .ref o)]) hx hb dL_ownerOf_12 rfl hl (by decide) rfl (fun ls hl => ?_)
    refine lv_iconst (v := 1) hx hb dL_ownerOf_13 (by decide) ?_
    exact vx_ret (z_widen (k := 8) (n := 200) (Nat.le_of_eq (Nat.zero_add _)) (Nat.le_of_eq (Nat.zero_add _)) (W.iret (v := 1) hx hb hr (fun t ht hW => ⟨⟨1, (w ++ ([(o, zOut G fo)] : va_W)), rfl, ⟨hk.symm, w, fo, rfl, fun h => absurd h (by decide), fun _ => ⟨A, mc, g, hC⟩⟩, ⟨by rw [ht]; exact hP, hD⟩⟩, hS.F ht⟩) hS.2.2 dL_ownerOf_14 hlocks))
  · obtain ⟨hk0, hra, hco⟩ := hq
    subst hra
    refine lv_i2l (v := (T 7 a1.toNatClampNeg : Int32).toInt64) hx hb dL_ownerOf_7 rfl ?_
    refine z_lay hx hb hK hP hD hS dL_ownerOf_8 (fun Hz Lz hP hD hS => ?_)
    refine lv_goto (tgt := 15) hx hb dL_ownerOf_9 (by decide) ?_
    refine lv_iconst (v := 0) hx hb dL_ownerOf_15 (by decide) ?_
    exact vx_ret (z_widen (k := 8) (n := 200) (Nat.le_of_eq (Nat.zero_add _)) (Nat.le_of_eq (Nat.zero_add _)) (W.iret (v := 0) hx hb hr (fun t ht hW => ⟨⟨0, (w1 ++ ([(o, zOut G (vp_updL fo 0 (T 7 a1.toNatClampNeg : Int32).toInt64))] : va_W)), rfl, ⟨hk0.symm, w1, _, rfl, fun _ => ⟨pk_uLs, hco⟩, fun h => absurd rfl h⟩, ⟨by rw [ht]; exact hP, hD⟩⟩, hS.F ht⟩) hS.2.2 dL_ownerOf_16 hlocks))

set_option maxHeartbeats 4000000 in
set_option maxRecDepth 100000 in
theorem h_tagsByLog (l : Launch) (hst : l.stackTraces = false) (G : zG) (d : Nat) (r A : Nat → Nat) (mc : Nat → Int32) (g : Nat → Nat → Int32) (N : Nat → Nat) (T : Nat → Nat → Int32) (w : va_W) (K : Nat) (a1 : Int32) (o : Nat) (fo : Nat → Int64) (sz : Nat) (hC : sCQ G d r A mc g N T w) (hI : sInv N T K 0) (hKk : K ≤ 511) (hLG : sLG N T) : vx_Met l yL_tagsByLog wsL_tagsByLog ({ frames := 8, cells := 8, slots := 200, locals := 134 }) (va_Pc [.ref (r 0), .int a1, .ref o] (zHu G d (w ++ ([(o, zOut G fo)] : va_W)) sz)) (va_Qi (fun (k : Int32) (w1 : va_W) => k = sK1 (sIx a1 8) ∧ zHq G d r o k (nI (sOn N T a1) : Int32).toInt64 N T N T w1) (zB G (va_A (w ++ ([(o, zOut G fo)] : va_W)) sz)) (va_A (w ++ ([(o, zOut G fo)] : va_W)) sz)) (zXk [] 0) (8) (200) (va_A (w ++ ([(o, zOut G fo)] : va_W)) sz) := by
  refine vx_ofWH (cc := cL_tagsByLog) (maxL := 4) (ret := (some .int)) (hh := [(0, 9, 12, 13)]) (by decide) rfl ?_
  intro p e s m args below meth c s₁ B hml hv
  obtain ⟨rfl, ⟨hsz, hP, hK, hD0, hZ⟩, hX⟩ := hv
  have hx := B.exec
  have hb := B.bytes
  have hr := B.returns
  have hts := atoms_spec (ws := wsL_tagsByLog) B.pre
  have hown : s.vm.findClass RL = some m.cls := findClass_of_methodNamed B.named
  have hlocks := B.notSynchronized
  have htab := vx_table (x := yL_tagsByLog) B (hts _ (List.mem_of_getElem? (i := 0) rfl))
  subst hsz
  have hD := hD0.self (sz := s.heap.size)
  generalize hAe : va_A (w ++ ([(o, zOut G fo)] : va_W)) s.heap.size = Aw at hD hZ ⊢
  have hA : ∀ q : Nat, s.heap.size ≤ q → Aw q := fun q h => by rw [← hAe]; exact Or.inr h
  have hS : va_S Aw s.heap s.heap [] := va_S.rf
  have hl := lv_entry ([.ref (r 0), .int a1, .ref o]) (n := 4) (Nat.le_of_ble_eq_true rfl)
  rw [lg_entry_eq]
  generalize (lg_sl ([.ref (r 0), .int a1, .ref o]) ++ List.replicate (4 - (lg_sl ([.ref (r 0), .int a1, .ref o])).length) Slot.unset).toArray = ls at hl ⊢
  have hl : lv_has ls 4 [(0, .ref (r 0)), (1, .int a1), (2, .ref o)] := hl
  refine lv_aload_n hx hb dL_tagsByLog_0 rfl (lv_at hl 2 rfl) ?_
  refine lv_iconst (v := 0) hx hb dL_tagsByLog_1 (by decide) ?_
  refine lv_aload_n hx hb dL_tagsByLog_2 rfl (lv_at hl 0 rfl) ?_
  refine lv_iload_n hx hb dL_tagsByLog_3 rfl (lv_at hl 1 rfl) ?_
  refine z_xi (G := G) (w := w) (wr := ([(o, zOut G fo)] : va_W)) (vx_runV (As := [.int a1]) (rest := [.int 0, .ref o]) ⟨hx, hb, hml, hown, hts⟩ (c_X6_tagsByLog l hst G d r A mc g N T w K a1 s.heap.size hC hI hKk hLG) (cwV 1 hts gL_tagsByLog_X6_tagsByLog rfl rfl rfl (by decide +kernel) ⟨Nat.le_of_ble_eq_true rfl, Nat.le_of_ble_eq_true rfl⟩) (z_wv hK (z_apL hP) (ci := 7) (q0 := 0) rfl (hC.1.1 0 (by omega)) (z_apL hP) (z_dL hD) hZ hS hA) rfl rfl hl.1 rfl (lv_room (Nat.le_of_ble_eq_true rfl)) dL_tagsByLog_4 ⟨Nat.le_of_eq (Nat.zero_add _), Nat.le_of_eq (Nat.zero_add _)⟩) hP hD hS hA (fun i E ce q9 Hz Lz hk hE hP hS hce hcv hcl => ?_) (fun rz w1 Hz Lz hq hP hD hS => ?_)
  · have hi : i < 1 := (List.getElem?_eq_some_iff.mp hE).1
    obtain rfl : i = 0 := by omega
    have hE : E = "java/lang/IndexOutOfBoundsException" := (Option.some.inj hE).symm
    subst hE
    refine vx_catch (own := RL) (name := "java/lang/IndexOutOfBoundsException") hown [] ⟨0, 9, 12, 13⟩ [] htab (fun _ h => absurd h List.not_mem_nil) rfl (by decide) (hts (.classLink RL 13 "java/lang/IndexOutOfBoundsException") (List.mem_of_getElem? (i := 1) rfl)) (va_Nw.use (w := .castable "java/lang/IndexOutOfBoundsException" "java/lang/IndexOutOfBoundsException") rfl (hX.1 0 (by omega))) hce hcv hcl ?_
    refine lv_astore_n (lv' := [(3, .ref q9), (0, .ref (r 0)), (1, .int a1), (2, .ref o)]) hx hb dL_tagsByLog_12 rfl hl (by decide) rfl (fun ls hl => ?_)
    refine lv_iconst (v := 1) hx hb dL_tagsByLog_13 (by decide) ?_
    exact vx_ret (z_widen (k := 8) (n := 200) (Nat.le_of_eq (Nat.zero_add _)) (Nat.le_of_eq (Nat.zero_add _)) (W.iret (v := 1) hx hb hr (fun t ht hW => ⟨⟨1, (w ++ ([(o, zOut G fo)] : va_W)), rfl, ⟨hk.symm, w, fo, rfl, fun h => absurd h (by decide), fun _ => ⟨A, mc, g, hC⟩⟩, ⟨by rw [ht]; exact hP, hD⟩⟩, hS.F ht⟩) hS.2.2 dL_tagsByLog_14 hlocks))
  · obtain ⟨hk0, hra, hco⟩ := hq
    subst hra
    refine lv_i2l (v := (nI (sOn N T a1) : Int32).toInt64) hx hb dL_tagsByLog_7 rfl ?_
    refine z_lay hx hb hK hP hD hS dL_tagsByLog_8 (fun Hz Lz hP hD hS => ?_)
    refine lv_goto (tgt := 15) hx hb dL_tagsByLog_9 (by decide) ?_
    refine lv_iconst (v := 0) hx hb dL_tagsByLog_15 (by decide) ?_
    exact vx_ret (z_widen (k := 8) (n := 200) (Nat.le_of_eq (Nat.zero_add _)) (Nat.le_of_eq (Nat.zero_add _)) (W.iret (v := 0) hx hb hr (fun t ht hW => ⟨⟨0, (w1 ++ ([(o, zOut G (vp_updL fo 0 (nI (sOn N T a1) : Int32).toInt64))] : va_W)), rfl, ⟨hk0.symm, w1, _, rfl, fun _ => ⟨pk_uLs, hco⟩, fun h => absurd rfl h⟩, ⟨by rw [ht]; exact hP, hD⟩⟩, hS.F ht⟩) hS.2.2 dL_tagsByLog_16 hlocks))

set_option maxHeartbeats 4000000 in
set_option maxRecDepth 100000 in
theorem h_read (l : Launch) (hst : l.stackTraces = false) (G : zG) (d : Nat) (r A : Nat → Nat) (mc : Nat → Int32) (g : Nat → Nat → Int32) (N : Nat → Nat) (T : Nat → Nat → Int32) (w : va_W) (K : Nat) (a1 : Int32) (o : Nat) (fo : Nat → Int64) (sz : Nat) (hC : sCQ G d r A mc g N T w) (hI : sInv N T K 0) (hKk : K ≤ 511) : vx_Met l yL_read wsL_read ({ frames := 8, cells := 8, slots := 200, locals := 133 }) (va_Pc [.ref (r 0), .int a1, .ref o] (zHu G d (w ++ ([(o, zOut G fo)] : va_W)) sz)) (va_Qi (fun (k : Int32) (w1 : va_W) => k = sK2 (sIx a1 9) (decide (T 2 a1.toNatClampNeg = 0)) ∧ zHq G d r o k (nI (N 1) - T 1 a1.toNatClampNeg : Int32).toInt64 N T N ((nRead N T a1).2) w1) (zB G (va_A (w ++ ([(o, zOut G fo)] : va_W)) sz)) (va_A (w ++ ([(o, zOut G fo)] : va_W)) sz)) (zXk [] 0) (8) (200) (va_A (w ++ ([(o, zOut G fo)] : va_W)) sz) := by
  refine vx_ofWH (cc := cL_read) (maxL := 4) (ret := (some .int)) (hh := [(0, 9, 12, 13), (0, 9, 15, 17)]) (by decide) rfl ?_
  intro p e s m args below meth c s₁ B hml hv
  obtain ⟨rfl, ⟨hsz, hP, hK, hD0, hZ⟩, hX⟩ := hv
  have hx := B.exec
  have hb := B.bytes
  have hr := B.returns
  have hts := atoms_spec (ws := wsL_read) B.pre
  have hown : s.vm.findClass RL = some m.cls := findClass_of_methodNamed B.named
  have hlocks := B.notSynchronized
  have htab := vx_table (x := yL_read) B (hts _ (List.mem_of_getElem? (i := 0) rfl))
  subst hsz
  have hD := hD0.self (sz := s.heap.size)
  generalize hAe : va_A (w ++ ([(o, zOut G fo)] : va_W)) s.heap.size = Aw at hD hZ ⊢
  have hA : ∀ q : Nat, s.heap.size ≤ q → Aw q := fun q h => by rw [← hAe]; exact Or.inr h
  have hS : va_S Aw s.heap s.heap [] := va_S.rf
  have hl := lv_entry ([.ref (r 0), .int a1, .ref o]) (n := 4) (Nat.le_of_ble_eq_true rfl)
  rw [lg_entry_eq]
  generalize (lg_sl ([.ref (r 0), .int a1, .ref o]) ++ List.replicate (4 - (lg_sl ([.ref (r 0), .int a1, .ref o])).length) Slot.unset).toArray = ls at hl ⊢
  have hl : lv_has ls 4 [(0, .ref (r 0)), (1, .int a1), (2, .ref o)] := hl
  refine lv_aload_n hx hb dL_read_0 rfl (lv_at hl 2 rfl) ?_
  refine lv_iconst (v := 0) hx hb dL_read_1 (by decide) ?_
  refine lv_aload_n hx hb dL_read_2 rfl (lv_at hl 0 rfl) ?_
  refine lv_iload_n hx hb dL_read_3 rfl (lv_at hl 1 rfl) ?_
  refine z_xi (G := G) (w := w) (wr := ([(o, zOut G fo)] : va_W)) (vx_runV (As := [.int a1]) (rest := [.int 0, .ref o]) ⟨hx, hb, hml, hown, hts⟩ (c_X6_read l hst G d r A mc g N T w K a1 s.heap.size hC hI hKk) (cwV 1 hts gL_read_X6_read rfl rfl rfl (by decide +kernel) ⟨Nat.le_of_ble_eq_true rfl, Nat.le_of_ble_eq_true rfl⟩) (z_wv hK (z_apL hP) (ci := 7) (q0 := 0) rfl (hC.1.1 0 (by omega)) (z_apL hP) (z_dL hD) hZ hS hA) rfl rfl hl.1 rfl (lv_room (Nat.le_of_ble_eq_true rfl)) dL_read_4 ⟨Nat.le_of_eq (Nat.zero_add _), Nat.le_of_eq (Nat.zero_add _)⟩) hP hD hS hA (fun i E ce q9 Hz Lz hk hE hP hS hce hcv hcl => ?_) (fun rz w1 Hz Lz hq hP hD hS => ?_)
  · have hi : i < 2 := (List.getElem?_eq_some_iff.mp hE).1
    rcases (show i = 0 ∨ i = 1 by omega) with rfl | rfl
    · skip
      have hE : E = "java/lang/IndexOutOfBoundsException" := (Option.some.inj hE).symm
      subst hE
      refine vx_catch (own := RL) (name := "java/lang/IndexOutOfBoundsException") hown [] ⟨0, 9, 12, 13⟩ [⟨0, 9, 15, 17⟩] htab (fun _ h => absurd h List.not_mem_nil) rfl (by decide) (hts (.classLink RL 13 "java/lang/IndexOutOfBoundsException") (List.mem_of_getElem? (i := 1) rfl)) (va_Nw.use (w := .castable "java/lang/IndexOutOfBoundsException" "java/lang/IndexOutOfBoundsException") rfl (hX.1 0 (by omega))) hce hcv hcl ?_
      refine lv_astore_n (lv' := [(3, .ref q9), (0, .ref (r 0)), (1, .int a1), (2, .ref o)]) hx hb dL_read_12 rfl hl (by decide) rfl (fun ls hl => ?_)
      refine lv_iconst (v := 1) hx hb dL_read_13 (by decide) ?_
      exact vx_ret (z_widen (k := 8) (n := 200) (Nat.le_of_eq (Nat.zero_add _)) (Nat.le_of_eq (Nat.zero_add _)) (W.iret (v := 1) hx hb hr (fun t ht hW => ⟨⟨1, (w ++ ([(o, zOut G fo)] : va_W)), rfl, ⟨hk.symm, w, fo, rfl, fun h => absurd h (by decide), fun _ => ⟨A, mc, g, hC⟩⟩, ⟨by rw [ht]; exact hP, hD⟩⟩, hS.F ht⟩) hS.2.2 dL_read_14 hlocks))
    · skip
      have hE : E = "java/lang/IllegalStateException" := (Option.some.inj hE).symm
      subst hE
      refine vx_catch (own := RL) (name := "java/lang/IllegalStateException") hown [⟨0, 9, 12, 13⟩] ⟨0, 9, 15, 17⟩ [] htab (List.forall_mem_cons.mpr ⟨Or.inr ⟨by decide, "java/lang/IndexOutOfBoundsException", hts (.classLink RL 13 "java/lang/IndexOutOfBoundsException") (List.mem_of_getElem? (i := 1) rfl), hX.2 2 0 (by omega) (by omega) (by decide)⟩, fun _ h => absurd h List.not_mem_nil⟩) rfl (by decide) (hts (.classLink RL 17 "java/lang/IllegalStateException") (List.mem_of_getElem? (i := 2) rfl)) (va_Nw.use (w := .castable "java/lang/IllegalStateException" "java/lang/IllegalStateException") rfl (hX.1 2 (by omega))) hce hcv hcl ?_
      refine lv_astore_n (lv' := [(3, .ref q9), (0, .ref (r 0)), (1, .int a1), (2, .ref o)]) hx hb dL_read_15 rfl hl (by decide) rfl (fun ls hl => ?_)
      refine lv_iconst (v := 2) hx hb dL_read_16 (by decide) ?_
      exact vx_ret (z_widen (k := 8) (n := 200) (Nat.le_of_eq (Nat.zero_add _)) (Nat.le_of_eq (Nat.zero_add _)) (W.iret (v := 2) hx hb hr (fun t ht hW => ⟨⟨2, (w ++ ([(o, zOut G fo)] : va_W)), rfl, ⟨hk.symm, w, fo, rfl, fun h => absurd h (by decide), fun _ => ⟨A, mc, g, hC⟩⟩, ⟨by rw [ht]; exact hP, hD⟩⟩, hS.F ht⟩) hS.2.2 dL_read_17 hlocks))
  · obtain ⟨hk0, hra, hco⟩ := hq
    subst hra
    refine lv_i2l (v := (nI (N 1) - T 1 a1.toNatClampNeg : Int32).toInt64) hx hb dL_read_7 rfl ?_
    refine z_lay hx hb hK hP hD hS dL_read_8 (fun Hz Lz hP hD hS => ?_)
    refine lv_goto (tgt := 18) hx hb dL_read_9 (by decide) ?_
    refine lv_iconst (v := 0) hx hb dL_read_18 (by decide) ?_
    exact vx_ret (z_widen (k := 8) (n := 200) (Nat.le_of_eq (Nat.zero_add _)) (Nat.le_of_eq (Nat.zero_add _)) (W.iret (v := 0) hx hb hr (fun t ht hW => ⟨⟨0, (w1 ++ ([(o, zOut G (vp_updL fo 0 (nI (N 1) - T 1 a1.toNatClampNeg : Int32).toInt64))] : va_W)), rfl, ⟨hk0.symm, w1, _, rfl, fun _ => ⟨pk_uLs, hco⟩, fun h => absurd rfl h⟩, ⟨by rw [ht]; exact hP, hD⟩⟩, hS.F ht⟩) hS.2.2 dL_read_19 hlocks))

set_option maxHeartbeats 4000000 in
set_option maxRecDepth 100000 in
theorem h_leave (l : Launch) (hst : l.stackTraces = false) (G : zG) (d : Nat) (r A : Nat → Nat) (mc : Nat → Int32) (g : Nat → Nat → Int32) (N : Nat → Nat) (T : Nat → Nat → Int32) (w : va_W) (K : Nat) (a1 : Int32) (o : Nat) (fo : Nat → Int64) (sz : Nat) (hC : sCQ G d r A mc g N T w) (hI : sInv N T K 0) (hKk : K ≤ 511) : vx_Met l yL_leave wsL_leave ({ frames := 8, cells := (8 + zmc (sK2 (sIx a1 9) (decide (T 2 a1.toNatClampNeg = 0))) (N 1) (N 1 + 1)), slots := (200 + zms (sK2 (sIx a1 9) (decide (T 2 a1.toNatClampNeg = 0))) (N 1) (N 1 + 1)), locals := 135 }) (va_Pc [.ref (r 0), .int a1, .ref o] (zHu G d (w ++ ([(o, zOut G fo)] : va_W)) sz)) (va_Qi (fun (k : Int32) (w1 : va_W) => k = sK2 (sIx a1 9) (decide (T 2 a1.toNatClampNeg = 0)) ∧ zHq G d r o k (rLeave N T a1 : Int32).toInt64 N T ((nLeave N T a1).1) ((nLeave N T a1).2) w1) (zB G (va_A (w ++ ([(o, zOut G fo)] : va_W)) sz)) (va_A (w ++ ([(o, zOut G fo)] : va_W)) sz)) (zXk [] 0) ((8 + zmc (sK2 (sIx a1 9) (decide (T 2 a1.toNatClampNeg = 0))) (N 1) (N 1 + 1))) ((200 + zms (sK2 (sIx a1 9) (decide (T 2 a1.toNatClampNeg = 0))) (N 1) (N 1 + 1))) (va_A (w ++ ([(o, zOut G fo)] : va_W)) sz) := by
  refine vx_ofWH (cc := cL_leave) (maxL := 4) (ret := (some .int)) (hh := [(0, 9, 12, 13), (0, 9, 15, 17)]) (by decide) rfl ?_
  intro p e s m args below meth c s₁ B hml hv
  obtain ⟨rfl, ⟨hsz, hP, hK, hD0, hZ⟩, hX⟩ := hv
  have hx := B.exec
  have hb := B.bytes
  have hr := B.returns
  have hts := atoms_spec (ws := wsL_leave) B.pre
  have hown : s.vm.findClass RL = some m.cls := findClass_of_methodNamed B.named
  have hlocks := B.notSynchronized
  have htab := vx_table (x := yL_leave) B (hts _ (List.mem_of_getElem? (i := 0) rfl))
  subst hsz
  have hD := hD0.self (sz := s.heap.size)
  generalize hAe : va_A (w ++ ([(o, zOut G fo)] : va_W)) s.heap.size = Aw at hD hZ ⊢
  have hA : ∀ q : Nat, s.heap.size ≤ q → Aw q := fun q h => by rw [← hAe]; exact Or.inr h
  have hS : va_S Aw s.heap s.heap [] := va_S.rf
  have hl := lv_entry ([.ref (r 0), .int a1, .ref o]) (n := 4) (Nat.le_of_ble_eq_true rfl)
  rw [lg_entry_eq]
  generalize (lg_sl ([.ref (r 0), .int a1, .ref o]) ++ List.replicate (4 - (lg_sl ([.ref (r 0), .int a1, .ref o])).length) Slot.unset).toArray = ls at hl ⊢
  have hl : lv_has ls 4 [(0, .ref (r 0)), (1, .int a1), (2, .ref o)] := hl
  refine lv_aload_n hx hb dL_leave_0 rfl (lv_at hl 2 rfl) ?_
  refine lv_iconst (v := 0) hx hb dL_leave_1 (by decide) ?_
  refine lv_aload_n hx hb dL_leave_2 rfl (lv_at hl 0 rfl) ?_
  refine lv_iload_n hx hb dL_leave_3 rfl (lv_at hl 1 rfl) ?_
  refine z_xi (G := G) (w := w) (wr := ([(o, zOut G fo)] : va_W)) (vx_runV (As := [.int a1]) (rest := [.int 0, .ref o]) ⟨hx, hb, hml, hown, hts⟩ (c_X6_leave l hst G d r A mc g N T w K a1 s.heap.size hC hI hKk) (cwV 1 hts gL_leave_X6_leave rfl rfl rfl (by decide +kernel) ⟨Nat.le_of_ble_eq_true rfl, Nat.le_of_ble_eq_true rfl⟩) (z_wv hK (z_apL hP) (ci := 7) (q0 := 0) rfl (hC.1.1 0 (by omega)) (z_apL hP) (z_dL hD) hZ hS hA) rfl rfl hl.1 rfl (lv_room (Nat.le_of_ble_eq_true rfl)) dL_leave_4 ⟨Nat.le_of_eq (Nat.zero_add _), Nat.le_of_eq (Nat.zero_add _)⟩) hP hD hS hA (fun i E ce q9 Hz Lz hk hE hP hS hce hcv hcl => ?_) (fun rz w1 Hz Lz hq hP hD hS => ?_)
  · have hi : i < 2 := (List.getElem?_eq_some_iff.mp hE).1
    rcases (show i = 0 ∨ i = 1 by omega) with rfl | rfl
    · skip
      have hE : E = "java/lang/IndexOutOfBoundsException" := (Option.some.inj hE).symm
      subst hE
      refine vx_catch (own := RL) (name := "java/lang/IndexOutOfBoundsException") hown [] ⟨0, 9, 12, 13⟩ [⟨0, 9, 15, 17⟩] htab (fun _ h => absurd h List.not_mem_nil) rfl (by decide) (hts (.classLink RL 13 "java/lang/IndexOutOfBoundsException") (List.mem_of_getElem? (i := 1) rfl)) (va_Nw.use (w := .castable "java/lang/IndexOutOfBoundsException" "java/lang/IndexOutOfBoundsException") rfl (hX.1 0 (by omega))) hce hcv hcl ?_
      refine lv_astore_n (lv' := [(3, .ref q9), (0, .ref (r 0)), (1, .int a1), (2, .ref o)]) hx hb dL_leave_12 rfl hl (by decide) rfl (fun ls hl => ?_)
      refine lv_iconst (v := 1) hx hb dL_leave_13 (by decide) ?_
      exact vx_ret (z_widen (k := (8 + zmc (sK2 (sIx a1 9) (decide (T 2 a1.toNatClampNeg = 0))) (N 1) (N 1 + 1))) (n := (200 + zms (sK2 (sIx a1 9) (decide (T 2 a1.toNatClampNeg = 0))) (N 1) (N 1 + 1))) (Nat.le_of_eq (Nat.zero_add _)) (Nat.le_of_eq (Nat.zero_add _)) (W.iret (v := 1) hx hb hr (fun t ht hW => ⟨⟨1, (w ++ ([(o, zOut G fo)] : va_W)), rfl, ⟨hk.symm, w, fo, rfl, fun h => absurd h (by decide), fun _ => ⟨A, mc, g, hC⟩⟩, ⟨by rw [ht]; exact hP, hD⟩⟩, hS.F ht⟩) hS.2.2 dL_leave_14 hlocks))
    · skip
      have hE : E = "java/lang/IllegalStateException" := (Option.some.inj hE).symm
      subst hE
      refine vx_catch (own := RL) (name := "java/lang/IllegalStateException") hown [⟨0, 9, 12, 13⟩] ⟨0, 9, 15, 17⟩ [] htab (List.forall_mem_cons.mpr ⟨Or.inr ⟨by decide, "java/lang/IndexOutOfBoundsException", hts (.classLink RL 13 "java/lang/IndexOutOfBoundsException") (List.mem_of_getElem? (i := 1) rfl), hX.2 2 0 (by omega) (by omega) (by decide)⟩, fun _ h => absurd h List.not_mem_nil⟩) rfl (by decide) (hts (.classLink RL 17 "java/lang/IllegalStateException") (List.mem_of_getElem? (i := 2) rfl)) (va_Nw.use (w := .castable "java/lang/IllegalStateException" "java/lang/IllegalStateException") rfl (hX.1 2 (by omega))) hce hcv hcl ?_
      refine lv_astore_n (lv' := [(3, .ref q9), (0, .ref (r 0)), (1, .int a1), (2, .ref o)]) hx hb dL_leave_15 rfl hl (by decide) rfl (fun ls hl => ?_)
      refine lv_iconst (v := 2) hx hb dL_leave_16 (by decide) ?_
      exact vx_ret (z_widen (k := (8 + zmc (sK2 (sIx a1 9) (decide (T 2 a1.toNatClampNeg = 0))) (N 1) (N 1 + 1))) (n := (200 + zms (sK2 (sIx a1 9) (decide (T 2 a1.toNatClampNeg = 0))) (N 1) (N 1 + 1))) (Nat.le_of_eq (Nat.zero_add _)) (Nat.le_of_eq (Nat.zero_add _)) (W.iret (v := 2) hx hb hr (fun t ht hW => ⟨⟨2, (w ++ ([(o, zOut G fo)] : va_W)), rfl, ⟨hk.symm, w, fo, rfl, fun h => absurd h (by decide), fun _ => ⟨A, mc, g, hC⟩⟩, ⟨by rw [ht]; exact hP, hD⟩⟩, hS.F ht⟩) hS.2.2 dL_leave_17 hlocks))
  · obtain ⟨hk0, hra, hco⟩ := hq
    subst hra
    refine lv_i2l (v := (rLeave N T a1 : Int32).toInt64) hx hb dL_leave_7 rfl ?_
    refine z_lay hx hb hK hP hD hS dL_leave_8 (fun Hz Lz hP hD hS => ?_)
    refine lv_goto (tgt := 18) hx hb dL_leave_9 (by decide) ?_
    refine lv_iconst (v := 0) hx hb dL_leave_18 (by decide) ?_
    exact vx_ret (z_widen (k := (8 + zmc (sK2 (sIx a1 9) (decide (T 2 a1.toNatClampNeg = 0))) (N 1) (N 1 + 1))) (n := (200 + zms (sK2 (sIx a1 9) (decide (T 2 a1.toNatClampNeg = 0))) (N 1) (N 1 + 1))) (Nat.le_of_eq (Nat.zero_add _)) (Nat.le_of_eq (Nat.zero_add _)) (W.iret (v := 0) hx hb hr (fun t ht hW => ⟨⟨0, (w1 ++ ([(o, zOut G (vp_updL fo 0 (rLeave N T a1 : Int32).toInt64))] : va_W)), rfl, ⟨hk0.symm, w1, _, rfl, fun _ => ⟨pk_uLs, hco⟩, fun h => absurd rfl h⟩, ⟨by rw [ht]; exact hP, hD⟩⟩, hS.F ht⟩) hS.2.2 dL_leave_19 hlocks))

set_option maxHeartbeats 4000000 in
set_option maxRecDepth 100000 in
theorem h_canAct (l : Launch) (hst : l.stackTraces = false) (G : zG) (d : Nat) (r A : Nat → Nat) (mc : Nat → Int32) (g : Nat → Nat → Int32) (N : Nat → Nat) (T : Nat → Nat → Int32) (w : va_W) (K : Nat) (a1 : Int32) (o : Nat) (fo : Nat → Int64) (sz : Nat) (hC : sCQ G d r A mc g N T w) (hI : sInv N T K 0) (hKk : K ≤ 511) : vx_Met l yL_canAct wsL_canAct ({ frames := 8, cells := 8, slots := 200, locals := 131 }) (va_Pc [.ref (r 0), .int a1, .ref o] (zHu G d (w ++ ([(o, zOut G fo)] : va_W)) sz)) (va_Qi (fun (k : Int32) (w1 : va_W) => k = sK1 (sIx a1 9) ∧ zHq G d r o k (zL1 (zb (sMay N T a1))) N T N T w1) (zB G (va_A (w ++ ([(o, zOut G fo)] : va_W)) sz)) (va_A (w ++ ([(o, zOut G fo)] : va_W)) sz)) (zXk [] 0) (8) (200) (va_A (w ++ ([(o, zOut G fo)] : va_W)) sz) := by
  refine vx_ofWH (cc := cL_canAct) (maxL := 4) (ret := (some .int)) (hh := [(0, 16, 19, 13)]) (by decide) rfl ?_
  intro p e s m args below meth c s₁ B hml hv
  obtain ⟨rfl, ⟨hsz, hP, hK, hD0, hZ⟩, hX⟩ := hv
  have hx := B.exec
  have hb := B.bytes
  have hr := B.returns
  have hts := atoms_spec (ws := wsL_canAct) B.pre
  have hown : s.vm.findClass RL = some m.cls := findClass_of_methodNamed B.named
  have hlocks := B.notSynchronized
  have htab := vx_table (x := yL_canAct) B (hts _ (List.mem_of_getElem? (i := 0) rfl))
  subst hsz
  have hD := hD0.self (sz := s.heap.size)
  generalize hAe : va_A (w ++ ([(o, zOut G fo)] : va_W)) s.heap.size = Aw at hD hZ ⊢
  have hA : ∀ q : Nat, s.heap.size ≤ q → Aw q := fun q h => by rw [← hAe]; exact Or.inr h
  have hS : va_S Aw s.heap s.heap [] := va_S.rf
  have hl := lv_entry ([.ref (r 0), .int a1, .ref o]) (n := 4) (Nat.le_of_ble_eq_true rfl)
  rw [lg_entry_eq]
  generalize (lg_sl ([.ref (r 0), .int a1, .ref o]) ++ List.replicate (4 - (lg_sl ([.ref (r 0), .int a1, .ref o])).length) Slot.unset).toArray = ls at hl ⊢
  have hl : lv_has ls 4 [(0, .ref (r 0)), (1, .int a1), (2, .ref o)] := hl
  refine lv_aload_n hx hb dL_canAct_0 rfl (lv_at hl 2 rfl) ?_
  refine lv_iconst (v := 0) hx hb dL_canAct_1 (by decide) ?_
  refine lv_aload_n hx hb dL_canAct_2 rfl (lv_at hl 0 rfl) ?_
  refine lv_iload_n hx hb dL_canAct_3 rfl (lv_at hl 1 rfl) ?_
  refine z_xi (G := G) (w := w) (wr := ([(o, zOut G fo)] : va_W)) (vx_runV (As := [.int a1]) (rest := [.int 0, .ref o]) ⟨hx, hb, hml, hown, hts⟩ (c_X6_canAct l hst G d r A mc g N T w K a1 s.heap.size hC hI hKk) (cwV 1 hts gL_canAct_X6_canAct rfl rfl rfl (by decide +kernel) ⟨Nat.le_of_ble_eq_true rfl, Nat.le_of_ble_eq_true rfl⟩) (z_wv hK (z_apL hP) (ci := 7) (q0 := 0) rfl (hC.1.1 0 (by omega)) (z_apL hP) (z_dL hD) hZ hS hA) rfl rfl hl.1 rfl (lv_room (Nat.le_of_ble_eq_true rfl)) dL_canAct_4 ⟨Nat.le_of_eq (Nat.zero_add _), Nat.le_of_eq (Nat.zero_add _)⟩) hP hD hS hA (fun i E ce q9 Hz Lz hk hE hP hS hce hcv hcl => ?_) (fun rz w1 Hz Lz hq hP hD hS => ?_)
  · have hi : i < 1 := (List.getElem?_eq_some_iff.mp hE).1
    obtain rfl : i = 0 := by omega
    have hE : E = "java/lang/IndexOutOfBoundsException" := (Option.some.inj hE).symm
    subst hE
    refine vx_catch (own := RL) (name := "java/lang/IndexOutOfBoundsException") hown [] ⟨0, 16, 19, 13⟩ [] htab (fun _ h => absurd h List.not_mem_nil) rfl (by decide) (hts (.classLink RL 13 "java/lang/IndexOutOfBoundsException") (List.mem_of_getElem? (i := 1) rfl)) (va_Nw.use (w := .castable "java/lang/IndexOutOfBoundsException" "java/lang/IndexOutOfBoundsException") rfl (hX.1 0 (by omega))) hce hcv hcl ?_
    refine lv_astore_n (lv' := [(3, .ref q9), (0, .ref (r 0)), (1, .int a1), (2, .ref o)]) hx hb dL_canAct_19 rfl hl (by decide) rfl (fun ls hl => ?_)
    refine lv_iconst (v := 1) hx hb dL_canAct_20 (by decide) ?_
    exact vx_ret (z_widen (k := 8) (n := 200) (Nat.le_of_eq (Nat.zero_add _)) (Nat.le_of_eq (Nat.zero_add _)) (W.iret (v := 1) hx hb hr (fun t ht hW => ⟨⟨1, (w ++ ([(o, zOut G fo)] : va_W)), rfl, ⟨hk.symm, w, fo, rfl, fun h => absurd h (by decide), fun _ => ⟨A, mc, g, hC⟩⟩, ⟨by rw [ht]; exact hP, hD⟩⟩, hS.F ht⟩) hS.2.2 dL_canAct_21 hlocks))
  · obtain ⟨hk0, hra, hco⟩ := hq
    subst hra
    refine z_bl hx hb dL_canAct_7 dL_canAct_10 dL_canAct_11 dL_canAct_14 ?_
    refine z_lay hx hb hK hP hD hS dL_canAct_15 (fun Hz Lz hP hD hS => ?_)
    refine lv_goto (tgt := 22) hx hb dL_canAct_16 (by decide) ?_
    refine lv_iconst (v := 0) hx hb dL_canAct_22 (by decide) ?_
    exact vx_ret (z_widen (k := 8) (n := 200) (Nat.le_of_eq (Nat.zero_add _)) (Nat.le_of_eq (Nat.zero_add _)) (W.iret (v := 0) hx hb hr (fun t ht hW => ⟨⟨0, (w1 ++ ([(o, zOut G (vp_updL fo 0 (zL1 (zb (sMay N T a1)))))] : va_W)), rfl, ⟨hk0.symm, w1, _, rfl, fun _ => ⟨pk_uLs, hco⟩, fun h => absurd rfl h⟩, ⟨by rw [ht]; exact hP, hD⟩⟩, hS.F ht⟩) hS.2.2 dL_canAct_23 hlocks))

set_option maxHeartbeats 4000000 in
set_option maxRecDepth 100000 in
theorem h_advance (l : Launch) (hst : l.stackTraces = false) (G : zG) (d : Nat) (r A : Nat → Nat) (mc : Nat → Int32) (g : Nat → Nat → Int32) (N : Nat → Nat) (T : Nat → Nat → Int32) (w : va_W) (K : Nat) (a1 : Int32) (o : Nat) (fo : Nat → Int64) (sz : Nat) (hC : sCQ G d r A mc g N T w) (hI : sInv N T K 0) (hKk : K ≤ 511) : vx_Met l yL_advance wsL_advance ({ frames := 8, cells := (8 + zmc (sK2 (sIn a1 1 100) (decide (nI (N 0) + a1 ≤ 2000))) (N 1) ((sHours a1.toNatClampNeg N T).1 1)), slots := (200 + zms (sK2 (sIn a1 1 100) (decide (nI (N 0) + a1 ≤ 2000))) (N 1) ((sHours a1.toNatClampNeg N T).1 1)), locals := 199 }) (va_Pc [.ref (r 0), .int a1, .ref o] (zHu G d (w ++ ([(o, zOut G fo)] : va_W)) sz)) (va_Qi (fun (k : Int32) (w1 : va_W) => k = sK2 (sIn a1 1 100) (decide (nI (N 0) + a1 ≤ 2000)) ∧ zHq G d r o k (nI ((sHours a1.toNatClampNeg N T).1 0) : Int32).toInt64 N T ((sHours a1.toNatClampNeg N T).1) ((sHours a1.toNatClampNeg N T).2) w1) (zB G (va_A (w ++ ([(o, zOut G fo)] : va_W)) sz)) (va_A (w ++ ([(o, zOut G fo)] : va_W)) sz)) (zXk [] 0) ((8 + zmc (sK2 (sIn a1 1 100) (decide (nI (N 0) + a1 ≤ 2000))) (N 1) ((sHours a1.toNatClampNeg N T).1 1))) ((200 + zms (sK2 (sIn a1 1 100) (decide (nI (N 0) + a1 ≤ 2000))) (N 1) ((sHours a1.toNatClampNeg N T).1 1))) (va_A (w ++ ([(o, zOut G fo)] : va_W)) sz) := by
  refine vx_ofWH (cc := cL_advance) (maxL := 4) (ret := (some .int)) (hh := [(0, 9, 12, 15), (0, 9, 15, 17)]) (by decide) rfl ?_
  intro p e s m args below meth c s₁ B hml hv
  obtain ⟨rfl, ⟨hsz, hP, hK, hD0, hZ⟩, hX⟩ := hv
  have hx := B.exec
  have hb := B.bytes
  have hr := B.returns
  have hts := atoms_spec (ws := wsL_advance) B.pre
  have hown : s.vm.findClass RL = some m.cls := findClass_of_methodNamed B.named
  have hlocks := B.notSynchronized
  have htab := vx_table (x := yL_advance) B (hts _ (List.mem_of_getElem? (i := 0) rfl))
  subst hsz
  have hD := hD0.self (sz := s.heap.size)
  generalize hAe : va_A (w ++ ([(o, zOut G fo)] : va_W)) s.heap.size = Aw at hD hZ ⊢
  have hA : ∀ q : Nat, s.heap.size ≤ q → Aw q := fun q h => by rw [← hAe]; exact Or.inr h
  have hS : va_S Aw s.heap s.heap [] := va_S.rf
  have hl := lv_entry ([.ref (r 0), .int a1, .ref o]) (n := 4) (Nat.le_of_ble_eq_true rfl)
  rw [lg_entry_eq]
  generalize (lg_sl ([.ref (r 0), .int a1, .ref o]) ++ List.replicate (4 - (lg_sl ([.ref (r 0), .int a1, .ref o])).length) Slot.unset).toArray = ls at hl ⊢
  have hl : lv_has ls 4 [(0, .ref (r 0)), (1, .int a1), (2, .ref o)] := hl
  refine lv_aload_n hx hb dL_advance_0 rfl (lv_at hl 2 rfl) ?_
  refine lv_iconst (v := 0) hx hb dL_advance_1 (by decide) ?_
  refine lv_aload_n hx hb dL_advance_2 rfl (lv_at hl 0 rfl) ?_
  refine lv_iload_n hx hb dL_advance_3 rfl (lv_at hl 1 rfl) ?_
  refine z_xi (G := G) (w := w) (wr := ([(o, zOut G fo)] : va_W)) (vx_runV (As := [.int a1]) (rest := [.int 0, .ref o]) ⟨hx, hb, hml, hown, hts⟩ (c_X6_advance l hst G d r A mc g N T w K a1 s.heap.size hC hI hKk) (cwV 1 hts gL_advance_X6_advance rfl rfl rfl (by decide +kernel) ⟨Nat.le_of_ble_eq_true rfl, Nat.le_of_ble_eq_true rfl⟩) (z_wv hK (z_apL hP) (ci := 7) (q0 := 0) rfl (hC.1.1 0 (by omega)) (z_apL hP) (z_dL hD) hZ hS hA) rfl rfl hl.1 rfl (lv_room (Nat.le_of_ble_eq_true rfl)) dL_advance_4 ⟨Nat.le_of_eq (Nat.zero_add _), Nat.le_of_eq (Nat.zero_add _)⟩) hP hD hS hA (fun i E ce q9 Hz Lz hk hE hP hS hce hcv hcl => ?_) (fun rz w1 Hz Lz hq hP hD hS => ?_)
  · have hi : i < 2 := (List.getElem?_eq_some_iff.mp hE).1
    rcases (show i = 0 ∨ i = 1 by omega) with rfl | rfl
    · skip
      have hE : E = "java/lang/IllegalArgumentException" := (Option.some.inj hE).symm
      subst hE
      refine vx_catch (own := RL) (name := "java/lang/IllegalArgumentException") hown [] ⟨0, 9, 12, 15⟩ [⟨0, 9, 15, 17⟩] htab (fun _ h => absurd h List.not_mem_nil) rfl (by decide) (hts (.classLink RL 15 "java/lang/IllegalArgumentException") (List.mem_of_getElem? (i := 1) rfl)) (va_Nw.use (w := .castable "java/lang/IllegalArgumentException" "java/lang/IllegalArgumentException") rfl (hX.1 1 (by omega))) hce hcv hcl ?_
      refine lv_astore_n (lv' := [(3, .ref q9), (0, .ref (r 0)), (1, .int a1), (2, .ref o)]) hx hb dL_advance_12 rfl hl (by decide) rfl (fun ls hl => ?_)
      refine lv_iconst (v := 1) hx hb dL_advance_13 (by decide) ?_
      exact vx_ret (z_widen (k := (8 + zmc (sK2 (sIn a1 1 100) (decide (nI (N 0) + a1 ≤ 2000))) (N 1) ((sHours a1.toNatClampNeg N T).1 1))) (n := (200 + zms (sK2 (sIn a1 1 100) (decide (nI (N 0) + a1 ≤ 2000))) (N 1) ((sHours a1.toNatClampNeg N T).1 1))) (Nat.le_of_eq (Nat.zero_add _)) (Nat.le_of_eq (Nat.zero_add _)) (W.iret (v := 1) hx hb hr (fun t ht hW => ⟨⟨1, (w ++ ([(o, zOut G fo)] : va_W)), rfl, ⟨hk.symm, w, fo, rfl, fun h => absurd h (by decide), fun _ => ⟨A, mc, g, hC⟩⟩, ⟨by rw [ht]; exact hP, hD⟩⟩, hS.F ht⟩) hS.2.2 dL_advance_14 hlocks))
    · skip
      have hE : E = "java/lang/IllegalStateException" := (Option.some.inj hE).symm
      subst hE
      refine vx_catch (own := RL) (name := "java/lang/IllegalStateException") hown [⟨0, 9, 12, 15⟩] ⟨0, 9, 15, 17⟩ [] htab (List.forall_mem_cons.mpr ⟨Or.inr ⟨by decide, "java/lang/IllegalArgumentException", hts (.classLink RL 15 "java/lang/IllegalArgumentException") (List.mem_of_getElem? (i := 1) rfl), hX.2 2 1 (by omega) (by omega) (by decide)⟩, fun _ h => absurd h List.not_mem_nil⟩) rfl (by decide) (hts (.classLink RL 17 "java/lang/IllegalStateException") (List.mem_of_getElem? (i := 2) rfl)) (va_Nw.use (w := .castable "java/lang/IllegalStateException" "java/lang/IllegalStateException") rfl (hX.1 2 (by omega))) hce hcv hcl ?_
      refine lv_astore_n (lv' := [(3, .ref q9), (0, .ref (r 0)), (1, .int a1), (2, .ref o)]) hx hb dL_advance_15 rfl hl (by decide) rfl (fun ls hl => ?_)
      refine lv_iconst (v := 2) hx hb dL_advance_16 (by decide) ?_
      exact vx_ret (z_widen (k := (8 + zmc (sK2 (sIn a1 1 100) (decide (nI (N 0) + a1 ≤ 2000))) (N 1) ((sHours a1.toNatClampNeg N T).1 1))) (n := (200 + zms (sK2 (sIn a1 1 100) (decide (nI (N 0) + a1 ≤ 2000))) (N 1) ((sHours a1.toNatClampNeg N T).1 1))) (Nat.le_of_eq (Nat.zero_add _)) (Nat.le_of_eq (Nat.zero_add _)) (W.iret (v := 2) hx hb hr (fun t ht hW => ⟨⟨2, (w ++ ([(o, zOut G fo)] : va_W)), rfl, ⟨hk.symm, w, fo, rfl, fun h => absurd h (by decide), fun _ => ⟨A, mc, g, hC⟩⟩, ⟨by rw [ht]; exact hP, hD⟩⟩, hS.F ht⟩) hS.2.2 dL_advance_17 hlocks))
  · obtain ⟨hk0, hra, hco⟩ := hq
    subst hra
    refine lv_i2l (v := (nI ((sHours a1.toNatClampNeg N T).1 0) : Int32).toInt64) hx hb dL_advance_7 rfl ?_
    refine z_lay hx hb hK hP hD hS dL_advance_8 (fun Hz Lz hP hD hS => ?_)
    refine lv_goto (tgt := 18) hx hb dL_advance_9 (by decide) ?_
    refine lv_iconst (v := 0) hx hb dL_advance_18 (by decide) ?_
    exact vx_ret (z_widen (k := (8 + zmc (sK2 (sIn a1 1 100) (decide (nI (N 0) + a1 ≤ 2000))) (N 1) ((sHours a1.toNatClampNeg N T).1 1))) (n := (200 + zms (sK2 (sIn a1 1 100) (decide (nI (N 0) + a1 ≤ 2000))) (N 1) ((sHours a1.toNatClampNeg N T).1 1))) (Nat.le_of_eq (Nat.zero_add _)) (Nat.le_of_eq (Nat.zero_add _)) (W.iret (v := 0) hx hb hr (fun t ht hW => ⟨⟨0, (w1 ++ ([(o, zOut G (vp_updL fo 0 (nI ((sHours a1.toNatClampNeg N T).1 0) : Int32).toInt64))] : va_W)), rfl, ⟨hk0.symm, w1, _, rfl, fun _ => ⟨pk_uLs, hco⟩, fun h => absurd rfl h⟩, ⟨by rw [ht]; exact hP, hD⟩⟩, hS.F ht⟩) hS.2.2 dL_advance_19 hlocks))

set_option maxHeartbeats 4000000 in
set_option maxRecDepth 100000 in
theorem h_entryAt (l : Launch) (hst : l.stackTraces = false) (G : zG) (d : Nat) (r A : Nat → Nat) (mc : Nat → Int32) (g : Nat → Nat → Int32) (N : Nat → Nat) (T : Nat → Nat → Int32) (w : va_W) (K : Nat) (a1 : Int32) (o : Nat) (fo : Nat → Int64) (sz : Nat) (hC : sCQ G d r A mc g N T w) (hI : sInv N T K 0) (hKk : K ≤ 511) : vx_Met l yL_entryAt wsL_entryAt ({ frames := 7, cells := 8, slots := 200, locals := 111 }) (va_Pc [.ref (r 0), .int a1, .ref o] (zHu G d (w ++ ([(o, zOut G fo)] : va_W)) sz)) (va_Qi (fun (k : Int32) (w1 : va_W) => k = sK1 (sIx a1 (N 1)) ∧ zHq G d r o k (T 0 a1.toNatClampNeg : Int32).toInt64 N T N T w1) (zB G (va_A (w ++ ([(o, zOut G fo)] : va_W)) sz)) (va_A (w ++ ([(o, zOut G fo)] : va_W)) sz)) (zXk [] 0) (8) (200) (va_A (w ++ ([(o, zOut G fo)] : va_W)) sz) := by
  refine vx_ofWH (cc := cL_entryAt) (maxL := 4) (ret := (some .int)) (hh := [(0, 9, 12, 13)]) (by decide) rfl ?_
  intro p e s m args below meth c s₁ B hml hv
  obtain ⟨rfl, ⟨hsz, hP, hK, hD0, hZ⟩, hX⟩ := hv
  have hx := B.exec
  have hb := B.bytes
  have hr := B.returns
  have hts := atoms_spec (ws := wsL_entryAt) B.pre
  have hown : s.vm.findClass RL = some m.cls := findClass_of_methodNamed B.named
  have hlocks := B.notSynchronized
  have htab := vx_table (x := yL_entryAt) B (hts _ (List.mem_of_getElem? (i := 0) rfl))
  subst hsz
  have hD := hD0.self (sz := s.heap.size)
  generalize hAe : va_A (w ++ ([(o, zOut G fo)] : va_W)) s.heap.size = Aw at hD hZ ⊢
  have hA : ∀ q : Nat, s.heap.size ≤ q → Aw q := fun q h => by rw [← hAe]; exact Or.inr h
  have hS : va_S Aw s.heap s.heap [] := va_S.rf
  have hl := lv_entry ([.ref (r 0), .int a1, .ref o]) (n := 4) (Nat.le_of_ble_eq_true rfl)
  rw [lg_entry_eq]
  generalize (lg_sl ([.ref (r 0), .int a1, .ref o]) ++ List.replicate (4 - (lg_sl ([.ref (r 0), .int a1, .ref o])).length) Slot.unset).toArray = ls at hl ⊢
  have hl : lv_has ls 4 [(0, .ref (r 0)), (1, .int a1), (2, .ref o)] := hl
  refine lv_aload_n hx hb dL_entryAt_0 rfl (lv_at hl 2 rfl) ?_
  refine lv_iconst (v := 0) hx hb dL_entryAt_1 (by decide) ?_
  refine lv_aload_n hx hb dL_entryAt_2 rfl (lv_at hl 0 rfl) ?_
  refine lv_iload_n hx hb dL_entryAt_3 rfl (lv_at hl 1 rfl) ?_
  refine z_xi (G := G) (w := w) (wr := ([(o, zOut G fo)] : va_W)) (vx_runV (As := [.int a1]) (rest := [.int 0, .ref o]) ⟨hx, hb, hml, hown, hts⟩ (c_X6_entryAt l hst G d r A mc g N T w K a1 s.heap.size hC hI hKk) (cwV 1 hts gL_entryAt_X6_entryAt rfl rfl rfl (by decide +kernel) ⟨Nat.le_of_ble_eq_true rfl, Nat.le_of_ble_eq_true rfl⟩) (z_wv hK (z_apL hP) (ci := 7) (q0 := 0) rfl (hC.1.1 0 (by omega)) (z_apL hP) (z_dL hD) hZ hS hA) rfl rfl hl.1 rfl (lv_room (Nat.le_of_ble_eq_true rfl)) dL_entryAt_4 ⟨Nat.le_of_eq (Nat.zero_add _), Nat.le_of_eq (Nat.zero_add _)⟩) hP hD hS hA (fun i E ce q9 Hz Lz hk hE hP hS hce hcv hcl => ?_) (fun rz w1 Hz Lz hq hP hD hS => ?_)
  · have hi : i < 1 := (List.getElem?_eq_some_iff.mp hE).1
    obtain rfl : i = 0 := by omega
    have hE : E = "java/lang/IndexOutOfBoundsException" := (Option.some.inj hE).symm
    subst hE
    refine vx_catch (own := RL) (name := "java/lang/IndexOutOfBoundsException") hown [] ⟨0, 9, 12, 13⟩ [] htab (fun _ h => absurd h List.not_mem_nil) rfl (by decide) (hts (.classLink RL 13 "java/lang/IndexOutOfBoundsException") (List.mem_of_getElem? (i := 1) rfl)) (va_Nw.use (w := .castable "java/lang/IndexOutOfBoundsException" "java/lang/IndexOutOfBoundsException") rfl (hX.1 0 (by omega))) hce hcv hcl ?_
    refine lv_astore_n (lv' := [(3, .ref q9), (0, .ref (r 0)), (1, .int a1), (2, .ref o)]) hx hb dL_entryAt_12 rfl hl (by decide) rfl (fun ls hl => ?_)
    refine lv_iconst (v := 1) hx hb dL_entryAt_13 (by decide) ?_
    exact vx_ret (z_widen (k := 8) (n := 200) (Nat.le_of_eq (Nat.zero_add _)) (Nat.le_of_eq (Nat.zero_add _)) (W.iret (v := 1) hx hb hr (fun t ht hW => ⟨⟨1, (w ++ ([(o, zOut G fo)] : va_W)), rfl, ⟨hk.symm, w, fo, rfl, fun h => absurd h (by decide), fun _ => ⟨A, mc, g, hC⟩⟩, ⟨by rw [ht]; exact hP, hD⟩⟩, hS.F ht⟩) hS.2.2 dL_entryAt_14 hlocks))
  · obtain ⟨hk0, hra, hco⟩ := hq
    subst hra
    refine lv_i2l (v := (T 0 a1.toNatClampNeg : Int32).toInt64) hx hb dL_entryAt_7 rfl ?_
    refine z_lay hx hb hK hP hD hS dL_entryAt_8 (fun Hz Lz hP hD hS => ?_)
    refine lv_goto (tgt := 15) hx hb dL_entryAt_9 (by decide) ?_
    refine lv_iconst (v := 0) hx hb dL_entryAt_15 (by decide) ?_
    exact vx_ret (z_widen (k := 8) (n := 200) (Nat.le_of_eq (Nat.zero_add _)) (Nat.le_of_eq (Nat.zero_add _)) (W.iret (v := 0) hx hb hr (fun t ht hW => ⟨⟨0, (w1 ++ ([(o, zOut G (vp_updL fo 0 (T 0 a1.toNatClampNeg : Int32).toInt64))] : va_W)), rfl, ⟨hk0.symm, w1, _, rfl, fun _ => ⟨pk_uLs, hco⟩, fun h => absurd rfl h⟩, ⟨by rw [ht]; exact hP, hD⟩⟩, hS.F ht⟩) hS.2.2 dL_entryAt_16 hlocks))

set_option maxHeartbeats 4000000 in
set_option maxRecDepth 100000 in
theorem h_alarm (l : Launch) (hst : l.stackTraces = false) (G : zG) (d : Nat) (r A : Nat → Nat) (mc : Nat → Int32) (g : Nat → Nat → Int32) (N : Nat → Nat) (T : Nat → Nat → Int32) (w : va_W) (K : Nat) (a1 a2 : Int32) (b3 : Bool) (a4 : Int32) (b5 : Bool) (o : Nat) (fo : Nat → Int64) (sz : Nat) (hC : sCQ G d r A mc g N T w) (hI : sInv N T K 0) (hKk : K ≤ 511) : vx_Met l yL_alarm wsL_alarm ({ frames := 8, cells := 8, slots := 200, locals := 196 }) (va_Pc [.ref (r 0), .int a1, .int a2, .int (zb b3), .int a4, .int (zb b5), .ref o] (zHu G d (w ++ ([(o, zOut G fo)] : va_W)) sz)) (va_Qi (fun (k : Int32) (w1 : va_W) => k = sK3 ((sIx a1 3) && (sIx a4 8)) (sIn a2 0 1000) (!decide (N 3 = 10)) ∧ zHq G d r o k (nI (N 3) : Int32).toInt64 N T ((nAlarm N T a1 a2 b3 a4 b5).1) ((nAlarm N T a1 a2 b3 a4 b5).2) w1) (zB G (va_A (w ++ ([(o, zOut G fo)] : va_W)) sz)) (va_A (w ++ ([(o, zOut G fo)] : va_W)) sz)) (zXk [] 0) (8) (200) (va_A (w ++ ([(o, zOut G fo)] : va_W)) sz) := by
  refine vx_ofWH (cc := cL_alarm) (maxL := 8) (ret := (some .int)) (hh := [(0, 16, 19, 13), (0, 16, 23, 15), (0, 16, 27, 17)]) (by decide) rfl ?_
  intro p e s m args below meth c s₁ B hml hv
  obtain ⟨rfl, ⟨hsz, hP, hK, hD0, hZ⟩, hX⟩ := hv
  have hx := B.exec
  have hb := B.bytes
  have hr := B.returns
  have hts := atoms_spec (ws := wsL_alarm) B.pre
  have hown : s.vm.findClass RL = some m.cls := findClass_of_methodNamed B.named
  have hlocks := B.notSynchronized
  have htab := vx_table (x := yL_alarm) B (hts _ (List.mem_of_getElem? (i := 0) rfl))
  subst hsz
  have hD := hD0.self (sz := s.heap.size)
  generalize hAe : va_A (w ++ ([(o, zOut G fo)] : va_W)) s.heap.size = Aw at hD hZ ⊢
  have hA : ∀ q : Nat, s.heap.size ≤ q → Aw q := fun q h => by rw [← hAe]; exact Or.inr h
  have hS : va_S Aw s.heap s.heap [] := va_S.rf
  have hl := lv_entry ([.ref (r 0), .int a1, .int a2, .int (zb b3), .int a4, .int (zb b5), .ref o]) (n := 8) (Nat.le_of_ble_eq_true rfl)
  rw [lg_entry_eq]
  generalize (lg_sl ([.ref (r 0), .int a1, .int a2, .int (zb b3), .int a4, .int (zb b5), .ref o]) ++ List.replicate (8 - (lg_sl ([.ref (r 0), .int a1, .int a2, .int (zb b3), .int a4, .int (zb b5), .ref o])).length) Slot.unset).toArray = ls at hl ⊢
  have hl : lv_has ls 8 [(0, .ref (r 0)), (1, .int a1), (2, .int a2), (3, .int (zb b3)), (4, .int a4), (5, .int (zb b5)), (6, .ref o)] := hl
  refine lv_aload hx hb dL_alarm_0 (lv_at hl 6 rfl) ?_
  refine lv_iconst (v := 0) hx hb dL_alarm_2 (by decide) ?_
  refine lv_aload_n hx hb dL_alarm_3 rfl (lv_at hl 0 rfl) ?_
  refine lv_iload_n hx hb dL_alarm_4 rfl (lv_at hl 1 rfl) ?_
  refine lv_iload_n hx hb dL_alarm_5 rfl (lv_at hl 2 rfl) ?_
  refine lv_iload_n hx hb dL_alarm_6 rfl (lv_at hl 3 rfl) ?_
  refine lv_iload hx hb dL_alarm_7 (lv_at hl 4 rfl) ?_
  refine lv_iload hx hb dL_alarm_9 (lv_at hl 5 rfl) ?_
  refine z_xi (G := G) (w := w) (wr := ([(o, zOut G fo)] : va_W)) (vx_runV (As := [.int a1, .int a2, .int (zb b3), .int a4, .int (zb b5)]) (rest := [.int 0, .ref o]) ⟨hx, hb, hml, hown, hts⟩ (c_X6_alarm l hst G d r A mc g N T w K a1 a2 b3 a4 b5 s.heap.size hC hI hKk) (cwV 5 hts gL_alarm_X6_alarm rfl rfl rfl (by decide +kernel) ⟨Nat.le_of_ble_eq_true rfl, Nat.le_of_ble_eq_true rfl⟩) (z_wv hK (z_apL hP) (ci := 7) (q0 := 0) rfl (hC.1.1 0 (by omega)) (z_apL hP) (z_dL hD) hZ hS hA) rfl rfl hl.1 rfl (lv_room (Nat.le_of_ble_eq_true rfl)) dL_alarm_11 ⟨Nat.le_of_eq (Nat.zero_add _), Nat.le_of_eq (Nat.zero_add _)⟩) hP hD hS hA (fun i E ce q9 Hz Lz hk hE hP hS hce hcv hcl => ?_) (fun rz w1 Hz Lz hq hP hD hS => ?_)
  · have hi : i < 3 := (List.getElem?_eq_some_iff.mp hE).1
    rcases (show i = 0 ∨ i = 1 ∨ i = 2 by omega) with rfl | rfl | rfl
    · skip
      have hE : E = "java/lang/IndexOutOfBoundsException" := (Option.some.inj hE).symm
      subst hE
      refine vx_catch (own := RL) (name := "java/lang/IndexOutOfBoundsException") hown [] ⟨0, 16, 19, 13⟩ [⟨0, 16, 23, 15⟩, ⟨0, 16, 27, 17⟩] htab (fun _ h => absurd h List.not_mem_nil) rfl (by decide) (hts (.classLink RL 13 "java/lang/IndexOutOfBoundsException") (List.mem_of_getElem? (i := 1) rfl)) (va_Nw.use (w := .castable "java/lang/IndexOutOfBoundsException" "java/lang/IndexOutOfBoundsException") rfl (hX.1 0 (by omega))) hce hcv hcl ?_
      refine lv_astore (lv' := [(7, .ref q9), (0, .ref (r 0)), (1, .int a1), (2, .int a2), (3, .int (zb b3)), (4, .int a4), (5, .int (zb b5)), (6, .ref o)]) hx hb dL_alarm_19 hl (by decide) rfl (fun ls hl => ?_)
      refine lv_iconst (v := 1) hx hb dL_alarm_21 (by decide) ?_
      exact vx_ret (z_widen (k := 8) (n := 200) (Nat.le_of_eq (Nat.zero_add _)) (Nat.le_of_eq (Nat.zero_add _)) (W.iret (v := 1) hx hb hr (fun t ht hW => ⟨⟨1, (w ++ ([(o, zOut G fo)] : va_W)), rfl, ⟨hk.symm, w, fo, rfl, fun h => absurd h (by decide), fun _ => ⟨A, mc, g, hC⟩⟩, ⟨by rw [ht]; exact hP, hD⟩⟩, hS.F ht⟩) hS.2.2 dL_alarm_22 hlocks))
    · skip
      have hE : E = "java/lang/IllegalArgumentException" := (Option.some.inj hE).symm
      subst hE
      refine vx_catch (own := RL) (name := "java/lang/IllegalArgumentException") hown [⟨0, 16, 19, 13⟩] ⟨0, 16, 23, 15⟩ [⟨0, 16, 27, 17⟩] htab (List.forall_mem_cons.mpr ⟨Or.inr ⟨by decide, "java/lang/IndexOutOfBoundsException", hts (.classLink RL 13 "java/lang/IndexOutOfBoundsException") (List.mem_of_getElem? (i := 1) rfl), hX.2 1 0 (by omega) (by omega) (by decide)⟩, fun _ h => absurd h List.not_mem_nil⟩) rfl (by decide) (hts (.classLink RL 15 "java/lang/IllegalArgumentException") (List.mem_of_getElem? (i := 2) rfl)) (va_Nw.use (w := .castable "java/lang/IllegalArgumentException" "java/lang/IllegalArgumentException") rfl (hX.1 1 (by omega))) hce hcv hcl ?_
      refine lv_astore (lv' := [(7, .ref q9), (0, .ref (r 0)), (1, .int a1), (2, .int a2), (3, .int (zb b3)), (4, .int a4), (5, .int (zb b5)), (6, .ref o)]) hx hb dL_alarm_23 hl (by decide) rfl (fun ls hl => ?_)
      refine lv_iconst (v := 2) hx hb dL_alarm_25 (by decide) ?_
      exact vx_ret (z_widen (k := 8) (n := 200) (Nat.le_of_eq (Nat.zero_add _)) (Nat.le_of_eq (Nat.zero_add _)) (W.iret (v := 2) hx hb hr (fun t ht hW => ⟨⟨2, (w ++ ([(o, zOut G fo)] : va_W)), rfl, ⟨hk.symm, w, fo, rfl, fun h => absurd h (by decide), fun _ => ⟨A, mc, g, hC⟩⟩, ⟨by rw [ht]; exact hP, hD⟩⟩, hS.F ht⟩) hS.2.2 dL_alarm_26 hlocks))
    · skip
      have hE : E = "java/lang/IllegalStateException" := (Option.some.inj hE).symm
      subst hE
      refine vx_catch (own := RL) (name := "java/lang/IllegalStateException") hown [⟨0, 16, 19, 13⟩, ⟨0, 16, 23, 15⟩] ⟨0, 16, 27, 17⟩ [] htab (List.forall_mem_cons.mpr ⟨Or.inr ⟨by decide, "java/lang/IndexOutOfBoundsException", hts (.classLink RL 13 "java/lang/IndexOutOfBoundsException") (List.mem_of_getElem? (i := 1) rfl), hX.2 2 0 (by omega) (by omega) (by decide)⟩, List.forall_mem_cons.mpr ⟨Or.inr ⟨by decide, "java/lang/IllegalArgumentException", hts (.classLink RL 15 "java/lang/IllegalArgumentException") (List.mem_of_getElem? (i := 2) rfl), hX.2 2 1 (by omega) (by omega) (by decide)⟩, fun _ h => absurd h List.not_mem_nil⟩⟩) rfl (by decide) (hts (.classLink RL 17 "java/lang/IllegalStateException") (List.mem_of_getElem? (i := 3) rfl)) (va_Nw.use (w := .castable "java/lang/IllegalStateException" "java/lang/IllegalStateException") rfl (hX.1 2 (by omega))) hce hcv hcl ?_
      refine lv_astore (lv' := [(7, .ref q9), (0, .ref (r 0)), (1, .int a1), (2, .int a2), (3, .int (zb b3)), (4, .int a4), (5, .int (zb b5)), (6, .ref o)]) hx hb dL_alarm_27 hl (by decide) rfl (fun ls hl => ?_)
      refine lv_iconst (v := 3) hx hb dL_alarm_29 (by decide) ?_
      exact vx_ret (z_widen (k := 8) (n := 200) (Nat.le_of_eq (Nat.zero_add _)) (Nat.le_of_eq (Nat.zero_add _)) (W.iret (v := 3) hx hb hr (fun t ht hW => ⟨⟨3, (w ++ ([(o, zOut G fo)] : va_W)), rfl, ⟨hk.symm, w, fo, rfl, fun h => absurd h (by decide), fun _ => ⟨A, mc, g, hC⟩⟩, ⟨by rw [ht]; exact hP, hD⟩⟩, hS.F ht⟩) hS.2.2 dL_alarm_30 hlocks))
  · obtain ⟨hk0, hra, hco⟩ := hq
    subst hra
    refine lv_i2l (v := (nI (N 3) : Int32).toInt64) hx hb dL_alarm_14 rfl ?_
    refine z_lay hx hb hK hP hD hS dL_alarm_15 (fun Hz Lz hP hD hS => ?_)
    refine lv_goto (tgt := 31) hx hb dL_alarm_16 (by decide) ?_
    refine lv_iconst (v := 0) hx hb dL_alarm_31 (by decide) ?_
    exact vx_ret (z_widen (k := 8) (n := 200) (Nat.le_of_eq (Nat.zero_add _)) (Nat.le_of_eq (Nat.zero_add _)) (W.iret (v := 0) hx hb hr (fun t ht hW => ⟨⟨0, (w1 ++ ([(o, zOut G (vp_updL fo 0 (nI (N 3) : Int32).toInt64))] : va_W)), rfl, ⟨hk0.symm, w1, _, rfl, fun _ => ⟨pk_uLs, hco⟩, fun h => absurd rfl h⟩, ⟨by rw [ht]; exact hP, hD⟩⟩, hS.F ht⟩) hS.2.2 dL_alarm_32 hlocks))

set_option maxHeartbeats 4000000 in
set_option maxRecDepth 100000 in
theorem h_stateOf (l : Launch) (hst : l.stackTraces = false) (G : zG) (d : Nat) (r A : Nat → Nat) (mc : Nat → Int32) (g : Nat → Nat → Int32) (N : Nat → Nat) (T : Nat → Nat → Int32) (w : va_W) (K : Nat) (a1 : Int32) (o : Nat) (fo : Nat → Int64) (sz : Nat) (hC : sCQ G d r A mc g N T w) (hI : sInv N T K 0) (hKk : K ≤ 511) : vx_Met l yL_stateOf wsL_stateOf ({ frames := 7, cells := 8, slots := 200, locals := 111 }) (va_Pc [.ref (r 0), .int a1, .ref o] (zHu G d (w ++ ([(o, zOut G fo)] : va_W)) sz)) (va_Qi (fun (k : Int32) (w1 : va_W) => k = sK1 (sIx a1 (N 3)) ∧ zHq G d r o k (T 16 a1.toNatClampNeg : Int32).toInt64 N T N T w1) (zB G (va_A (w ++ ([(o, zOut G fo)] : va_W)) sz)) (va_A (w ++ ([(o, zOut G fo)] : va_W)) sz)) (zXk [] 0) (8) (200) (va_A (w ++ ([(o, zOut G fo)] : va_W)) sz) := by
  refine vx_ofWH (cc := cL_stateOf) (maxL := 4) (ret := (some .int)) (hh := [(0, 9, 12, 13)]) (by decide) rfl ?_
  intro p e s m args below meth c s₁ B hml hv
  obtain ⟨rfl, ⟨hsz, hP, hK, hD0, hZ⟩, hX⟩ := hv
  have hx := B.exec
  have hb := B.bytes
  have hr := B.returns
  have hts := atoms_spec (ws := wsL_stateOf) B.pre
  have hown : s.vm.findClass RL = some m.cls := findClass_of_methodNamed B.named
  have hlocks := B.notSynchronized
  have htab := vx_table (x := yL_stateOf) B (hts _ (List.mem_of_getElem? (i := 0) rfl))
  subst hsz
  have hD := hD0.self (sz := s.heap.size)
  generalize hAe : va_A (w ++ ([(o, zOut G fo)] : va_W)) s.heap.size = Aw at hD hZ ⊢
  have hA : ∀ q : Nat, s.heap.size ≤ q → Aw q := fun q h => by rw [← hAe]; exact Or.inr h
  have hS : va_S Aw s.heap s.heap [] := va_S.rf
  have hl := lv_entry ([.ref (r 0), .int a1, .ref o]) (n := 4) (Nat.le_of_ble_eq_true rfl)
  rw [lg_entry_eq]
  generalize (lg_sl ([.ref (r 0), .int a1, .ref o]) ++ List.replicate (4 - (lg_sl ([.ref (r 0), .int a1, .ref o])).length) Slot.unset).toArray = ls at hl ⊢
  have hl : lv_has ls 4 [(0, .ref (r 0)), (1, .int a1), (2, .ref o)] := hl
  refine lv_aload_n hx hb dL_stateOf_0 rfl (lv_at hl 2 rfl) ?_
  refine lv_iconst (v := 0) hx hb dL_stateOf_1 (by decide) ?_
  refine lv_aload_n hx hb dL_stateOf_2 rfl (lv_at hl 0 rfl) ?_
  refine lv_iload_n hx hb dL_stateOf_3 rfl (lv_at hl 1 rfl) ?_
  refine z_xi (G := G) (w := w) (wr := ([(o, zOut G fo)] : va_W)) (vx_runV (As := [.int a1]) (rest := [.int 0, .ref o]) ⟨hx, hb, hml, hown, hts⟩ (c_X6_stateOf l hst G d r A mc g N T w K a1 s.heap.size hC hI hKk) (cwV 1 hts gL_stateOf_X6_stateOf rfl rfl rfl (by decide +kernel) ⟨Nat.le_of_ble_eq_true rfl, Nat.le_of_ble_eq_true rfl⟩) (z_wv hK (z_apL hP) (ci := 7) (q0 := 0) rfl (hC.1.1 0 (by omega)) (z_apL hP) (z_dL hD) hZ hS hA) rfl rfl hl.1 rfl (lv_room (Nat.le_of_ble_eq_true rfl)) dL_stateOf_4 ⟨Nat.le_of_eq (Nat.zero_add _), Nat.le_of_eq (Nat.zero_add _)⟩) hP hD hS hA (fun i E ce q9 Hz Lz hk hE hP hS hce hcv hcl => ?_) (fun rz w1 Hz Lz hq hP hD hS => ?_)
  · have hi : i < 1 := (List.getElem?_eq_some_iff.mp hE).1
    obtain rfl : i = 0 := by omega
    have hE : E = "java/lang/IndexOutOfBoundsException" := (Option.some.inj hE).symm
    subst hE
    refine vx_catch (own := RL) (name := "java/lang/IndexOutOfBoundsException") hown [] ⟨0, 9, 12, 13⟩ [] htab (fun _ h => absurd h List.not_mem_nil) rfl (by decide) (hts (.classLink RL 13 "java/lang/IndexOutOfBoundsException") (List.mem_of_getElem? (i := 1) rfl)) (va_Nw.use (w := .castable "java/lang/IndexOutOfBoundsException" "java/lang/IndexOutOfBoundsException") rfl (hX.1 0 (by omega))) hce hcv hcl ?_
    refine lv_astore_n (lv' := [(3, .ref q9), (0, .ref (r 0)), (1, .int a1), (2, .ref o)]) hx hb dL_stateOf_12 rfl hl (by decide) rfl (fun ls hl => ?_)
    refine lv_iconst (v := 1) hx hb dL_stateOf_13 (by decide) ?_
    exact vx_ret (z_widen (k := 8) (n := 200) (Nat.le_of_eq (Nat.zero_add _)) (Nat.le_of_eq (Nat.zero_add _)) (W.iret (v := 1) hx hb hr (fun t ht hW => ⟨⟨1, (w ++ ([(o, zOut G fo)] : va_W)), rfl, ⟨hk.symm, w, fo, rfl, fun h => absurd h (by decide), fun _ => ⟨A, mc, g, hC⟩⟩, ⟨by rw [ht]; exact hP, hD⟩⟩, hS.F ht⟩) hS.2.2 dL_stateOf_14 hlocks))
  · obtain ⟨hk0, hra, hco⟩ := hq
    subst hra
    refine lv_i2l (v := (T 16 a1.toNatClampNeg : Int32).toInt64) hx hb dL_stateOf_7 rfl ?_
    refine z_lay hx hb hK hP hD hS dL_stateOf_8 (fun Hz Lz hP hD hS => ?_)
    refine lv_goto (tgt := 15) hx hb dL_stateOf_9 (by decide) ?_
    refine lv_iconst (v := 0) hx hb dL_stateOf_15 (by decide) ?_
    exact vx_ret (z_widen (k := 8) (n := 200) (Nat.le_of_eq (Nat.zero_add _)) (Nat.le_of_eq (Nat.zero_add _)) (W.iret (v := 0) hx hb hr (fun t ht hW => ⟨⟨0, (w1 ++ ([(o, zOut G (vp_updL fo 0 (T 16 a1.toNatClampNeg : Int32).toInt64))] : va_W)), rfl, ⟨hk0.symm, w1, _, rfl, fun _ => ⟨pk_uLs, hco⟩, fun h => absurd rfl h⟩, ⟨by rw [ht]; exact hP, hD⟩⟩, hS.F ht⟩) hS.2.2 dL_stateOf_16 hlocks))

set_option maxHeartbeats 4000000 in
set_option maxRecDepth 100000 in
theorem h_insert (l : Launch) (hst : l.stackTraces = false) (G : zG) (d : Nat) (r A : Nat → Nat) (mc : Nat → Int32) (g : Nat → Nat → Int32) (N : Nat → Nat) (T : Nat → Nat → Int32) (w : va_W) (K : Nat) (a1 a2 : Int32) (o : Nat) (fo : Nat → Int64) (sz : Nat) (hC : sCQ G d r A mc g N T w) (hI : sInv N T K 0) (hKk : K ≤ 511) (hx9 : ∃ x : Nat, x < 65536 ∧ a2 = nI x) : vx_Met l yL_insert wsL_insert ({ frames := 7, cells := 8, slots := 200, locals := 112 }) (va_Pc [.ref (r 0), .int a1, .int a2, .ref o] (zHu G d (w ++ ([(o, zOut G fo)] : va_W)) sz)) (va_Qi (fun (k : Int32) (w1 : va_W) => k = sK2 (sIn a1 0 (nI (N 4))) (!decide (N 4 = 40)) ∧ zHq G d r o k (nI (N 4 + 1) : Int32).toInt64 N T ((nIns N T a1 a2).1) ((nIns N T a1 a2).2) w1) (zB G (va_A (w ++ ([(o, zOut G fo)] : va_W)) sz)) (va_A (w ++ ([(o, zOut G fo)] : va_W)) sz)) (zXk [] 0) (8) (200) (va_A (w ++ ([(o, zOut G fo)] : va_W)) sz) := by
  refine vx_ofWH (cc := cL_insert) (maxL := 5) (ret := (some .int)) (hh := [(0, 10, 13, 15), (0, 10, 17, 17)]) (by decide) rfl ?_
  intro p e s m args below meth c s₁ B hml hv
  obtain ⟨rfl, ⟨hsz, hP, hK, hD0, hZ⟩, hX⟩ := hv
  have hx := B.exec
  have hb := B.bytes
  have hr := B.returns
  have hts := atoms_spec (ws := wsL_insert) B.pre
  have hown : s.vm.findClass RL = some m.cls := findClass_of_methodNamed B.named
  have hlocks := B.notSynchronized
  have htab := vx_table (x := yL_insert) B (hts _ (List.mem_of_getElem? (i := 0) rfl))
  subst hsz
  have hD := hD0.self (sz := s.heap.size)
  generalize hAe : va_A (w ++ ([(o, zOut G fo)] : va_W)) s.heap.size = Aw at hD hZ ⊢
  have hA : ∀ q : Nat, s.heap.size ≤ q → Aw q := fun q h => by rw [← hAe]; exact Or.inr h
  have hS : va_S Aw s.heap s.heap [] := va_S.rf
  have hl := lv_entry ([.ref (r 0), .int a1, .int a2, .ref o]) (n := 5) (Nat.le_of_ble_eq_true rfl)
  rw [lg_entry_eq]
  generalize (lg_sl ([.ref (r 0), .int a1, .int a2, .ref o]) ++ List.replicate (5 - (lg_sl ([.ref (r 0), .int a1, .int a2, .ref o])).length) Slot.unset).toArray = ls at hl ⊢
  have hl : lv_has ls 5 [(0, .ref (r 0)), (1, .int a1), (2, .int a2), (3, .ref o)] := hl
  refine lv_aload_n hx hb dL_insert_0 rfl (lv_at hl 3 rfl) ?_
  refine lv_iconst (v := 0) hx hb dL_insert_1 (by decide) ?_
  refine lv_aload_n hx hb dL_insert_2 rfl (lv_at hl 0 rfl) ?_
  refine lv_iload_n hx hb dL_insert_3 rfl (lv_at hl 1 rfl) ?_
  refine lv_iload_n hx hb dL_insert_4 rfl (lv_at hl 2 rfl) ?_
  refine z_xi (G := G) (w := w) (wr := ([(o, zOut G fo)] : va_W)) (vx_runV (As := [.int a1, .int a2]) (rest := [.int 0, .ref o]) ⟨hx, hb, hml, hown, hts⟩ (c_X6_insert l hst G d r A mc g N T w K a1 a2 s.heap.size hC hI hKk hx9) (cwV 2 hts gL_insert_X6_insert rfl rfl rfl (by decide +kernel) ⟨Nat.le_of_ble_eq_true rfl, Nat.le_of_ble_eq_true rfl⟩) (z_wv hK (z_apL hP) (ci := 7) (q0 := 0) rfl (hC.1.1 0 (by omega)) (z_apL hP) (z_dL hD) hZ hS hA) rfl rfl hl.1 rfl (lv_room (Nat.le_of_ble_eq_true rfl)) dL_insert_5 ⟨Nat.le_of_eq (Nat.zero_add _), Nat.le_of_eq (Nat.zero_add _)⟩) hP hD hS hA (fun i E ce q9 Hz Lz hk hE hP hS hce hcv hcl => ?_) (fun rz w1 Hz Lz hq hP hD hS => ?_)
  · have hi : i < 2 := (List.getElem?_eq_some_iff.mp hE).1
    rcases (show i = 0 ∨ i = 1 by omega) with rfl | rfl
    · skip
      have hE : E = "java/lang/IllegalArgumentException" := (Option.some.inj hE).symm
      subst hE
      refine vx_catch (own := RL) (name := "java/lang/IllegalArgumentException") hown [] ⟨0, 10, 13, 15⟩ [⟨0, 10, 17, 17⟩] htab (fun _ h => absurd h List.not_mem_nil) rfl (by decide) (hts (.classLink RL 15 "java/lang/IllegalArgumentException") (List.mem_of_getElem? (i := 1) rfl)) (va_Nw.use (w := .castable "java/lang/IllegalArgumentException" "java/lang/IllegalArgumentException") rfl (hX.1 1 (by omega))) hce hcv hcl ?_
      refine lv_astore (lv' := [(4, .ref q9), (0, .ref (r 0)), (1, .int a1), (2, .int a2), (3, .ref o)]) hx hb dL_insert_13 hl (by decide) rfl (fun ls hl => ?_)
      refine lv_iconst (v := 1) hx hb dL_insert_15 (by decide) ?_
      exact vx_ret (z_widen (k := 8) (n := 200) (Nat.le_of_eq (Nat.zero_add _)) (Nat.le_of_eq (Nat.zero_add _)) (W.iret (v := 1) hx hb hr (fun t ht hW => ⟨⟨1, (w ++ ([(o, zOut G fo)] : va_W)), rfl, ⟨hk.symm, w, fo, rfl, fun h => absurd h (by decide), fun _ => ⟨A, mc, g, hC⟩⟩, ⟨by rw [ht]; exact hP, hD⟩⟩, hS.F ht⟩) hS.2.2 dL_insert_16 hlocks))
    · skip
      have hE : E = "java/lang/IllegalStateException" := (Option.some.inj hE).symm
      subst hE
      refine vx_catch (own := RL) (name := "java/lang/IllegalStateException") hown [⟨0, 10, 13, 15⟩] ⟨0, 10, 17, 17⟩ [] htab (List.forall_mem_cons.mpr ⟨Or.inr ⟨by decide, "java/lang/IllegalArgumentException", hts (.classLink RL 15 "java/lang/IllegalArgumentException") (List.mem_of_getElem? (i := 1) rfl), hX.2 2 1 (by omega) (by omega) (by decide)⟩, fun _ h => absurd h List.not_mem_nil⟩) rfl (by decide) (hts (.classLink RL 17 "java/lang/IllegalStateException") (List.mem_of_getElem? (i := 2) rfl)) (va_Nw.use (w := .castable "java/lang/IllegalStateException" "java/lang/IllegalStateException") rfl (hX.1 2 (by omega))) hce hcv hcl ?_
      refine lv_astore (lv' := [(4, .ref q9), (0, .ref (r 0)), (1, .int a1), (2, .int a2), (3, .ref o)]) hx hb dL_insert_17 hl (by decide) rfl (fun ls hl => ?_)
      refine lv_iconst (v := 2) hx hb dL_insert_19 (by decide) ?_
      exact vx_ret (z_widen (k := 8) (n := 200) (Nat.le_of_eq (Nat.zero_add _)) (Nat.le_of_eq (Nat.zero_add _)) (W.iret (v := 2) hx hb hr (fun t ht hW => ⟨⟨2, (w ++ ([(o, zOut G fo)] : va_W)), rfl, ⟨hk.symm, w, fo, rfl, fun h => absurd h (by decide), fun _ => ⟨A, mc, g, hC⟩⟩, ⟨by rw [ht]; exact hP, hD⟩⟩, hS.F ht⟩) hS.2.2 dL_insert_20 hlocks))
  · obtain ⟨hk0, hra, hco⟩ := hq
    subst hra
    refine lv_i2l (v := (nI (N 4 + 1) : Int32).toInt64) hx hb dL_insert_8 rfl ?_
    refine z_lay hx hb hK hP hD hS dL_insert_9 (fun Hz Lz hP hD hS => ?_)
    refine lv_goto (tgt := 21) hx hb dL_insert_10 (by decide) ?_
    refine lv_iconst (v := 0) hx hb dL_insert_21 (by decide) ?_
    exact vx_ret (z_widen (k := 8) (n := 200) (Nat.le_of_eq (Nat.zero_add _)) (Nat.le_of_eq (Nat.zero_add _)) (W.iret (v := 0) hx hb hr (fun t ht hW => ⟨⟨0, (w1 ++ ([(o, zOut G (vp_updL fo 0 (nI (N 4 + 1) : Int32).toInt64))] : va_W)), rfl, ⟨hk0.symm, w1, _, rfl, fun _ => ⟨pk_uLs, hco⟩, fun h => absurd rfl h⟩, ⟨by rw [ht]; exact hP, hD⟩⟩, hS.F ht⟩) hS.2.2 dL_insert_22 hlocks))

set_option maxHeartbeats 4000000 in
set_option maxRecDepth 100000 in
theorem h_post (l : Launch) (hst : l.stackTraces = false) (G : zG) (d : Nat) (r A : Nat → Nat) (mc : Nat → Int32) (g : Nat → Nat → Int32) (N : Nat → Nat) (T : Nat → Nat → Int32) (w : va_W) (K : Nat) (a1 a2 : Int32) (o : Nat) (fo : Nat → Int64) (sz : Nat) (hC : sCQ G d r A mc g N T w) (hI : sInv N T K 0) (hKk : K ≤ 511) : vx_Met l yL_post wsL_post ({ frames := 8, cells := (8 + zmc (sK2 ((sIx a1 9) && (decide (a2 = -1) || sIx a2 (N 6))) (((decide (T 2 a1.toNatClampNeg = 0)) && (sGood (T 17) (N 4))) && !decide (N 5 = 60))) (N 1) ((nPost N T a2).1 1)), slots := (200 + zms (sK2 ((sIx a1 9) && (decide (a2 = -1) || sIx a2 (N 6))) (((decide (T 2 a1.toNatClampNeg = 0)) && (sGood (T 17) (N 4))) && !decide (N 5 = 60))) (N 1) ((nPost N T a2).1 1)), locals := 195 }) (va_Pc [.ref (r 0), .int a1, .int a2, .ref o] (zHu G d (w ++ ([(o, zOut G fo)] : va_W)) sz)) (va_Qi (fun (k : Int32) (w1 : va_W) => k = sK2 ((sIx a1 9) && (decide (a2 = -1) || sIx a2 (N 6))) (((decide (T 2 a1.toNatClampNeg = 0)) && (sGood (T 17) (N 4))) && !decide (N 5 = 60)) ∧ zHq G d r o k (rPost N a2 : Int32).toInt64 N T ((nPost N T a2).1) ((nPost N T a2).2) w1) (zB G (va_A (w ++ ([(o, zOut G fo)] : va_W)) sz)) (va_A (w ++ ([(o, zOut G fo)] : va_W)) sz)) (zXk [] 0) ((8 + zmc (sK2 ((sIx a1 9) && (decide (a2 = -1) || sIx a2 (N 6))) (((decide (T 2 a1.toNatClampNeg = 0)) && (sGood (T 17) (N 4))) && !decide (N 5 = 60))) (N 1) ((nPost N T a2).1 1))) ((200 + zms (sK2 ((sIx a1 9) && (decide (a2 = -1) || sIx a2 (N 6))) (((decide (T 2 a1.toNatClampNeg = 0)) && (sGood (T 17) (N 4))) && !decide (N 5 = 60))) (N 1) ((nPost N T a2).1 1))) (va_A (w ++ ([(o, zOut G fo)] : va_W)) sz) := by
  refine vx_ofWH (cc := cL_post) (maxL := 5) (ret := (some .int)) (hh := [(0, 10, 13, 13), (0, 10, 17, 17)]) (by decide) rfl ?_
  intro p e s m args below meth c s₁ B hml hv
  obtain ⟨rfl, ⟨hsz, hP, hK, hD0, hZ⟩, hX⟩ := hv
  have hx := B.exec
  have hb := B.bytes
  have hr := B.returns
  have hts := atoms_spec (ws := wsL_post) B.pre
  have hown : s.vm.findClass RL = some m.cls := findClass_of_methodNamed B.named
  have hlocks := B.notSynchronized
  have htab := vx_table (x := yL_post) B (hts _ (List.mem_of_getElem? (i := 0) rfl))
  subst hsz
  have hD := hD0.self (sz := s.heap.size)
  generalize hAe : va_A (w ++ ([(o, zOut G fo)] : va_W)) s.heap.size = Aw at hD hZ ⊢
  have hA : ∀ q : Nat, s.heap.size ≤ q → Aw q := fun q h => by rw [← hAe]; exact Or.inr h
  have hS : va_S Aw s.heap s.heap [] := va_S.rf
  have hl := lv_entry ([.ref (r 0), .int a1, .int a2, .ref o]) (n := 5) (Nat.le_of_ble_eq_true rfl)
  rw [lg_entry_eq]
  generalize (lg_sl ([.ref (r 0), .int a1, .int a2, .ref o]) ++ List.replicate (5 - (lg_sl ([.ref (r 0), .int a1, .int a2, .ref o])).length) Slot.unset).toArray = ls at hl ⊢
  have hl : lv_has ls 5 [(0, .ref (r 0)), (1, .int a1), (2, .int a2), (3, .ref o)] := hl
  refine lv_aload_n hx hb dL_post_0 rfl (lv_at hl 3 rfl) ?_
  refine lv_iconst (v := 0) hx hb dL_post_1 (by decide) ?_
  refine lv_aload_n hx hb dL_post_2 rfl (lv_at hl 0 rfl) ?_
  refine lv_iload_n hx hb dL_post_3 rfl (lv_at hl 1 rfl) ?_
  refine lv_iload_n hx hb dL_post_4 rfl (lv_at hl 2 rfl) ?_
  refine z_xi (G := G) (w := w) (wr := ([(o, zOut G fo)] : va_W)) (vx_runV (As := [.int a1, .int a2]) (rest := [.int 0, .ref o]) ⟨hx, hb, hml, hown, hts⟩ (c_X6_post l hst G d r A mc g N T w K a1 a2 s.heap.size hC hI hKk) (cwV 2 hts gL_post_X6_post rfl rfl rfl (by decide +kernel) ⟨Nat.le_of_ble_eq_true rfl, Nat.le_of_ble_eq_true rfl⟩) (z_wv hK (z_apL hP) (ci := 7) (q0 := 0) rfl (hC.1.1 0 (by omega)) (z_apL hP) (z_dL hD) hZ hS hA) rfl rfl hl.1 rfl (lv_room (Nat.le_of_ble_eq_true rfl)) dL_post_5 ⟨Nat.le_of_eq (Nat.zero_add _), Nat.le_of_eq (Nat.zero_add _)⟩) hP hD hS hA (fun i E ce q9 Hz Lz hk hE hP hS hce hcv hcl => ?_) (fun rz w1 Hz Lz hq hP hD hS => ?_)
  · have hi : i < 2 := (List.getElem?_eq_some_iff.mp hE).1
    rcases (show i = 0 ∨ i = 1 by omega) with rfl | rfl
    · skip
      have hE : E = "java/lang/IndexOutOfBoundsException" := (Option.some.inj hE).symm
      subst hE
      refine vx_catch (own := RL) (name := "java/lang/IndexOutOfBoundsException") hown [] ⟨0, 10, 13, 13⟩ [⟨0, 10, 17, 17⟩] htab (fun _ h => absurd h List.not_mem_nil) rfl (by decide) (hts (.classLink RL 13 "java/lang/IndexOutOfBoundsException") (List.mem_of_getElem? (i := 1) rfl)) (va_Nw.use (w := .castable "java/lang/IndexOutOfBoundsException" "java/lang/IndexOutOfBoundsException") rfl (hX.1 0 (by omega))) hce hcv hcl ?_
      refine lv_astore (lv' := [(4, .ref q9), (0, .ref (r 0)), (1, .int a1), (2, .int a2), (3, .ref o)]) hx hb dL_post_13 hl (by decide) rfl (fun ls hl => ?_)
      refine lv_iconst (v := 1) hx hb dL_post_15 (by decide) ?_
      exact vx_ret (z_widen (k := (8 + zmc (sK2 ((sIx a1 9) && (decide (a2 = -1) || sIx a2 (N 6))) (((decide (T 2 a1.toNatClampNeg = 0)) && (sGood (T 17) (N 4))) && !decide (N 5 = 60))) (N 1) ((nPost N T a2).1 1))) (n := (200 + zms (sK2 ((sIx a1 9) && (decide (a2 = -1) || sIx a2 (N 6))) (((decide (T 2 a1.toNatClampNeg = 0)) && (sGood (T 17) (N 4))) && !decide (N 5 = 60))) (N 1) ((nPost N T a2).1 1))) (Nat.le_of_eq (Nat.zero_add _)) (Nat.le_of_eq (Nat.zero_add _)) (W.iret (v := 1) hx hb hr (fun t ht hW => ⟨⟨1, (w ++ ([(o, zOut G fo)] : va_W)), rfl, ⟨hk.symm, w, fo, rfl, fun h => absurd h (by decide), fun _ => ⟨A, mc, g, hC⟩⟩, ⟨by rw [ht]; exact hP, hD⟩⟩, hS.F ht⟩) hS.2.2 dL_post_16 hlocks))
    · skip
      have hE : E = "java/lang/IllegalStateException" := (Option.some.inj hE).symm
      subst hE
      refine vx_catch (own := RL) (name := "java/lang/IllegalStateException") hown [⟨0, 10, 13, 13⟩] ⟨0, 10, 17, 17⟩ [] htab (List.forall_mem_cons.mpr ⟨Or.inr ⟨by decide, "java/lang/IndexOutOfBoundsException", hts (.classLink RL 13 "java/lang/IndexOutOfBoundsException") (List.mem_of_getElem? (i := 1) rfl), hX.2 2 0 (by omega) (by omega) (by decide)⟩, fun _ h => absurd h List.not_mem_nil⟩) rfl (by decide) (hts (.classLink RL 17 "java/lang/IllegalStateException") (List.mem_of_getElem? (i := 2) rfl)) (va_Nw.use (w := .castable "java/lang/IllegalStateException" "java/lang/IllegalStateException") rfl (hX.1 2 (by omega))) hce hcv hcl ?_
      refine lv_astore (lv' := [(4, .ref q9), (0, .ref (r 0)), (1, .int a1), (2, .int a2), (3, .ref o)]) hx hb dL_post_17 hl (by decide) rfl (fun ls hl => ?_)
      refine lv_iconst (v := 2) hx hb dL_post_19 (by decide) ?_
      exact vx_ret (z_widen (k := (8 + zmc (sK2 ((sIx a1 9) && (decide (a2 = -1) || sIx a2 (N 6))) (((decide (T 2 a1.toNatClampNeg = 0)) && (sGood (T 17) (N 4))) && !decide (N 5 = 60))) (N 1) ((nPost N T a2).1 1))) (n := (200 + zms (sK2 ((sIx a1 9) && (decide (a2 = -1) || sIx a2 (N 6))) (((decide (T 2 a1.toNatClampNeg = 0)) && (sGood (T 17) (N 4))) && !decide (N 5 = 60))) (N 1) ((nPost N T a2).1 1))) (Nat.le_of_eq (Nat.zero_add _)) (Nat.le_of_eq (Nat.zero_add _)) (W.iret (v := 2) hx hb hr (fun t ht hW => ⟨⟨2, (w ++ ([(o, zOut G fo)] : va_W)), rfl, ⟨hk.symm, w, fo, rfl, fun h => absurd h (by decide), fun _ => ⟨A, mc, g, hC⟩⟩, ⟨by rw [ht]; exact hP, hD⟩⟩, hS.F ht⟩) hS.2.2 dL_post_20 hlocks))
  · obtain ⟨hk0, hra, hco⟩ := hq
    subst hra
    refine lv_i2l (v := (rPost N a2 : Int32).toInt64) hx hb dL_post_8 rfl ?_
    refine z_lay hx hb hK hP hD hS dL_post_9 (fun Hz Lz hP hD hS => ?_)
    refine lv_goto (tgt := 21) hx hb dL_post_10 (by decide) ?_
    refine lv_iconst (v := 0) hx hb dL_post_21 (by decide) ?_
    exact vx_ret (z_widen (k := (8 + zmc (sK2 ((sIx a1 9) && (decide (a2 = -1) || sIx a2 (N 6))) (((decide (T 2 a1.toNatClampNeg = 0)) && (sGood (T 17) (N 4))) && !decide (N 5 = 60))) (N 1) ((nPost N T a2).1 1))) (n := (200 + zms (sK2 ((sIx a1 9) && (decide (a2 = -1) || sIx a2 (N 6))) (((decide (T 2 a1.toNatClampNeg = 0)) && (sGood (T 17) (N 4))) && !decide (N 5 = 60))) (N 1) ((nPost N T a2).1 1))) (Nat.le_of_eq (Nat.zero_add _)) (Nat.le_of_eq (Nat.zero_add _)) (W.iret (v := 0) hx hb hr (fun t ht hW => ⟨⟨0, (w1 ++ ([(o, zOut G (vp_updL fo 0 (rPost N a2 : Int32).toInt64))] : va_W)), rfl, ⟨hk0.symm, w1, _, rfl, fun _ => ⟨pk_uLs, hco⟩, fun h => absurd rfl h⟩, ⟨by rw [ht]; exact hP, hD⟩⟩, hS.F ht⟩) hS.2.2 dL_post_22 hlocks))

set_option maxHeartbeats 4000000 in
set_option maxRecDepth 100000 in
theorem h_finish (l : Launch) (hst : l.stackTraces = false) (G : zG) (d : Nat) (r A : Nat → Nat) (mc : Nat → Int32) (g : Nat → Nat → Int32) (N : Nat → Nat) (T : Nat → Nat → Int32) (w : va_W) (K : Nat) (a1 a2 : Int32) (sz : Nat) (hC : sCQ G d r A mc g N T w) (hI : sInv N T K 0) (hKk : K ≤ 511) : vx_Met l yL_finish wsL_finish ({ frames := 8, cells := (8 + zmc (sK2 ((sIx a1 9) && (sIx a2 (N 6))) ((decide (T 18 a2.toNatClampNeg = a1)) && (decide (T 2 a1.toNatClampNeg = 0)))) (N 1) (N 1 + 1)), slots := (200 + zms (sK2 ((sIx a1 9) && (sIx a2 (N 6))) ((decide (T 18 a2.toNatClampNeg = a1)) && (decide (T 2 a1.toNatClampNeg = 0)))) (N 1) (N 1 + 1)), locals := 133 }) (va_Pc [.ref (r 0), .int a1, .int a2] (zHu G d w sz)) (va_Qi (fun (k : Int32) (w1 : va_W) => k = sK2 ((sIx a1 9) && (sIx a2 (N 6))) ((decide (T 18 a2.toNatClampNeg = a1)) && (decide (T 2 a1.toNatClampNeg = 0))) ∧ (k = 0 → sCO G d r ((nFin N T a1 a2).1) ((nFin N T a1 a2).2) w1) ∧ (¬ k = 0 → sCO G d r N T w1)) (zB G (va_A w sz)) (va_A w sz)) (zXk [] 0) ((8 + zmc (sK2 ((sIx a1 9) && (sIx a2 (N 6))) ((decide (T 18 a2.toNatClampNeg = a1)) && (decide (T 2 a1.toNatClampNeg = 0)))) (N 1) (N 1 + 1))) ((200 + zms (sK2 ((sIx a1 9) && (sIx a2 (N 6))) ((decide (T 18 a2.toNatClampNeg = a1)) && (decide (T 2 a1.toNatClampNeg = 0)))) (N 1) (N 1 + 1))) (va_A w sz) := by
  refine vx_ofWH (cc := cL_finish) (maxL := 4) (ret := (some .int)) (hh := [(0, 6, 9, 13), (0, 6, 12, 17)]) (by decide) rfl ?_
  intro p e s m args below meth c s₁ B hml hv
  obtain ⟨rfl, ⟨hsz, hP, hK, hD0, hZ⟩, hX⟩ := hv
  have hx := B.exec
  have hb := B.bytes
  have hr := B.returns
  have hts := atoms_spec (ws := wsL_finish) B.pre
  have hown : s.vm.findClass RL = some m.cls := findClass_of_methodNamed B.named
  have hlocks := B.notSynchronized
  have htab := vx_table (x := yL_finish) B (hts _ (List.mem_of_getElem? (i := 0) rfl))
  subst hsz
  have hD := hD0.self (sz := s.heap.size)
  generalize hAe : va_A w s.heap.size = Aw at hD hZ ⊢
  have hA : ∀ q : Nat, s.heap.size ≤ q → Aw q := fun q h => by rw [← hAe]; exact Or.inr h
  have hS : va_S Aw s.heap s.heap [] := va_S.rf
  have hl := lv_entry ([.ref (r 0), .int a1, .int a2]) (n := 4) (Nat.le_of_ble_eq_true rfl)
  rw [lg_entry_eq]
  generalize (lg_sl ([.ref (r 0), .int a1, .int a2]) ++ List.replicate (4 - (lg_sl ([.ref (r 0), .int a1, .int a2])).length) Slot.unset).toArray = ls at hl ⊢
  have hl : lv_has ls 4 [(0, .ref (r 0)), (1, .int a1), (2, .int a2)] := hl
  have hP : va_P G.1 vwCl (w ++ ([] : va_W)) s.heap := by rw [List.append_nil]; exact hP
  have hD : va_D Aw (w ++ ([] : va_W)) := by rw [List.append_nil]; exact hD
  refine lv_aload_n hx hb dL_finish_0 rfl (lv_at hl 0 rfl) ?_
  refine lv_iload_n hx hb dL_finish_1 rfl (lv_at hl 1 rfl) ?_
  refine lv_iload_n hx hb dL_finish_2 rfl (lv_at hl 2 rfl) ?_
  refine z_xv (G := G) (w := w) (wr := ([] : va_W)) (vx_runV (As := [.int a1, .int a2]) (rest := []) ⟨hx, hb, hml, hown, hts⟩ (c_X6_finish l hst G d r A mc g N T w K a1 a2 s.heap.size hC hI hKk) (cwV 2 hts gL_finish_X6_finish rfl rfl rfl (by decide +kernel) ⟨Nat.le_of_ble_eq_true rfl, Nat.le_of_ble_eq_true rfl⟩) (z_wv hK (z_apL hP) (ci := 7) (q0 := 0) rfl (hC.1.1 0 (by omega)) (z_apL hP) (z_dL hD) hZ hS hA) rfl rfl hl.1 rfl (lv_room (Nat.le_of_ble_eq_true rfl)) dL_finish_3 ⟨Nat.le_of_eq (Nat.zero_add _), Nat.le_of_eq (Nat.zero_add _)⟩) hP hD hS hA (fun i E ce q9 Hz Lz hk hE hP hS hce hcv hcl => ?_) (fun  w1 Hz Lz hq hP hD hS => ?_)
  · have hi : i < 2 := (List.getElem?_eq_some_iff.mp hE).1
    rcases (show i = 0 ∨ i = 1 by omega) with rfl | rfl
    · skip
      have hE : E = "java/lang/IndexOutOfBoundsException" := (Option.some.inj hE).symm
      subst hE
      refine vx_catch (own := RL) (name := "java/lang/IndexOutOfBoundsException") hown [] ⟨0, 6, 9, 13⟩ [⟨0, 6, 12, 17⟩] htab (fun _ h => absurd h List.not_mem_nil) rfl (by decide) (hts (.classLink RL 13 "java/lang/IndexOutOfBoundsException") (List.mem_of_getElem? (i := 1) rfl)) (va_Nw.use (w := .castable "java/lang/IndexOutOfBoundsException" "java/lang/IndexOutOfBoundsException") rfl (hX.1 0 (by omega))) hce hcv hcl ?_
      refine lv_astore_n (lv' := [(3, .ref q9), (0, .ref (r 0)), (1, .int a1), (2, .int a2)]) hx hb dL_finish_9 rfl hl (by decide) rfl (fun ls hl => ?_)
      refine lv_iconst (v := 1) hx hb dL_finish_10 (by decide) ?_
      rw [List.append_nil] at hP hD
      exact vx_ret (z_widen (k := (8 + zmc (sK2 ((sIx a1 9) && (sIx a2 (N 6))) ((decide (T 18 a2.toNatClampNeg = a1)) && (decide (T 2 a1.toNatClampNeg = 0)))) (N 1) (N 1 + 1))) (n := (200 + zms (sK2 ((sIx a1 9) && (sIx a2 (N 6))) ((decide (T 18 a2.toNatClampNeg = a1)) && (decide (T 2 a1.toNatClampNeg = 0)))) (N 1) (N 1 + 1))) (Nat.le_of_eq (Nat.zero_add _)) (Nat.le_of_eq (Nat.zero_add _)) (W.iret (v := 1) hx hb hr (fun t ht hW => ⟨⟨1, w, rfl, ⟨hk.symm, fun h => absurd h (by decide), fun _ => ⟨A, mc, g, hC⟩⟩, ⟨by rw [ht]; exact hP, hD⟩⟩, hS.F ht⟩) hS.2.2 dL_finish_11 hlocks))
    · skip
      have hE : E = "java/lang/IllegalStateException" := (Option.some.inj hE).symm
      subst hE
      refine vx_catch (own := RL) (name := "java/lang/IllegalStateException") hown [⟨0, 6, 9, 13⟩] ⟨0, 6, 12, 17⟩ [] htab (List.forall_mem_cons.mpr ⟨Or.inr ⟨by decide, "java/lang/IndexOutOfBoundsException", hts (.classLink RL 13 "java/lang/IndexOutOfBoundsException") (List.mem_of_getElem? (i := 1) rfl), hX.2 2 0 (by omega) (by omega) (by decide)⟩, fun _ h => absurd h List.not_mem_nil⟩) rfl (by decide) (hts (.classLink RL 17 "java/lang/IllegalStateException") (List.mem_of_getElem? (i := 2) rfl)) (va_Nw.use (w := .castable "java/lang/IllegalStateException" "java/lang/IllegalStateException") rfl (hX.1 2 (by omega))) hce hcv hcl ?_
      refine lv_astore_n (lv' := [(3, .ref q9), (0, .ref (r 0)), (1, .int a1), (2, .int a2)]) hx hb dL_finish_12 rfl hl (by decide) rfl (fun ls hl => ?_)
      refine lv_iconst (v := 2) hx hb dL_finish_13 (by decide) ?_
      rw [List.append_nil] at hP hD
      exact vx_ret (z_widen (k := (8 + zmc (sK2 ((sIx a1 9) && (sIx a2 (N 6))) ((decide (T 18 a2.toNatClampNeg = a1)) && (decide (T 2 a1.toNatClampNeg = 0)))) (N 1) (N 1 + 1))) (n := (200 + zms (sK2 ((sIx a1 9) && (sIx a2 (N 6))) ((decide (T 18 a2.toNatClampNeg = a1)) && (decide (T 2 a1.toNatClampNeg = 0)))) (N 1) (N 1 + 1))) (Nat.le_of_eq (Nat.zero_add _)) (Nat.le_of_eq (Nat.zero_add _)) (W.iret (v := 2) hx hb hr (fun t ht hW => ⟨⟨2, w, rfl, ⟨hk.symm, fun h => absurd h (by decide), fun _ => ⟨A, mc, g, hC⟩⟩, ⟨by rw [ht]; exact hP, hD⟩⟩, hS.F ht⟩) hS.2.2 dL_finish_14 hlocks))
  · obtain ⟨hk0, hco⟩ := hq
    refine lv_goto (tgt := 15) hx hb dL_finish_6 (by decide) ?_
    refine lv_iconst (v := 0) hx hb dL_finish_15 (by decide) ?_
    rw [List.append_nil] at hP hD
    exact vx_ret (z_widen (k := (8 + zmc (sK2 ((sIx a1 9) && (sIx a2 (N 6))) ((decide (T 18 a2.toNatClampNeg = a1)) && (decide (T 2 a1.toNatClampNeg = 0)))) (N 1) (N 1 + 1))) (n := (200 + zms (sK2 ((sIx a1 9) && (sIx a2 (N 6))) ((decide (T 18 a2.toNatClampNeg = a1)) && (decide (T 2 a1.toNatClampNeg = 0)))) (N 1) (N 1 + 1))) (Nat.le_of_eq (Nat.zero_add _)) (Nat.le_of_eq (Nat.zero_add _)) (W.iret (v := 0) hx hb hr (fun t ht hW => ⟨⟨0, w1, rfl, ⟨hk0.symm, fun _ => hco, fun h => absurd rfl h⟩, ⟨by rw [ht]; exact hP, hD⟩⟩, hS.F ht⟩) hS.2.2 dL_finish_16 hlocks))

set_option maxHeartbeats 4000000 in
set_option maxRecDepth 100000 in
theorem h_taskOf (l : Launch) (hst : l.stackTraces = false) (G : zG) (d : Nat) (r A : Nat → Nat) (mc : Nat → Int32) (g : Nat → Nat → Int32) (N : Nat → Nat) (T : Nat → Nat → Int32) (w : va_W) (K : Nat) (a1 : Int32) (o : Nat) (fo : Nat → Int64) (sz : Nat) (hC : sCQ G d r A mc g N T w) (hI : sInv N T K 0) (hKk : K ≤ 511) : vx_Met l yL_taskOf wsL_taskOf ({ frames := 8, cells := 8, slots := 200, locals := 132 }) (va_Pc [.ref (r 0), .int a1, .ref o] (zHu G d (w ++ ([(o, zOut G fo)] : va_W)) sz)) (va_Qi (fun (k : Int32) (w1 : va_W) => k = sK1 (sIx a1 (N 6)) ∧ zHq G d r o k (T 18 a1.toNatClampNeg : Int32).toInt64 N T N T w1) (zB G (va_A (w ++ ([(o, zOut G fo)] : va_W)) sz)) (va_A (w ++ ([(o, zOut G fo)] : va_W)) sz)) (zXk [] 0) (8) (200) (va_A (w ++ ([(o, zOut G fo)] : va_W)) sz) := by
  refine vx_ofWH (cc := cL_taskOf) (maxL := 4) (ret := (some .int)) (hh := [(0, 9, 12, 13)]) (by decide) rfl ?_
  intro p e s m args below meth c s₁ B hml hv
  obtain ⟨rfl, ⟨hsz, hP, hK, hD0, hZ⟩, hX⟩ := hv
  have hx := B.exec
  have hb := B.bytes
  have hr := B.returns
  have hts := atoms_spec (ws := wsL_taskOf) B.pre
  have hown : s.vm.findClass RL = some m.cls := findClass_of_methodNamed B.named
  have hlocks := B.notSynchronized
  have htab := vx_table (x := yL_taskOf) B (hts _ (List.mem_of_getElem? (i := 0) rfl))
  subst hsz
  have hD := hD0.self (sz := s.heap.size)
  generalize hAe : va_A (w ++ ([(o, zOut G fo)] : va_W)) s.heap.size = Aw at hD hZ ⊢
  have hA : ∀ q : Nat, s.heap.size ≤ q → Aw q := fun q h => by rw [← hAe]; exact Or.inr h
  have hS : va_S Aw s.heap s.heap [] := va_S.rf
  have hl := lv_entry ([.ref (r 0), .int a1, .ref o]) (n := 4) (Nat.le_of_ble_eq_true rfl)
  rw [lg_entry_eq]
  generalize (lg_sl ([.ref (r 0), .int a1, .ref o]) ++ List.replicate (4 - (lg_sl ([.ref (r 0), .int a1, .ref o])).length) Slot.unset).toArray = ls at hl ⊢
  have hl : lv_has ls 4 [(0, .ref (r 0)), (1, .int a1), (2, .ref o)] := hl
  refine lv_aload_n hx hb dL_taskOf_0 rfl (lv_at hl 2 rfl) ?_
  refine lv_iconst (v := 0) hx hb dL_taskOf_1 (by decide) ?_
  refine lv_aload_n hx hb dL_taskOf_2 rfl (lv_at hl 0 rfl) ?_
  refine lv_iload_n hx hb dL_taskOf_3 rfl (lv_at hl 1 rfl) ?_
  refine z_xi (G := G) (w := w) (wr := ([(o, zOut G fo)] : va_W)) (vx_runV (As := [.int a1]) (rest := [.int 0, .ref o]) ⟨hx, hb, hml, hown, hts⟩ (c_X6_taskOf l hst G d r A mc g N T w K a1 s.heap.size hC hI hKk) (cwV 1 hts gL_taskOf_X6_taskOf rfl rfl rfl (by decide +kernel) ⟨Nat.le_of_ble_eq_true rfl, Nat.le_of_ble_eq_true rfl⟩) (z_wv hK (z_apL hP) (ci := 7) (q0 := 0) rfl (hC.1.1 0 (by omega)) (z_apL hP) (z_dL hD) hZ hS hA) rfl rfl hl.1 rfl (lv_room (Nat.le_of_ble_eq_true rfl)) dL_taskOf_4 ⟨Nat.le_of_eq (Nat.zero_add _), Nat.le_of_eq (Nat.zero_add _)⟩) hP hD hS hA (fun i E ce q9 Hz Lz hk hE hP hS hce hcv hcl => ?_) (fun rz w1 Hz Lz hq hP hD hS => ?_)
  · have hi : i < 1 := (List.getElem?_eq_some_iff.mp hE).1
    obtain rfl : i = 0 := by omega
    have hE : E = "java/lang/IndexOutOfBoundsException" := (Option.some.inj hE).symm
    subst hE
    refine vx_catch (own := RL) (name := "java/lang/IndexOutOfBoundsException") hown [] ⟨0, 9, 12, 13⟩ [] htab (fun _ h => absurd h List.not_mem_nil) rfl (by decide) (hts (.classLink RL 13 "java/lang/IndexOutOfBoundsException") (List.mem_of_getElem? (i := 1) rfl)) (va_Nw.use (w := .castable "java/lang/IndexOutOfBoundsException" "java/lang/IndexOutOfBoundsException") rfl (hX.1 0 (by omega))) hce hcv hcl ?_
    refine lv_astore_n (lv' := [(3, .ref q9), (0, .ref (r 0)), (1, .int a1), (2, .ref o)]) hx hb dL_taskOf_12 rfl hl (by decide) rfl (fun ls hl => ?_)
    refine lv_iconst (v := 1) hx hb dL_taskOf_13 (by decide) ?_
    exact vx_ret (z_widen (k := 8) (n := 200) (Nat.le_of_eq (Nat.zero_add _)) (Nat.le_of_eq (Nat.zero_add _)) (W.iret (v := 1) hx hb hr (fun t ht hW => ⟨⟨1, (w ++ ([(o, zOut G fo)] : va_W)), rfl, ⟨hk.symm, w, fo, rfl, fun h => absurd h (by decide), fun _ => ⟨A, mc, g, hC⟩⟩, ⟨by rw [ht]; exact hP, hD⟩⟩, hS.F ht⟩) hS.2.2 dL_taskOf_14 hlocks))
  · obtain ⟨hk0, hra, hco⟩ := hq
    subst hra
    refine lv_i2l (v := (T 18 a1.toNatClampNeg : Int32).toInt64) hx hb dL_taskOf_7 rfl ?_
    refine z_lay hx hb hK hP hD hS dL_taskOf_8 (fun Hz Lz hP hD hS => ?_)
    refine lv_goto (tgt := 15) hx hb dL_taskOf_9 (by decide) ?_
    refine lv_iconst (v := 0) hx hb dL_taskOf_15 (by decide) ?_
    exact vx_ret (z_widen (k := 8) (n := 200) (Nat.le_of_eq (Nat.zero_add _)) (Nat.le_of_eq (Nat.zero_add _)) (W.iret (v := 0) hx hb hr (fun t ht hW => ⟨⟨0, (w1 ++ ([(o, zOut G (vp_updL fo 0 (T 18 a1.toNatClampNeg : Int32).toInt64))] : va_W)), rfl, ⟨hk0.symm, w1, _, rfl, fun _ => ⟨pk_uLs, hco⟩, fun h => absurd rfl h⟩, ⟨by rw [ht]; exact hP, hD⟩⟩, hS.F ht⟩) hS.2.2 dL_taskOf_16 hlocks))

set_option maxHeartbeats 4000000 in
set_option maxRecDepth 100000 in
theorem h_signs (l : Launch) (hst : l.stackTraces = false) (G : zG) (d : Nat) (r A : Nat → Nat) (mc : Nat → Int32) (g : Nat → Nat → Int32) (N : Nat → Nat) (T : Nat → Nat → Int32) (w : va_W) (K : Nat) (a1 : Int32) (o : Nat) (fo : Nat → Int64) (sz : Nat) (hC : sCQ G d r A mc g N T w) (hI : sInv N T K 0) (hKk : K ≤ 511) : vx_Met l yL_signs wsL_signs ({ frames := 8, cells := 8, slots := 200, locals := 132 }) (va_Pc [.ref (r 0), .int a1, .ref o] (zHu G d (w ++ ([(o, zOut G fo)] : va_W)) sz)) (va_Qi (fun (k : Int32) (w1 : va_W) => k = sK1 (sIx a1 (N 5)) ∧ zHq G d r o k (nI (rSigns N T a1.toNatClampNeg) : Int32).toInt64 N T N T w1) (zB G (va_A (w ++ ([(o, zOut G fo)] : va_W)) sz)) (va_A (w ++ ([(o, zOut G fo)] : va_W)) sz)) (zXk [] 0) (8) (200) (va_A (w ++ ([(o, zOut G fo)] : va_W)) sz) := by
  refine vx_ofWH (cc := cL_signs) (maxL := 4) (ret := (some .int)) (hh := [(0, 9, 12, 13)]) (by decide) rfl ?_
  intro p e s m args below meth c s₁ B hml hv
  obtain ⟨rfl, ⟨hsz, hP, hK, hD0, hZ⟩, hX⟩ := hv
  have hx := B.exec
  have hb := B.bytes
  have hr := B.returns
  have hts := atoms_spec (ws := wsL_signs) B.pre
  have hown : s.vm.findClass RL = some m.cls := findClass_of_methodNamed B.named
  have hlocks := B.notSynchronized
  have htab := vx_table (x := yL_signs) B (hts _ (List.mem_of_getElem? (i := 0) rfl))
  subst hsz
  have hD := hD0.self (sz := s.heap.size)
  generalize hAe : va_A (w ++ ([(o, zOut G fo)] : va_W)) s.heap.size = Aw at hD hZ ⊢
  have hA : ∀ q : Nat, s.heap.size ≤ q → Aw q := fun q h => by rw [← hAe]; exact Or.inr h
  have hS : va_S Aw s.heap s.heap [] := va_S.rf
  have hl := lv_entry ([.ref (r 0), .int a1, .ref o]) (n := 4) (Nat.le_of_ble_eq_true rfl)
  rw [lg_entry_eq]
  generalize (lg_sl ([.ref (r 0), .int a1, .ref o]) ++ List.replicate (4 - (lg_sl ([.ref (r 0), .int a1, .ref o])).length) Slot.unset).toArray = ls at hl ⊢
  have hl : lv_has ls 4 [(0, .ref (r 0)), (1, .int a1), (2, .ref o)] := hl
  refine lv_aload_n hx hb dL_signs_0 rfl (lv_at hl 2 rfl) ?_
  refine lv_iconst (v := 0) hx hb dL_signs_1 (by decide) ?_
  refine lv_aload_n hx hb dL_signs_2 rfl (lv_at hl 0 rfl) ?_
  refine lv_iload_n hx hb dL_signs_3 rfl (lv_at hl 1 rfl) ?_
  refine z_xi (G := G) (w := w) (wr := ([(o, zOut G fo)] : va_W)) (vx_runV (As := [.int a1]) (rest := [.int 0, .ref o]) ⟨hx, hb, hml, hown, hts⟩ (c_X6_signs l hst G d r A mc g N T w K a1 s.heap.size hC hI hKk) (cwV 1 hts gL_signs_X6_signs rfl rfl rfl (by decide +kernel) ⟨Nat.le_of_ble_eq_true rfl, Nat.le_of_ble_eq_true rfl⟩) (z_wv hK (z_apL hP) (ci := 7) (q0 := 0) rfl (hC.1.1 0 (by omega)) (z_apL hP) (z_dL hD) hZ hS hA) rfl rfl hl.1 rfl (lv_room (Nat.le_of_ble_eq_true rfl)) dL_signs_4 ⟨Nat.le_of_eq (Nat.zero_add _), Nat.le_of_eq (Nat.zero_add _)⟩) hP hD hS hA (fun i E ce q9 Hz Lz hk hE hP hS hce hcv hcl => ?_) (fun rz w1 Hz Lz hq hP hD hS => ?_)
  · have hi : i < 1 := (List.getElem?_eq_some_iff.mp hE).1
    obtain rfl : i = 0 := by omega
    have hE : E = "java/lang/IndexOutOfBoundsException" := (Option.some.inj hE).symm
    subst hE
    refine vx_catch (own := RL) (name := "java/lang/IndexOutOfBoundsException") hown [] ⟨0, 9, 12, 13⟩ [] htab (fun _ h => absurd h List.not_mem_nil) rfl (by decide) (hts (.classLink RL 13 "java/lang/IndexOutOfBoundsException") (List.mem_of_getElem? (i := 1) rfl)) (va_Nw.use (w := .castable "java/lang/IndexOutOfBoundsException" "java/lang/IndexOutOfBoundsException") rfl (hX.1 0 (by omega))) hce hcv hcl ?_
    refine lv_astore_n (lv' := [(3, .ref q9), (0, .ref (r 0)), (1, .int a1), (2, .ref o)]) hx hb dL_signs_12 rfl hl (by decide) rfl (fun ls hl => ?_)
    refine lv_iconst (v := 1) hx hb dL_signs_13 (by decide) ?_
    exact vx_ret (z_widen (k := 8) (n := 200) (Nat.le_of_eq (Nat.zero_add _)) (Nat.le_of_eq (Nat.zero_add _)) (W.iret (v := 1) hx hb hr (fun t ht hW => ⟨⟨1, (w ++ ([(o, zOut G fo)] : va_W)), rfl, ⟨hk.symm, w, fo, rfl, fun h => absurd h (by decide), fun _ => ⟨A, mc, g, hC⟩⟩, ⟨by rw [ht]; exact hP, hD⟩⟩, hS.F ht⟩) hS.2.2 dL_signs_14 hlocks))
  · obtain ⟨hk0, hra, hco⟩ := hq
    subst hra
    refine lv_i2l (v := (nI (rSigns N T a1.toNatClampNeg) : Int32).toInt64) hx hb dL_signs_7 rfl ?_
    refine z_lay hx hb hK hP hD hS dL_signs_8 (fun Hz Lz hP hD hS => ?_)
    refine lv_goto (tgt := 15) hx hb dL_signs_9 (by decide) ?_
    refine lv_iconst (v := 0) hx hb dL_signs_15 (by decide) ?_
    exact vx_ret (z_widen (k := 8) (n := 200) (Nat.le_of_eq (Nat.zero_add _)) (Nat.le_of_eq (Nat.zero_add _)) (W.iret (v := 0) hx hb hr (fun t ht hW => ⟨⟨0, (w1 ++ ([(o, zOut G (vp_updL fo 0 (nI (rSigns N T a1.toNatClampNeg) : Int32).toInt64))] : va_W)), rfl, ⟨hk0.symm, w1, _, rfl, fun _ => ⟨pk_uLs, hco⟩, fun h => absurd rfl h⟩, ⟨by rw [ht]; exact hP, hD⟩⟩, hS.F ht⟩) hS.2.2 dL_signs_16 hlocks))

set_option maxHeartbeats 4000000 in
set_option maxRecDepth 100000 in
theorem h_signAt (l : Launch) (hst : l.stackTraces = false) (G : zG) (d : Nat) (r A : Nat → Nat) (mc : Nat → Int32) (g : Nat → Nat → Int32) (N : Nat → Nat) (T : Nat → Nat → Int32) (w : va_W) (K : Nat) (a1 a2 : Int32) (o : Nat) (fo : Nat → Int64) (sz : Nat) (hC : sCQ G d r A mc g N T w) (hI : sInv N T K 0) (hKk : K ≤ 511) : vx_Met l yL_signAt wsL_signAt ({ frames := 8, cells := 8, slots := 200, locals := 133 }) (va_Pc [.ref (r 0), .int a1, .int a2, .ref o] (zHu G d (w ++ ([(o, zOut G fo)] : va_W)) sz)) (va_Qi (fun (k : Int32) (w1 : va_W) => k = sK1 ((sIx a1 (N 5)) && (decide (0 ≤ a2))) ∧ zHq G d r o k (rSignAt N T a1 a2 false : Int32).toInt64 N T N T w1) (zB G (va_A (w ++ ([(o, zOut G fo)] : va_W)) sz)) (va_A (w ++ ([(o, zOut G fo)] : va_W)) sz)) (zXk [] 0) (8) (200) (va_A (w ++ ([(o, zOut G fo)] : va_W)) sz) := by
  refine vx_ofWH (cc := cL_signAt) (maxL := 5) (ret := (some .int)) (hh := [(0, 10, 13, 13)]) (by decide) rfl ?_
  intro p e s m args below meth c s₁ B hml hv
  obtain ⟨rfl, ⟨hsz, hP, hK, hD0, hZ⟩, hX⟩ := hv
  have hx := B.exec
  have hb := B.bytes
  have hr := B.returns
  have hts := atoms_spec (ws := wsL_signAt) B.pre
  have hown : s.vm.findClass RL = some m.cls := findClass_of_methodNamed B.named
  have hlocks := B.notSynchronized
  have htab := vx_table (x := yL_signAt) B (hts _ (List.mem_of_getElem? (i := 0) rfl))
  subst hsz
  have hD := hD0.self (sz := s.heap.size)
  generalize hAe : va_A (w ++ ([(o, zOut G fo)] : va_W)) s.heap.size = Aw at hD hZ ⊢
  have hA : ∀ q : Nat, s.heap.size ≤ q → Aw q := fun q h => by rw [← hAe]; exact Or.inr h
  have hS : va_S Aw s.heap s.heap [] := va_S.rf
  have hl := lv_entry ([.ref (r 0), .int a1, .int a2, .ref o]) (n := 5) (Nat.le_of_ble_eq_true rfl)
  rw [lg_entry_eq]
  generalize (lg_sl ([.ref (r 0), .int a1, .int a2, .ref o]) ++ List.replicate (5 - (lg_sl ([.ref (r 0), .int a1, .int a2, .ref o])).length) Slot.unset).toArray = ls at hl ⊢
  have hl : lv_has ls 5 [(0, .ref (r 0)), (1, .int a1), (2, .int a2), (3, .ref o)] := hl
  refine lv_aload_n hx hb dL_signAt_0 rfl (lv_at hl 3 rfl) ?_
  refine lv_iconst (v := 0) hx hb dL_signAt_1 (by decide) ?_
  refine lv_aload_n hx hb dL_signAt_2 rfl (lv_at hl 0 rfl) ?_
  refine lv_iload_n hx hb dL_signAt_3 rfl (lv_at hl 1 rfl) ?_
  refine lv_iload_n hx hb dL_signAt_4 rfl (lv_at hl 2 rfl) ?_
  refine z_xi (G := G) (w := w) (wr := ([(o, zOut G fo)] : va_W)) (vx_runV (As := [.int a1, .int a2]) (rest := [.int 0, .ref o]) ⟨hx, hb, hml, hown, hts⟩ (c_X6_signAt l hst G d r A mc g N T w K a1 a2 s.heap.size hC hI hKk) (cwV 2 hts gL_signAt_X6_signAt rfl rfl rfl (by decide +kernel) ⟨Nat.le_of_ble_eq_true rfl, Nat.le_of_ble_eq_true rfl⟩) (z_wv hK (z_apL hP) (ci := 7) (q0 := 0) rfl (hC.1.1 0 (by omega)) (z_apL hP) (z_dL hD) hZ hS hA) rfl rfl hl.1 rfl (lv_room (Nat.le_of_ble_eq_true rfl)) dL_signAt_5 ⟨Nat.le_of_eq (Nat.zero_add _), Nat.le_of_eq (Nat.zero_add _)⟩) hP hD hS hA (fun i E ce q9 Hz Lz hk hE hP hS hce hcv hcl => ?_) (fun rz w1 Hz Lz hq hP hD hS => ?_)
  · have hi : i < 1 := (List.getElem?_eq_some_iff.mp hE).1
    obtain rfl : i = 0 := by omega
    have hE : E = "java/lang/IndexOutOfBoundsException" := (Option.some.inj hE).symm
    subst hE
    refine vx_catch (own := RL) (name := "java/lang/IndexOutOfBoundsException") hown [] ⟨0, 10, 13, 13⟩ [] htab (fun _ h => absurd h List.not_mem_nil) rfl (by decide) (hts (.classLink RL 13 "java/lang/IndexOutOfBoundsException") (List.mem_of_getElem? (i := 1) rfl)) (va_Nw.use (w := .castable "java/lang/IndexOutOfBoundsException" "java/lang/IndexOutOfBoundsException") rfl (hX.1 0 (by omega))) hce hcv hcl ?_
    refine lv_astore (lv' := [(4, .ref q9), (0, .ref (r 0)), (1, .int a1), (2, .int a2), (3, .ref o)]) hx hb dL_signAt_13 hl (by decide) rfl (fun ls hl => ?_)
    refine lv_iconst (v := 1) hx hb dL_signAt_15 (by decide) ?_
    exact vx_ret (z_widen (k := 8) (n := 200) (Nat.le_of_eq (Nat.zero_add _)) (Nat.le_of_eq (Nat.zero_add _)) (W.iret (v := 1) hx hb hr (fun t ht hW => ⟨⟨1, (w ++ ([(o, zOut G fo)] : va_W)), rfl, ⟨hk.symm, w, fo, rfl, fun h => absurd h (by decide), fun _ => ⟨A, mc, g, hC⟩⟩, ⟨by rw [ht]; exact hP, hD⟩⟩, hS.F ht⟩) hS.2.2 dL_signAt_16 hlocks))
  · obtain ⟨hk0, hra, hco⟩ := hq
    subst hra
    refine lv_i2l (v := (rSignAt N T a1 a2 false : Int32).toInt64) hx hb dL_signAt_8 rfl ?_
    refine z_lay hx hb hK hP hD hS dL_signAt_9 (fun Hz Lz hP hD hS => ?_)
    refine lv_goto (tgt := 17) hx hb dL_signAt_10 (by decide) ?_
    refine lv_iconst (v := 0) hx hb dL_signAt_17 (by decide) ?_
    exact vx_ret (z_widen (k := 8) (n := 200) (Nat.le_of_eq (Nat.zero_add _)) (Nat.le_of_eq (Nat.zero_add _)) (W.iret (v := 0) hx hb hr (fun t ht hW => ⟨⟨0, (w1 ++ ([(o, zOut G (vp_updL fo 0 (rSignAt N T a1 a2 false : Int32).toInt64))] : va_W)), rfl, ⟨hk0.symm, w1, _, rfl, fun _ => ⟨pk_uLs, hco⟩, fun h => absurd rfl h⟩, ⟨by rw [ht]; exact hP, hD⟩⟩, hS.F ht⟩) hS.2.2 dL_signAt_18 hlocks))

set_option maxHeartbeats 4000000 in
set_option maxRecDepth 100000 in
theorem h_signBack (l : Launch) (hst : l.stackTraces = false) (G : zG) (d : Nat) (r A : Nat → Nat) (mc : Nat → Int32) (g : Nat → Nat → Int32) (N : Nat → Nat) (T : Nat → Nat → Int32) (w : va_W) (K : Nat) (a1 a2 : Int32) (o : Nat) (fo : Nat → Int64) (sz : Nat) (hC : sCQ G d r A mc g N T w) (hI : sInv N T K 0) (hKk : K ≤ 511) : vx_Met l yL_signBack wsL_signBack ({ frames := 8, cells := 8, slots := 200, locals := 134 }) (va_Pc [.ref (r 0), .int a1, .int a2, .ref o] (zHu G d (w ++ ([(o, zOut G fo)] : va_W)) sz)) (va_Qi (fun (k : Int32) (w1 : va_W) => k = sK1 ((sIx a1 (N 5)) && (decide (0 ≤ a2))) ∧ zHq G d r o k (rSignAt N T a1 a2 true : Int32).toInt64 N T N T w1) (zB G (va_A (w ++ ([(o, zOut G fo)] : va_W)) sz)) (va_A (w ++ ([(o, zOut G fo)] : va_W)) sz)) (zXk [] 0) (8) (200) (va_A (w ++ ([(o, zOut G fo)] : va_W)) sz) := by
  refine vx_ofWH (cc := cL_signBack) (maxL := 5) (ret := (some .int)) (hh := [(0, 10, 13, 13)]) (by decide) rfl ?_
  intro p e s m args below meth c s₁ B hml hv
  obtain ⟨rfl, ⟨hsz, hP, hK, hD0, hZ⟩, hX⟩ := hv
  have hx := B.exec
  have hb := B.bytes
  have hr := B.returns
  have hts := atoms_spec (ws := wsL_signBack) B.pre
  have hown : s.vm.findClass RL = some m.cls := findClass_of_methodNamed B.named
  have hlocks := B.notSynchronized
  have htab := vx_table (x := yL_signBack) B (hts _ (List.mem_of_getElem? (i := 0) rfl))
  subst hsz
  have hD := hD0.self (sz := s.heap.size)
  generalize hAe : va_A (w ++ ([(o, zOut G fo)] : va_W)) s.heap.size = Aw at hD hZ ⊢
  have hA : ∀ q : Nat, s.heap.size ≤ q → Aw q := fun q h => by rw [← hAe]; exact Or.inr h
  have hS : va_S Aw s.heap s.heap [] := va_S.rf
  have hl := lv_entry ([.ref (r 0), .int a1, .int a2, .ref o]) (n := 5) (Nat.le_of_ble_eq_true rfl)
  rw [lg_entry_eq]
  generalize (lg_sl ([.ref (r 0), .int a1, .int a2, .ref o]) ++ List.replicate (5 - (lg_sl ([.ref (r 0), .int a1, .int a2, .ref o])).length) Slot.unset).toArray = ls at hl ⊢
  have hl : lv_has ls 5 [(0, .ref (r 0)), (1, .int a1), (2, .int a2), (3, .ref o)] := hl
  refine lv_aload_n hx hb dL_signBack_0 rfl (lv_at hl 3 rfl) ?_
  refine lv_iconst (v := 0) hx hb dL_signBack_1 (by decide) ?_
  refine lv_aload_n hx hb dL_signBack_2 rfl (lv_at hl 0 rfl) ?_
  refine lv_iload_n hx hb dL_signBack_3 rfl (lv_at hl 1 rfl) ?_
  refine lv_iload_n hx hb dL_signBack_4 rfl (lv_at hl 2 rfl) ?_
  refine z_xi (G := G) (w := w) (wr := ([(o, zOut G fo)] : va_W)) (vx_runV (As := [.int a1, .int a2]) (rest := [.int 0, .ref o]) ⟨hx, hb, hml, hown, hts⟩ (c_X6_signBack l hst G d r A mc g N T w K a1 a2 s.heap.size hC hI hKk) (cwV 2 hts gL_signBack_X6_signBack rfl rfl rfl (by decide +kernel) ⟨Nat.le_of_ble_eq_true rfl, Nat.le_of_ble_eq_true rfl⟩) (z_wv hK (z_apL hP) (ci := 7) (q0 := 0) rfl (hC.1.1 0 (by omega)) (z_apL hP) (z_dL hD) hZ hS hA) rfl rfl hl.1 rfl (lv_room (Nat.le_of_ble_eq_true rfl)) dL_signBack_5 ⟨Nat.le_of_eq (Nat.zero_add _), Nat.le_of_eq (Nat.zero_add _)⟩) hP hD hS hA (fun i E ce q9 Hz Lz hk hE hP hS hce hcv hcl => ?_) (fun rz w1 Hz Lz hq hP hD hS => ?_)
  · have hi : i < 1 := (List.getElem?_eq_some_iff.mp hE).1
    obtain rfl : i = 0 := by omega
    have hE : E = "java/lang/IndexOutOfBoundsException" := (Option.some.inj hE).symm
    subst hE
    refine vx_catch (own := RL) (name := "java/lang/IndexOutOfBoundsException") hown [] ⟨0, 10, 13, 13⟩ [] htab (fun _ h => absurd h List.not_mem_nil) rfl (by decide) (hts (.classLink RL 13 "java/lang/IndexOutOfBoundsException") (List.mem_of_getElem? (i := 1) rfl)) (va_Nw.use (w := .castable "java/lang/IndexOutOfBoundsException" "java/lang/IndexOutOfBoundsException") rfl (hX.1 0 (by omega))) hce hcv hcl ?_
    refine lv_astore (lv' := [(4, .ref q9), (0, .ref (r 0)), (1, .int a1), (2, .int a2), (3, .ref o)]) hx hb dL_signBack_13 hl (by decide) rfl (fun ls hl => ?_)
    refine lv_iconst (v := 1) hx hb dL_signBack_15 (by decide) ?_
    exact vx_ret (z_widen (k := 8) (n := 200) (Nat.le_of_eq (Nat.zero_add _)) (Nat.le_of_eq (Nat.zero_add _)) (W.iret (v := 1) hx hb hr (fun t ht hW => ⟨⟨1, (w ++ ([(o, zOut G fo)] : va_W)), rfl, ⟨hk.symm, w, fo, rfl, fun h => absurd h (by decide), fun _ => ⟨A, mc, g, hC⟩⟩, ⟨by rw [ht]; exact hP, hD⟩⟩, hS.F ht⟩) hS.2.2 dL_signBack_16 hlocks))
  · obtain ⟨hk0, hra, hco⟩ := hq
    subst hra
    refine lv_i2l (v := (rSignAt N T a1 a2 true : Int32).toInt64) hx hb dL_signBack_8 rfl ?_
    refine z_lay hx hb hK hP hD hS dL_signBack_9 (fun Hz Lz hP hD hS => ?_)
    refine lv_goto (tgt := 17) hx hb dL_signBack_10 (by decide) ?_
    refine lv_iconst (v := 0) hx hb dL_signBack_17 (by decide) ?_
    exact vx_ret (z_widen (k := 8) (n := 200) (Nat.le_of_eq (Nat.zero_add _)) (Nat.le_of_eq (Nat.zero_add _)) (W.iret (v := 0) hx hb hr (fun t ht hW => ⟨⟨0, (w1 ++ ([(o, zOut G (vp_updL fo 0 (rSignAt N T a1 a2 true : Int32).toInt64))] : va_W)), rfl, ⟨hk0.symm, w1, _, rfl, fun _ => ⟨pk_uLs, hco⟩, fun h => absurd rfl h⟩, ⟨by rw [ht]; exact hP, hD⟩⟩, hS.F ht⟩) hS.2.2 dL_signBack_18 hlocks))
