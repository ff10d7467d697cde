/-! the law's wrappers: what they answer where the class throws -/
def zCx (L : List Int32) (k : Int32) : Int32 := L.getD (k.toNatClampNeg - 1) 0
set_option maxHeartbeats 4000000 in
set_option maxRecDepth 100000 in
theorem h_pipe (l : Launch) (hst : l.stackTraces = false) (G : zG) (d : Nat) (r A : Nat → Nat) (mc : Nat → Int32) (g : Nat → Nat → Int32) (N : Nat → Nat) (T : Nat → Nat → Int32) (w : va_W) (K : Nat) (a1 a2 a3 : Int32) (sz : Nat) (hC : sCQ G d r A mc g N T w) (hI : sInv N T K 0) (hKk : K ≤ 511) : vx_Met l yL_pipe wsL_pipe ({ frames := 8, cells := 2, slots := 12, locals := 134 }) (va_Pc [.ref (r 0), .int a1, .int a2, .int a3] (zHu G d w sz)) (va_Qi (fun (r1 : Int32) (w1 : va_W) => (sK3 (sIx a1 8) (((sEnd a2) && (sEnd a3)) && !decide (a2 = a3)) (decide (T 3 a1.toNatClampNeg = 0)) = 0 → r1 = nI (sOn N T a1) ∧ sCO G d r N ((nPipe N T a1 a2 a3).2) w1) ∧ (¬ sK3 (sIx a1 8) (((sEnd a2) && (sEnd a3)) && !decide (a2 = a3)) (decide (T 3 a1.toNatClampNeg = 0)) = 0 → r1 = zCx [-7100, -7200, -7300] (sK3 (sIx a1 8) (((sEnd a2) && (sEnd a3)) && !decide (a2 = a3)) (decide (T 3 a1.toNatClampNeg = 0))) ∧ w1 = w)) (zB G (va_A w sz)) (va_A w sz)) (zXk [] 0) (2) (12) (va_A w sz) := by
  refine vx_ofWH (cc := cL_pipe) (maxL := 6) (ret := (some .int)) (hh := [(0, 9, 12, 14), (0, 9, 18, 16), (0, 9, 24, 18)]) (by decide) rfl ?_
  intro p e s m args below meth c s₁ B hml hv
  obtain ⟨rfl, ⟨hsz, hP, hK, hD0, hZ⟩, hX⟩ := hv
  have hx := B.exec
  have hb := B.bytes
  have hr := B.returns
  have hts := atoms_spec (ws := wsL_pipe) B.pre
  have hown : s.vm.findClass RL = some m.cls := findClass_of_methodNamed B.named
  have hlocks := B.notSynchronized
  have htab := vx_table (x := yL_pipe) B (hts _ (List.mem_of_getElem? (i := 0) rfl))
  subst hsz
  have hD := hD0.self (sz := s.heap.size)
  generalize hAe : va_A w s.heap.size = Aw at hD hZ ⊢
  have hA : ∀ q : Nat, s.heap.size ≤ q → Aw q := fun q h => by rw [← hAe]; exact Or.inr h
  have hS : va_S Aw s.heap s.heap [] := va_S.rf
  have hl := lv_entry ([.ref (r 0), .int a1, .int a2, .int a3]) (n := 6) (Nat.le_of_ble_eq_true rfl)
  rw [lg_entry_eq]
  generalize (lg_sl ([.ref (r 0), .int a1, .int a2, .int a3]) ++ List.replicate (6 - (lg_sl ([.ref (r 0), .int a1, .int a2, .int a3])).length) Slot.unset).toArray = ls at hl ⊢
  have hl : lv_has ls 6 [(0, .ref (r 0)), (1, .int a1), (2, .int a2), (3, .int a3)] := hl
  have hP : va_P G.1 vwCl (w ++ ([] : va_W)) s.heap := by rw [List.append_nil]; exact hP
  have hD : va_D Aw (w ++ ([] : va_W)) := by rw [List.append_nil]; exact hD
  refine lv_aload_n hx hb dL_pipe_0 rfl (lv_at hl 0 rfl) ?_
  refine lv_iload_n hx hb dL_pipe_1 rfl (lv_at hl 1 rfl) ?_
  refine lv_iload_n hx hb dL_pipe_2 rfl (lv_at hl 2 rfl) ?_
  refine lv_iload_n hx hb dL_pipe_3 rfl (lv_at hl 3 rfl) ?_
  refine z_xi (G := G) (w := w) (wr := ([] : va_W)) (vx_runV (As := [.int a1, .int a2, .int a3]) (rest := []) ⟨hx, hb, hml, hown, hts⟩ (c_X6_pipe l hst G d r A mc g N T w K a1 a2 a3 s.heap.size hC hI hKk) (cwV 3 hts gL_pipe_X6_pipe rfl rfl rfl (by decide +kernel) ⟨Nat.le_of_ble_eq_true rfl, Nat.le_of_ble_eq_true rfl⟩) (z_wv hK (z_apL hP) (ci := 7) (q0 := 0) rfl (hC.1.1 0 (by omega)) (z_apL hP) (z_dL hD) hZ hS hA) rfl rfl hl.1 rfl (lv_room (Nat.le_of_ble_eq_true rfl)) dL_pipe_4 ⟨Nat.le_of_eq (Nat.zero_add _), Nat.le_of_eq (Nat.zero_add _)⟩) hP hD hS hA (fun i E ce q9 Hz Lz hk hE hP hS hce hcv hcl => ?_) (fun rz w1 Hz Lz hq hP hD hS => ?_)
  · have hi : i < 3 := (List.getElem?_eq_some_iff.mp hE).1
    rw [List.append_nil] at hP hD
    rcases (show i = 0 ∨ i = 1 ∨ i = 2 by omega) with rfl | rfl | rfl
    · skip
      have hE : E = "java/lang/IndexOutOfBoundsException" := (Option.some.inj hE).symm
      subst hE
      refine vx_catch (own := RL) (name := "java/lang/IndexOutOfBoundsException") hown [] ⟨0, 9, 12, 14⟩ [⟨0, 9, 18, 16⟩, ⟨0, 9, 24, 18⟩] htab (fun _ h => absurd h List.not_mem_nil) rfl (by decide) (hts (.classLink RL 14 "java/lang/IndexOutOfBoundsException") (List.mem_of_getElem? (i := 1) rfl)) (va_Nw.use (w := .castable "java/lang/IndexOutOfBoundsException" "java/lang/IndexOutOfBoundsException") rfl (hX.1 0 (by omega))) hce hcv hcl ?_
      refine lv_astore (lv' := [(5, .ref q9), (0, .ref (r 0)), (1, .int a1), (2, .int a2), (3, .int a3)]) hx hb dL_pipe_12 hl (by decide) rfl (fun ls hl => ?_)
      refine lv_sipush (v := (-7100)) hx hb dL_pipe_14 (by decide) ?_
      exact vx_ret (z_widen (k := 2) (n := 12) (Nat.le_of_eq (Nat.zero_add _)) (Nat.le_of_eq (Nat.zero_add _)) (W.iret (v := (-7100)) hx hb hr (fun t ht hW => ⟨⟨(-7100), w, rfl, ⟨fun h => absurd (hk.symm.trans h) (by decide), fun _ => ⟨by rw [hk]; rfl, rfl⟩⟩, ⟨by rw [ht]; exact hP, hD⟩⟩, hS.F ht⟩) hS.2.2 dL_pipe_17 hlocks))
    · skip
      have hE : E = "java/lang/IllegalArgumentException" := (Option.some.inj hE).symm
      subst hE
      refine vx_catch (own := RL) (name := "java/lang/IllegalArgumentException") hown [⟨0, 9, 12, 14⟩] ⟨0, 9, 18, 16⟩ [⟨0, 9, 24, 18⟩] htab (List.forall_mem_cons.mpr ⟨Or.inr ⟨by decide, "java/lang/IndexOutOfBoundsException", hts (.classLink RL 14 "java/lang/IndexOutOfBoundsException") (List.mem_of_getElem? (i := 1) rfl), hX.2 1 0 (by omega) (by omega) (by decide)⟩, fun _ h => absurd h List.not_mem_nil⟩) rfl (by decide) (hts (.classLink RL 16 "java/lang/IllegalArgumentException") (List.mem_of_getElem? (i := 2) rfl)) (va_Nw.use (w := .castable "java/lang/IllegalArgumentException" "java/lang/IllegalArgumentException") rfl (hX.1 1 (by omega))) hce hcv hcl ?_
      refine lv_astore (lv' := [(5, .ref q9), (0, .ref (r 0)), (1, .int a1), (2, .int a2), (3, .int a3)]) hx hb dL_pipe_18 hl (by decide) rfl (fun ls hl => ?_)
      refine lv_sipush (v := (-7200)) hx hb dL_pipe_20 (by decide) ?_
      exact vx_ret (z_widen (k := 2) (n := 12) (Nat.le_of_eq (Nat.zero_add _)) (Nat.le_of_eq (Nat.zero_add _)) (W.iret (v := (-7200)) hx hb hr (fun t ht hW => ⟨⟨(-7200), w, rfl, ⟨fun h => absurd (hk.symm.trans h) (by decide), fun _ => ⟨by rw [hk]; rfl, rfl⟩⟩, ⟨by rw [ht]; exact hP, hD⟩⟩, hS.F ht⟩) hS.2.2 dL_pipe_23 hlocks))
    · skip
      have hE : E = "java/lang/IllegalStateException" := (Option.some.inj hE).symm
      subst hE
      refine vx_catch (own := RL) (name := "java/lang/IllegalStateException") hown [⟨0, 9, 12, 14⟩, ⟨0, 9, 18, 16⟩] ⟨0, 9, 24, 18⟩ [] htab (List.forall_mem_cons.mpr ⟨Or.inr ⟨by decide, "java/lang/IndexOutOfBoundsException", hts (.classLink RL 14 "java/lang/IndexOutOfBoundsException") (List.mem_of_getElem? (i := 1) rfl), hX.2 2 0 (by omega) (by omega) (by decide)⟩, List.forall_mem_cons.mpr ⟨Or.inr ⟨by decide, "java/lang/IllegalArgumentException", hts (.classLink RL 16 "java/lang/IllegalArgumentException") (List.mem_of_getElem? (i := 2) rfl), hX.2 2 1 (by omega) (by omega) (by decide)⟩, fun _ h => absurd h List.not_mem_nil⟩⟩) rfl (by decide) (hts (.classLink RL 18 "java/lang/IllegalStateException") (List.mem_of_getElem? (i := 3) rfl)) (va_Nw.use (w := .castable "java/lang/IllegalStateException" "java/lang/IllegalStateException") rfl (hX.1 2 (by omega))) hce hcv hcl ?_
      refine lv_astore (lv' := [(5, .ref q9), (0, .ref (r 0)), (1, .int a1), (2, .int a2), (3, .int a3)]) hx hb dL_pipe_24 hl (by decide) rfl (fun ls hl => ?_)
      refine lv_sipush (v := (-7300)) hx hb dL_pipe_26 (by decide) ?_
      exact vx_ret (z_widen (k := 2) (n := 12) (Nat.le_of_eq (Nat.zero_add _)) (Nat.le_of_eq (Nat.zero_add _)) (W.iret (v := (-7300)) hx hb hr (fun t ht hW => ⟨⟨(-7300), w, rfl, ⟨fun h => absurd (hk.symm.trans h) (by decide), fun _ => ⟨by rw [hk]; rfl, rfl⟩⟩, ⟨by rw [ht]; exact hP, hD⟩⟩, hS.F ht⟩) hS.2.2 dL_pipe_29 hlocks))
  · obtain ⟨hk0, hra, hco⟩ := hq
    rw [hra]
    rw [List.append_nil] at hP hD
    refine lv_istore (lv' := [(4, .int (nI (sOn N T a1))), (0, .ref (r 0)), (1, .int a1), (2, .int a2), (3, .int a3)]) hx hb dL_pipe_7 hl (by decide) rfl (fun ls hl => ?_)
    refine lv_goto (tgt := 30) hx hb dL_pipe_9 (by decide) ?_
    refine lv_iload hx hb dL_pipe_30 (lv_at hl 0 rfl) ?_
    exact vx_ret (z_widen (k := 2) (n := 12) (Nat.le_of_eq (Nat.zero_add _)) (Nat.le_of_eq (Nat.zero_add _)) (W.iret (v := (nI (sOn N T a1))) hx hb hr (fun t ht hW => ⟨⟨(nI (sOn N T a1)), w1, rfl, ⟨fun _ => ⟨rfl, hco⟩, fun h => absurd hk0 h⟩, ⟨by rw [ht]; exact hP, hD⟩⟩, hS.F ht⟩) hS.2.2 dL_pipe_32 hlocks))

set_option maxHeartbeats 4000000 in
set_option maxRecDepth 100000 in
theorem h_turn (l : Launch) (hst : l.stackTraces = false) (G : zG) (d : Nat) (r A : Nat → Nat) (mc : Nat → Int32) (g : Nat → Nat → Int32) (N : Nat → Nat) (T : Nat → Nat → Int32) (w : va_W) (K : Nat) (a1 a2 : Int32) (b3 : Bool) (sz : Nat) (hC : sCQ G d r A mc g N T w) (hI : sInv N T K 0) (hKk : K ≤ 511) : vx_Met l yL_turn wsL_turn ({ frames := 8, cells := (8 + zmc (sK2 ((sIx a1 9) && (sIx a2 8)) (decide (sBars N T a1 a2 = 0))) (N 1) ((sTurn N T a1 a2 b3).1 1)), slots := (200 + zms (sK2 ((sIx a1 9) && (sIx a2 8)) (decide (sBars N T a1 a2 = 0))) (N 1) ((sTurn N T a1 a2 b3).1 1)), locals := 157 }) (va_Pc [.ref (r 0), .int a1, .int a2, .int (zb b3)] (zHu G d w sz)) (va_Qi (fun (r1 : Int32) (w1 : va_W) => (sK2 ((sIx a1 9) && (sIx a2 8)) (decide (sBars N T a1 a2 = 0)) = 0 → r1 = zb (!decide (T 3 a2.toNatClampNeg = zb b3)) ∧ sCO G d r ((sTurn N T a1 a2 b3).1) ((sTurn N T a1 a2 b3).2) w1) ∧ (¬ sK2 ((sIx a1 9) && (sIx a2 8)) (decide (sBars N T a1 a2 = 0)) = 0 → r1 = zCx [-7100, -7300] (sK2 ((sIx a1 9) && (sIx a2 8)) (decide (sBars N T a1 a2 = 0))) ∧ w1 = w)) (zB G (va_A w sz)) (va_A w sz)) (zXk [] 0) ((8 + zmc (sK2 ((sIx a1 9) && (sIx a2 8)) (decide (sBars N T a1 a2 = 0))) (N 1) ((sTurn N T a1 a2 b3).1 1))) ((200 + zms (sK2 ((sIx a1 9) && (sIx a2 8)) (decide (sBars N T a1 a2 = 0))) (N 1) ((sTurn N T a1 a2 b3).1 1))) (va_A w sz) := by
  refine vx_ofWH (cc := cL_turn) (maxL := 6) (ret := (some .int)) (hh := [(0, 9, 12, 14), (0, 9, 18, 18)]) (by decide) rfl ?_
  intro p e s m args below meth c s₁ B hml hv
  obtain ⟨rfl, ⟨hsz, hP, hK, hD0, hZ⟩, hX⟩ := hv
  have hx := B.exec
  have hb := B.bytes
  have hr := B.returns
  have hts := atoms_spec (ws := wsL_turn) B.pre
  have hown : s.vm.findClass RL = some m.cls := findClass_of_methodNamed B.named
  have hlocks := B.notSynchronized
  have htab := vx_table (x := yL_turn) B (hts _ (List.mem_of_getElem? (i := 0) rfl))
  subst hsz
  have hD := hD0.self (sz := s.heap.size)
  generalize hAe : va_A w s.heap.size = Aw at hD hZ ⊢
  have hA : ∀ q : Nat, s.heap.size ≤ q → Aw q := fun q h => by rw [← hAe]; exact Or.inr h
  have hS : va_S Aw s.heap s.heap [] := va_S.rf
  have hl := lv_entry ([.ref (r 0), .int a1, .int a2, .int (zb b3)]) (n := 6) (Nat.le_of_ble_eq_true rfl)
  rw [lg_entry_eq]
  generalize (lg_sl ([.ref (r 0), .int a1, .int a2, .int (zb b3)]) ++ List.replicate (6 - (lg_sl ([.ref (r 0), .int a1, .int a2, .int (zb b3)])).length) Slot.unset).toArray = ls at hl ⊢
  have hl : lv_has ls 6 [(0, .ref (r 0)), (1, .int a1), (2, .int a2), (3, .int (zb b3))] := hl
  have hP : va_P G.1 vwCl (w ++ ([] : va_W)) s.heap := by rw [List.append_nil]; exact hP
  have hD : va_D Aw (w ++ ([] : va_W)) := by rw [List.append_nil]; exact hD
  refine lv_aload_n hx hb dL_turn_0 rfl (lv_at hl 0 rfl) ?_
  refine lv_iload_n hx hb dL_turn_1 rfl (lv_at hl 1 rfl) ?_
  refine lv_iload_n hx hb dL_turn_2 rfl (lv_at hl 2 rfl) ?_
  refine lv_iload_n hx hb dL_turn_3 rfl (lv_at hl 3 rfl) ?_
  refine z_xi (G := G) (w := w) (wr := ([] : va_W)) (vx_runV (As := [.int a1, .int a2, .int (zb b3)]) (rest := []) ⟨hx, hb, hml, hown, hts⟩ (c_X6_turn l hst G d r A mc g N T w K a1 a2 b3 s.heap.size hC hI hKk) (cwV 3 hts gL_turn_X6_turn rfl rfl rfl (by decide +kernel) ⟨Nat.le_of_ble_eq_true rfl, Nat.le_of_ble_eq_true rfl⟩) (z_wv hK (z_apL hP) (ci := 7) (q0 := 0) rfl (hC.1.1 0 (by omega)) (z_apL hP) (z_dL hD) hZ hS hA) rfl rfl hl.1 rfl (lv_room (Nat.le_of_ble_eq_true rfl)) dL_turn_4 ⟨Nat.le_of_eq (Nat.zero_add _), Nat.le_of_eq (Nat.zero_add _)⟩) hP hD hS hA (fun i E ce q9 Hz Lz hk hE hP hS hce hcv hcl => ?_) (fun rz w1 Hz Lz hq hP hD hS => ?_)
  · have hi : i < 2 := (List.getElem?_eq_some_iff.mp hE).1
    rw [List.append_nil] at hP hD
    rcases (show i = 0 ∨ i = 1 by omega) with rfl | rfl
    · skip
      have hE : E = "java/lang/IndexOutOfBoundsException" := (Option.some.inj hE).symm
      subst hE
      refine vx_catch (own := RL) (name := "java/lang/IndexOutOfBoundsException") hown [] ⟨0, 9, 12, 14⟩ [⟨0, 9, 18, 18⟩] htab (fun _ h => absurd h List.not_mem_nil) rfl (by decide) (hts (.classLink RL 14 "java/lang/IndexOutOfBoundsException") (List.mem_of_getElem? (i := 1) rfl)) (va_Nw.use (w := .castable "java/lang/IndexOutOfBoundsException" "java/lang/IndexOutOfBoundsException") rfl (hX.1 0 (by omega))) hce hcv hcl ?_
      refine lv_astore (lv' := [(5, .ref q9), (0, .ref (r 0)), (1, .int a1), (2, .int a2), (3, .int (zb b3))]) hx hb dL_turn_12 hl (by decide) rfl (fun ls hl => ?_)
      refine lv_sipush (v := (-7100)) hx hb dL_turn_14 (by decide) ?_
      exact vx_ret (z_widen (k := (8 + zmc (sK2 ((sIx a1 9) && (sIx a2 8)) (decide (sBars N T a1 a2 = 0))) (N 1) ((sTurn N T a1 a2 b3).1 1))) (n := (200 + zms (sK2 ((sIx a1 9) && (sIx a2 8)) (decide (sBars N T a1 a2 = 0))) (N 1) ((sTurn N T a1 a2 b3).1 1))) (Nat.le_of_eq (Nat.zero_add _)) (Nat.le_of_eq (Nat.zero_add _)) (W.iret (v := (-7100)) hx hb hr (fun t ht hW => ⟨⟨(-7100), w, rfl, ⟨fun h => absurd (hk.symm.trans h) (by decide), fun _ => ⟨by rw [hk]; rfl, rfl⟩⟩, ⟨by rw [ht]; exact hP, hD⟩⟩, hS.F ht⟩) hS.2.2 dL_turn_17 hlocks))
    · skip
      have hE : E = "java/lang/IllegalStateException" := (Option.some.inj hE).symm
      subst hE
      refine vx_catch (own := RL) (name := "java/lang/IllegalStateException") hown [⟨0, 9, 12, 14⟩] ⟨0, 9, 18, 18⟩ [] htab (List.forall_mem_cons.mpr ⟨Or.inr ⟨by decide, "java/lang/IndexOutOfBoundsException", hts (.classLink RL 14 "java/lang/IndexOutOfBoundsException") (List.mem_of_getElem? (i := 1) rfl), hX.2 2 0 (by omega) (by omega) (by decide)⟩, fun _ h => absurd h List.not_mem_nil⟩) rfl (by decide) (hts (.classLink RL 18 "java/lang/IllegalStateException") (List.mem_of_getElem? (i := 2) rfl)) (va_Nw.use (w := .castable "java/lang/IllegalStateException" "java/lang/IllegalStateException") rfl (hX.1 2 (by omega))) hce hcv hcl ?_
      refine lv_astore (lv' := [(5, .ref q9), (0, .ref (r 0)), (1, .int a1), (2, .int a2), (3, .int (zb b3))]) hx hb dL_turn_18 hl (by decide) rfl (fun ls hl => ?_)
      refine lv_sipush (v := (-7300)) hx hb dL_turn_20 (by decide) ?_
      exact vx_ret (z_widen (k := (8 + zmc (sK2 ((sIx a1 9) && (sIx a2 8)) (decide (sBars N T a1 a2 = 0))) (N 1) ((sTurn N T a1 a2 b3).1 1))) (n := (200 + zms (sK2 ((sIx a1 9) && (sIx a2 8)) (decide (sBars N T a1 a2 = 0))) (N 1) ((sTurn N T a1 a2 b3).1 1))) (Nat.le_of_eq (Nat.zero_add _)) (Nat.le_of_eq (Nat.zero_add _)) (W.iret (v := (-7300)) hx hb hr (fun t ht hW => ⟨⟨(-7300), w, rfl, ⟨fun h => absurd (hk.symm.trans h) (by decide), fun _ => ⟨by rw [hk]; rfl, rfl⟩⟩, ⟨by rw [ht]; exact hP, hD⟩⟩, hS.F ht⟩) hS.2.2 dL_turn_23 hlocks))
  · obtain ⟨hk0, hra, hco⟩ := hq
    rw [hra]
    rw [List.append_nil] at hP hD
    refine lv_istore (lv' := [(4, .int (zb (!decide (T 3 a2.toNatClampNeg = zb b3)))), (0, .ref (r 0)), (1, .int a1), (2, .int a2), (3, .int (zb b3))]) hx hb dL_turn_7 hl (by decide) rfl (fun ls hl => ?_)
    refine lv_goto (tgt := 24) hx hb dL_turn_9 (by decide) ?_
    refine lv_iload hx hb dL_turn_24 (lv_at hl 0 rfl) ?_
    refine lv_if_eq (tgt := 33) hx hb dL_turn_26 (by decide) (fun zc => ?_) (fun zc => ?_)
    · refine lv_iconst (v := 0) hx hb dL_turn_33 (by decide) ?_
      exact vx_ret (z_widen (k := (8 + zmc (sK2 ((sIx a1 9) && (sIx a2 8)) (decide (sBars N T a1 a2 = 0))) (N 1) ((sTurn N T a1 a2 b3).1 1))) (n := (200 + zms (sK2 ((sIx a1 9) && (sIx a2 8)) (decide (sBars N T a1 a2 = 0))) (N 1) ((sTurn N T a1 a2 b3).1 1))) (Nat.le_of_eq (Nat.zero_add _)) (Nat.le_of_eq (Nat.zero_add _)) (W.iret (v := 0) hx hb hr (fun t ht hW => ⟨⟨0, w1, rfl, ⟨fun _ => ⟨zc.symm, hco⟩, fun h => absurd hk0 h⟩, ⟨by rw [ht]; exact hP, hD⟩⟩, hS.F ht⟩) hS.2.2 dL_turn_34 hlocks))
    · refine lv_iconst (v := 1) hx hb dL_turn_29 (by decide) ?_
      refine lv_goto (tgt := 34) hx hb dL_turn_30 (by decide) ?_
      exact vx_ret (z_widen (k := (8 + zmc (sK2 ((sIx a1 9) && (sIx a2 8)) (decide (sBars N T a1 a2 = 0))) (N 1) ((sTurn N T a1 a2 b3).1 1))) (n := (200 + zms (sK2 ((sIx a1 9) && (sIx a2 8)) (decide (sBars N T a1 a2 = 0))) (N 1) ((sTurn N T a1 a2 b3).1 1))) (Nat.le_of_eq (Nat.zero_add _)) (Nat.le_of_eq (Nat.zero_add _)) (W.iret (v := 1) hx hb hr (fun t ht hW => ⟨⟨1, w1, rfl, ⟨fun _ => ⟨(by rw [zb_n0 zc]; rfl), hco⟩, fun h => absurd hk0 h⟩, ⟨by rw [ht]; exact hP, hD⟩⟩, hS.F ht⟩) hS.2.2 dL_turn_34 hlocks))

set_option maxHeartbeats 4000000 in
set_option maxRecDepth 100000 in
theorem h_obstacle (l : Launch) (hst : l.stackTraces = false) (G : zG) (d : Nat) (r A : Nat → Nat) (mc : Nat → Int32) (g : Nat → Nat → Int32) (N : Nat → Nat) (T : Nat → Nat → Int32) (w : va_W) (K : Nat) (a1 a2 : Int32) (sz : Nat) (hC : sCQ G d r A mc g N T w) (hI : sInv N T K 0) (hKk : K ≤ 511) : vx_Met l yL_obstacle wsL_obstacle ({ frames := 8, cells := 2, slots := 12, locals := 132 }) (va_Pc [.ref (r 0), .int a1, .int a2] (zHu G d w sz)) (va_Qi (fun (r1 : Int32) (w1 : va_W) => (sK1 ((sIx a1 9) && (sIx a2 8)) = 0 → r1 = sBars N T a1 a2 ∧ sCO G d r N T w1) ∧ (¬ sK1 ((sIx a1 9) && (sIx a2 8)) = 0 → r1 = zCx [-7100] (sK1 ((sIx a1 9) && (sIx a2 8))) ∧ w1 = w)) (zB G (va_A w sz)) (va_A w sz)) (zXk [] 0) (2) (12) (va_A w sz) := by
  refine vx_ofWH (cc := cL_obstacle) (maxL := 5) (ret := (some .int)) (hh := [(0, 7, 10, 14)]) (by decide) rfl ?_
  intro p e s m args below meth c s₁ B hml hv
  obtain ⟨rfl, ⟨hsz, hP, hK, hD0, hZ⟩, hX⟩ := hv
  have hx := B.exec
  have hb := B.bytes
  have hr := B.returns
  have hts := atoms_spec (ws := wsL_obstacle) B.pre
  have hown : s.vm.findClass RL = some m.cls := findClass_of_methodNamed B.named
  have hlocks := B.notSynchronized
  have htab := vx_table (x := yL_obstacle) B (hts _ (List.mem_of_getElem? (i := 0) rfl))
  subst hsz
  have hD := hD0.self (sz := s.heap.size)
  generalize hAe : va_A w s.heap.size = Aw at hD hZ ⊢
  have hA : ∀ q : Nat, s.heap.size ≤ q → Aw q := fun q h => by rw [← hAe]; exact Or.inr h
  have hS : va_S Aw s.heap s.heap [] := va_S.rf
  have hl := lv_entry ([.ref (r 0), .int a1, .int a2]) (n := 5) (Nat.le_of_ble_eq_true rfl)
  rw [lg_entry_eq]
  generalize (lg_sl ([.ref (r 0), .int a1, .int a2]) ++ List.replicate (5 - (lg_sl ([.ref (r 0), .int a1, .int a2])).length) Slot.unset).toArray = ls at hl ⊢
  have hl : lv_has ls 5 [(0, .ref (r 0)), (1, .int a1), (2, .int a2)] := hl
  have hP : va_P G.1 vwCl (w ++ ([] : va_W)) s.heap := by rw [List.append_nil]; exact hP
  have hD : va_D Aw (w ++ ([] : va_W)) := by rw [List.append_nil]; exact hD
  refine lv_aload_n hx hb dL_obstacle_0 rfl (lv_at hl 0 rfl) ?_
  refine lv_iload_n hx hb dL_obstacle_1 rfl (lv_at hl 1 rfl) ?_
  refine lv_iload_n hx hb dL_obstacle_2 rfl (lv_at hl 2 rfl) ?_
  refine z_xi (G := G) (w := w) (wr := ([] : va_W)) (vx_runV (As := [.int a1, .int a2]) (rest := []) ⟨hx, hb, hml, hown, hts⟩ (c_X6_obstacle l hst G d r A mc g N T w K a1 a2 s.heap.size hC hI hKk) (cwV 2 hts gL_obstacle_X6_obstacle rfl rfl rfl (by decide +kernel) ⟨Nat.le_of_ble_eq_true rfl, Nat.le_of_ble_eq_true rfl⟩) (z_wv hK (z_apL hP) (ci := 7) (q0 := 0) rfl (hC.1.1 0 (by omega)) (z_apL hP) (z_dL hD) hZ hS hA) rfl rfl hl.1 rfl (lv_room (Nat.le_of_ble_eq_true rfl)) dL_obstacle_3 ⟨Nat.le_of_eq (Nat.zero_add _), Nat.le_of_eq (Nat.zero_add _)⟩) hP hD hS hA (fun i E ce q9 Hz Lz hk hE hP hS hce hcv hcl => ?_) (fun rz w1 Hz Lz hq hP hD hS => ?_)
  · have hi : i < 1 := (List.getElem?_eq_some_iff.mp hE).1
    rw [List.append_nil] at hP hD
    obtain rfl : i = 0 := by omega
    have hE : E = "java/lang/IndexOutOfBoundsException" := (Option.some.inj hE).symm
    subst hE
    refine vx_catch (own := RL) (name := "java/lang/IndexOutOfBoundsException") hown [] ⟨0, 7, 10, 14⟩ [] htab (fun _ h => absurd h List.not_mem_nil) rfl (by decide) (hts (.classLink RL 14 "java/lang/IndexOutOfBoundsException") (List.mem_of_getElem? (i := 1) rfl)) (va_Nw.use (w := .castable "java/lang/IndexOutOfBoundsException" "java/lang/IndexOutOfBoundsException") rfl (hX.1 0 (by omega))) hce hcv hcl ?_
    refine lv_astore (lv' := [(4, .ref q9), (0, .ref (r 0)), (1, .int a1), (2, .int a2)]) hx hb dL_obstacle_10 hl (by decide) rfl (fun ls hl => ?_)
    refine lv_sipush (v := (-7100)) hx hb dL_obstacle_12 (by decide) ?_
    exact vx_ret (z_widen (k := 2) (n := 12) (Nat.le_of_eq (Nat.zero_add _)) (Nat.le_of_eq (Nat.zero_add _)) (W.iret (v := (-7100)) hx hb hr (fun t ht hW => ⟨⟨(-7100), w, rfl, ⟨fun h => absurd (hk.symm.trans h) (by decide), fun _ => ⟨by rw [hk]; rfl, rfl⟩⟩, ⟨by rw [ht]; exact hP, hD⟩⟩, hS.F ht⟩) hS.2.2 dL_obstacle_15 hlocks))
  · obtain ⟨hk0, hra, hco⟩ := hq
    rw [hra]
    rw [List.append_nil] at hP hD
    refine lv_istore_n (lv' := [(3, .int (sBars N T a1 a2)), (0, .ref (r 0)), (1, .int a1), (2, .int a2)]) hx hb dL_obstacle_6 rfl hl (by decide) rfl (fun ls hl => ?_)
    refine lv_goto (tgt := 16) hx hb dL_obstacle_7 (by decide) ?_
    refine lv_iload_n hx hb dL_obstacle_16 rfl (lv_at hl 0 rfl) ?_
    exact vx_ret (z_widen (k := 2) (n := 12) (Nat.le_of_eq (Nat.zero_add _)) (Nat.le_of_eq (Nat.zero_add _)) (W.iret (v := (sBars N T a1 a2)) hx hb hr (fun t ht hW => ⟨⟨(sBars N T a1 a2), w1, rfl, ⟨fun _ => ⟨rfl, hco⟩, fun h => absurd hk0 h⟩, ⟨by rw [ht]; exact hP, hD⟩⟩, hS.F ht⟩) hS.2.2 dL_obstacle_17 hlocks))

set_option maxHeartbeats 4000000 in
set_option maxRecDepth 100000 in
theorem h_isOpen (l : Launch) (hst : l.stackTraces = false) (G : zG) (d : Nat) (r A : Nat → Nat) (mc : Nat → Int32) (g : Nat → Nat → Int32) (N : Nat → Nat) (T : Nat → Nat → Int32) (w : va_W) (K : Nat) (a1 : Int32) (sz : Nat) (hC : sCQ G d r A mc g N T w) (hI : sInv N T K 0) (hKk : K ≤ 511) : vx_Met l yL_isOpen wsL_isOpen ({ frames := 8, cells := 2, slots := 12, locals := 131 }) (va_Pc [.ref (r 0), .int a1] (zHu G d w sz)) (va_Qi (fun (r1 : Int32) (w1 : va_W) => (sK1 (sIx a1 8) = 0 → r1 = T 3 a1.toNatClampNeg ∧ sCO G d r N T w1) ∧ (¬ sK1 (sIx a1 8) = 0 → r1 = zCx [-7100] (sK1 (sIx a1 8)) ∧ w1 = w)) (zB G (va_A w sz)) (va_A w sz)) (zXk [] 0) (2) (12) (va_A w sz) := by
  refine vx_ofWH (cc := cL_isOpen) (maxL := 4) (ret := (some .int)) (hh := [(0, 6, 9, 14)]) (by decide) rfl ?_
  intro p e s m args below meth c s₁ B hml hv
  obtain ⟨rfl, ⟨hsz, hP, hK, hD0, hZ⟩, hX⟩ := hv
  have hx := B.exec
  have hb := B.bytes
  have hr := B.returns
  have hts := atoms_spec (ws := wsL_isOpen) B.pre
  have hown : s.vm.findClass RL = some m.cls := findClass_of_methodNamed B.named
  have hlocks := B.notSynchronized
  have htab := vx_table (x := yL_isOpen) B (hts _ (List.mem_of_getElem? (i := 0) rfl))
  subst hsz
  have hD := hD0.self (sz := s.heap.size)
  generalize hAe : va_A w s.heap.size = Aw at hD hZ ⊢
  have hA : ∀ q : Nat, s.heap.size ≤ q → Aw q := fun q h => by rw [← hAe]; exact Or.inr h
  have hS : va_S Aw s.heap s.heap [] := va_S.rf
  have hl := lv_entry ([.ref (r 0), .int a1]) (n := 4) (Nat.le_of_ble_eq_true rfl)
  rw [lg_entry_eq]
  generalize (lg_sl ([.ref (r 0), .int a1]) ++ List.replicate (4 - (lg_sl ([.ref (r 0), .int a1])).length) Slot.unset).toArray = ls at hl ⊢
  have hl : lv_has ls 4 [(0, .ref (r 0)), (1, .int a1)] := hl
  have hP : va_P G.1 vwCl (w ++ ([] : va_W)) s.heap := by rw [List.append_nil]; exact hP
  have hD : va_D Aw (w ++ ([] : va_W)) := by rw [List.append_nil]; exact hD
  refine lv_aload_n hx hb dL_isOpen_0 rfl (lv_at hl 0 rfl) ?_
  refine lv_iload_n hx hb dL_isOpen_1 rfl (lv_at hl 1 rfl) ?_
  refine z_xi (G := G) (w := w) (wr := ([] : va_W)) (vx_runV (As := [.int a1]) (rest := []) ⟨hx, hb, hml, hown, hts⟩ (c_X6_isOpen l hst G d r A mc g N T w K a1 s.heap.size hC hI hKk) (cwV 1 hts gL_isOpen_X6_isOpen rfl rfl rfl (by decide +kernel) ⟨Nat.le_of_ble_eq_true rfl, Nat.le_of_ble_eq_true rfl⟩) (z_wv hK (z_apL hP) (ci := 7) (q0 := 0) rfl (hC.1.1 0 (by omega)) (z_apL hP) (z_dL hD) hZ hS hA) rfl rfl hl.1 rfl (lv_room (Nat.le_of_ble_eq_true rfl)) dL_isOpen_2 ⟨Nat.le_of_eq (Nat.zero_add _), Nat.le_of_eq (Nat.zero_add _)⟩) hP hD hS hA (fun i E ce q9 Hz Lz hk hE hP hS hce hcv hcl => ?_) (fun rz w1 Hz Lz hq hP hD hS => ?_)
  · have hi : i < 1 := (List.getElem?_eq_some_iff.mp hE).1
    rw [List.append_nil] at hP hD
    obtain rfl : i = 0 := by omega
    have hE : E = "java/lang/IndexOutOfBoundsException" := (Option.some.inj hE).symm
    subst hE
    refine vx_catch (own := RL) (name := "java/lang/IndexOutOfBoundsException") hown [] ⟨0, 6, 9, 14⟩ [] htab (fun _ h => absurd h List.not_mem_nil) rfl (by decide) (hts (.classLink RL 14 "java/lang/IndexOutOfBoundsException") (List.mem_of_getElem? (i := 1) rfl)) (va_Nw.use (w := .castable "java/lang/IndexOutOfBoundsException" "java/lang/IndexOutOfBoundsException") rfl (hX.1 0 (by omega))) hce hcv hcl ?_
    refine lv_astore_n (lv' := [(3, .ref q9), (0, .ref (r 0)), (1, .int a1)]) hx hb dL_isOpen_9 rfl hl (by decide) rfl (fun ls hl => ?_)
    refine lv_sipush (v := (-7100)) hx hb dL_isOpen_10 (by decide) ?_
    exact vx_ret (z_widen (k := 2) (n := 12) (Nat.le_of_eq (Nat.zero_add _)) (Nat.le_of_eq (Nat.zero_add _)) (W.iret (v := (-7100)) hx hb hr (fun t ht hW => ⟨⟨(-7100), w, rfl, ⟨fun h => absurd (hk.symm.trans h) (by decide), fun _ => ⟨by rw [hk]; rfl, rfl⟩⟩, ⟨by rw [ht]; exact hP, hD⟩⟩, hS.F ht⟩) hS.2.2 dL_isOpen_13 hlocks))
  · obtain ⟨hk0, hra, hco⟩ := hq
    rw [hra]
    rw [List.append_nil] at hP hD
    refine lv_istore_n (lv' := [(2, .int (T 3 a1.toNatClampNeg)), (0, .ref (r 0)), (1, .int a1)]) hx hb dL_isOpen_5 rfl hl (by decide) rfl (fun ls hl => ?_)
    refine lv_goto (tgt := 14) hx hb dL_isOpen_6 (by decide) ?_
    refine lv_iload_n hx hb dL_isOpen_14 rfl (lv_at hl 0 rfl) ?_
    refine lv_if_eq (tgt := 22) hx hb dL_isOpen_15 (by decide) (fun zc => ?_) (fun zc => ?_)
    · refine lv_iconst (v := 0) hx hb dL_isOpen_22 (by decide) ?_
      exact vx_ret (z_widen (k := 2) (n := 12) (Nat.le_of_eq (Nat.zero_add _)) (Nat.le_of_eq (Nat.zero_add _)) (W.iret (v := 0) hx hb hr (fun t ht hW => ⟨⟨0, w1, rfl, ⟨fun _ => ⟨zc.symm, hco⟩, fun h => absurd hk0 h⟩, ⟨by rw [ht]; exact hP, hD⟩⟩, hS.F ht⟩) hS.2.2 dL_isOpen_23 hlocks))
    · refine lv_iconst (v := 1) hx hb dL_isOpen_18 (by decide) ?_
      refine lv_goto (tgt := 23) hx hb dL_isOpen_19 (by decide) ?_
      exact vx_ret (z_widen (k := 2) (n := 12) (Nat.le_of_eq (Nat.zero_add _)) (Nat.le_of_eq (Nat.zero_add _)) (W.iret (v := 1) hx hb hr (fun t ht hW => ⟨⟨1, w1, rfl, ⟨fun _ => ⟨((hI.2.1 a1.toNatClampNeg).2.1.resolve_left zc).symm, hco⟩, fun h => absurd hk0 h⟩, ⟨by rw [ht]; exact hP, hD⟩⟩, hS.F ht⟩) hS.2.2 dL_isOpen_23 hlocks))

set_option maxHeartbeats 4000000 in
set_option maxRecDepth 100000 in
theorem h_isOpenByLog (l : Launch) (hst : l.stackTraces = false) (G : zG) (d : Nat) (r A : Nat → Nat) (mc : Nat → Int32) (g : Nat → Nat → Int32) (N : Nat → Nat) (T : Nat → Nat → Int32) (w : va_W) (K : Nat) (a1 : Int32) (sz : Nat) (hC : sCQ G d r A mc g N T w) (hI : sInv N T K 0) (hKk : K ≤ 511) (hLG : sLG N T) : vx_Met l yL_isOpenByLog wsL_isOpenByLog ({ frames := 8, cells := 2, slots := 12, locals := 132 }) (va_Pc [.ref (r 0), .int a1] (zHu G d w sz)) (va_Qi (fun (r1 : Int32) (w1 : va_W) => (sK1 (sIx a1 8) = 0 → r1 = T 3 a1.toNatClampNeg ∧ sCO G d r N T w1) ∧ (¬ sK1 (sIx a1 8) = 0 → r1 = zCx [-7100] (sK1 (sIx a1 8)) ∧ w1 = w)) (zB G (va_A w sz)) (va_A w sz)) (zXk [] 0) (2) (12) (va_A w sz) := by
  refine vx_ofWH (cc := cL_isOpenByLog) (maxL := 4) (ret := (some .int)) (hh := [(0, 6, 9, 14)]) (by decide) rfl ?_
  intro p e s m args below meth c s₁ B hml hv
  obtain ⟨rfl, ⟨hsz, hP, hK, hD0, hZ⟩, hX⟩ := hv
  have hx := B.exec
  have hb := B.bytes
  have hr := B.returns
  have hts := atoms_spec (ws := wsL_isOpenByLog) B.pre
  have hown : s.vm.findClass RL = some m.cls := findClass_of_methodNamed B.named
  have hlocks := B.notSynchronized
  have htab := vx_table (x := yL_isOpenByLog) B (hts _ (List.mem_of_getElem? (i := 0) rfl))
  subst hsz
  have hD := hD0.self (sz := s.heap.size)
  generalize hAe : va_A w s.heap.size = Aw at hD hZ ⊢
  have hA : ∀ q : Nat, s.heap.size ≤ q → Aw q := fun q h => by rw [← hAe]; exact Or.inr h
  have hS : va_S Aw s.heap s.heap [] := va_S.rf
  have hl := lv_entry ([.ref (r 0), .int a1]) (n := 4) (Nat.le_of_ble_eq_true rfl)
  rw [lg_entry_eq]
  generalize (lg_sl ([.ref (r 0), .int a1]) ++ List.replicate (4 - (lg_sl ([.ref (r 0), .int a1])).length) Slot.unset).toArray = ls at hl ⊢
  have hl : lv_has ls 4 [(0, .ref (r 0)), (1, .int a1)] := hl
  have hP : va_P G.1 vwCl (w ++ ([] : va_W)) s.heap := by rw [List.append_nil]; exact hP
  have hD : va_D Aw (w ++ ([] : va_W)) := by rw [List.append_nil]; exact hD
  refine lv_aload_n hx hb dL_isOpenByLog_0 rfl (lv_at hl 0 rfl) ?_
  refine lv_iload_n hx hb dL_isOpenByLog_1 rfl (lv_at hl 1 rfl) ?_
  refine z_xi (G := G) (w := w) (wr := ([] : va_W)) (vx_runV (As := [.int a1]) (rest := []) ⟨hx, hb, hml, hown, hts⟩ (c_X6_isOpenByLog l hst G d r A mc g N T w K a1 s.heap.size hC hI hKk hLG) (cwV 1 hts gL_isOpenByLog_X6_isOpenByLog rfl rfl rfl (by decide +kernel) ⟨Nat.le_of_ble_eq_true rfl, Nat.le_of_ble_eq_true rfl⟩) (z_wv hK (z_apL hP) (ci := 7) (q0 := 0) rfl (hC.1.1 0 (by omega)) (z_apL hP) (z_dL hD) hZ hS hA) rfl rfl hl.1 rfl (lv_room (Nat.le_of_ble_eq_true rfl)) dL_isOpenByLog_2 ⟨Nat.le_of_eq (Nat.zero_add _), Nat.le_of_eq (Nat.zero_add _)⟩) hP hD hS hA (fun i E ce q9 Hz Lz hk hE hP hS hce hcv hcl => ?_) (fun rz w1 Hz Lz hq hP hD hS => ?_)
  · have hi : i < 1 := (List.getElem?_eq_some_iff.mp hE).1
    rw [List.append_nil] at hP hD
    obtain rfl : i = 0 := by omega
    have hE : E = "java/lang/IndexOutOfBoundsException" := (Option.some.inj hE).symm
    subst hE
    refine vx_catch (own := RL) (name := "java/lang/IndexOutOfBoundsException") hown [] ⟨0, 6, 9, 14⟩ [] htab (fun _ h => absurd h List.not_mem_nil) rfl (by decide) (hts (.classLink RL 14 "java/lang/IndexOutOfBoundsException") (List.mem_of_getElem? (i := 1) rfl)) (va_Nw.use (w := .castable "java/lang/IndexOutOfBoundsException" "java/lang/IndexOutOfBoundsException") rfl (hX.1 0 (by omega))) hce hcv hcl ?_
    refine lv_astore_n (lv' := [(3, .ref q9), (0, .ref (r 0)), (1, .int a1)]) hx hb dL_isOpenByLog_9 rfl hl (by decide) rfl (fun ls hl => ?_)
    refine lv_sipush (v := (-7100)) hx hb dL_isOpenByLog_10 (by decide) ?_
    exact vx_ret (z_widen (k := 2) (n := 12) (Nat.le_of_eq (Nat.zero_add _)) (Nat.le_of_eq (Nat.zero_add _)) (W.iret (v := (-7100)) hx hb hr (fun t ht hW => ⟨⟨(-7100), w, rfl, ⟨fun h => absurd (hk.symm.trans h) (by decide), fun _ => ⟨by rw [hk]; rfl, rfl⟩⟩, ⟨by rw [ht]; exact hP, hD⟩⟩, hS.F ht⟩) hS.2.2 dL_isOpenByLog_13 hlocks))
  · obtain ⟨hk0, hra, hco⟩ := hq
    rw [hra]
    rw [List.append_nil] at hP hD
    refine lv_istore_n (lv' := [(2, .int (T 3 a1.toNatClampNeg)), (0, .ref (r 0)), (1, .int a1)]) hx hb dL_isOpenByLog_5 rfl hl (by decide) rfl (fun ls hl => ?_)
    refine lv_goto (tgt := 14) hx hb dL_isOpenByLog_6 (by decide) ?_
    refine lv_iload_n hx hb dL_isOpenByLog_14 rfl (lv_at hl 0 rfl) ?_
    refine lv_if_eq (tgt := 22) hx hb dL_isOpenByLog_15 (by decide) (fun zc => ?_) (fun zc => ?_)
    · refine lv_iconst (v := 0) hx hb dL_isOpenByLog_22 (by decide) ?_
      exact vx_ret (z_widen (k := 2) (n := 12) (Nat.le_of_eq (Nat.zero_add _)) (Nat.le_of_eq (Nat.zero_add _)) (W.iret (v := 0) hx hb hr (fun t ht hW => ⟨⟨0, w1, rfl, ⟨fun _ => ⟨zc.symm, hco⟩, fun h => absurd hk0 h⟩, ⟨by rw [ht]; exact hP, hD⟩⟩, hS.F ht⟩) hS.2.2 dL_isOpenByLog_23 hlocks))
    · refine lv_iconst (v := 1) hx hb dL_isOpenByLog_18 (by decide) ?_
      refine lv_goto (tgt := 23) hx hb dL_isOpenByLog_19 (by decide) ?_
      exact vx_ret (z_widen (k := 2) (n := 12) (Nat.le_of_eq (Nat.zero_add _)) (Nat.le_of_eq (Nat.zero_add _)) (W.iret (v := 1) hx hb hr (fun t ht hW => ⟨⟨1, w1, rfl, ⟨fun _ => ⟨((hI.2.1 a1.toNatClampNeg).2.1.resolve_left zc).symm, hco⟩, fun h => absurd hk0 h⟩, ⟨by rw [ht]; exact hP, hD⟩⟩, hS.F ht⟩) hS.2.2 dL_isOpenByLog_23 hlocks))

set_option maxHeartbeats 4000000 in
set_option maxRecDepth 100000 in
theorem h_level (l : Launch) (hst : l.stackTraces = false) (G : zG) (d : Nat) (r A : Nat → Nat) (mc : Nat → Int32) (g : Nat → Nat → Int32) (N : Nat → Nat) (T : Nat → Nat → Int32) (w : va_W) (K : Nat) (a1 : Int32) (sz : Nat) (hC : sCQ G d r A mc g N T w) (hI : sInv N T K 0) (hKk : K ≤ 511) : vx_Met l yL_level wsL_level ({ frames := 8, cells := 2, slots := 12, locals := 131 }) (va_Pc [.ref (r 0), .int a1] (zHu G d w sz)) (va_Qi (fun (r1 : Int32) (w1 : va_W) => (sK1 (sIx a1 3) = 0 → r1 = T 6 a1.toNatClampNeg ∧ sCO G d r N T w1) ∧ (¬ sK1 (sIx a1 3) = 0 → r1 = zCx [-7100] (sK1 (sIx a1 3)) ∧ w1 = w)) (zB G (va_A w sz)) (va_A w sz)) (zXk [] 0) (2) (12) (va_A w sz) := by
  refine vx_ofWH (cc := cL_level) (maxL := 4) (ret := (some .int)) (hh := [(0, 6, 9, 14)]) (by decide) rfl ?_
  intro p e s m args below meth c s₁ B hml hv
  obtain ⟨rfl, ⟨hsz, hP, hK, hD0, hZ⟩, hX⟩ := hv
  have hx := B.exec
  have hb := B.bytes
  have hr := B.returns
  have hts := atoms_spec (ws := wsL_level) B.pre
  have hown : s.vm.findClass RL = some m.cls := findClass_of_methodNamed B.named
  have hlocks := B.notSynchronized
  have htab := vx_table (x := yL_level) B (hts _ (List.mem_of_getElem? (i := 0) rfl))
  subst hsz
  have hD := hD0.self (sz := s.heap.size)
  generalize hAe : va_A w s.heap.size = Aw at hD hZ ⊢
  have hA : ∀ q : Nat, s.heap.size ≤ q → Aw q := fun q h => by rw [← hAe]; exact Or.inr h
  have hS : va_S Aw s.heap s.heap [] := va_S.rf
  have hl := lv_entry ([.ref (r 0), .int a1]) (n := 4) (Nat.le_of_ble_eq_true rfl)
  rw [lg_entry_eq]
  generalize (lg_sl ([.ref (r 0), .int a1]) ++ List.replicate (4 - (lg_sl ([.ref (r 0), .int a1])).length) Slot.unset).toArray = ls at hl ⊢
  have hl : lv_has ls 4 [(0, .ref (r 0)), (1, .int a1)] := hl
  have hP : va_P G.1 vwCl (w ++ ([] : va_W)) s.heap := by rw [List.append_nil]; exact hP
  have hD : va_D Aw (w ++ ([] : va_W)) := by rw [List.append_nil]; exact hD
  refine lv_aload_n hx hb dL_level_0 rfl (lv_at hl 0 rfl) ?_
  refine lv_iload_n hx hb dL_level_1 rfl (lv_at hl 1 rfl) ?_
  refine z_xi (G := G) (w := w) (wr := ([] : va_W)) (vx_runV (As := [.int a1]) (rest := []) ⟨hx, hb, hml, hown, hts⟩ (c_X6_level l hst G d r A mc g N T w K a1 s.heap.size hC hI hKk) (cwV 1 hts gL_level_X6_level rfl rfl rfl (by decide +kernel) ⟨Nat.le_of_ble_eq_true rfl, Nat.le_of_ble_eq_true rfl⟩) (z_wv hK (z_apL hP) (ci := 7) (q0 := 0) rfl (hC.1.1 0 (by omega)) (z_apL hP) (z_dL hD) hZ hS hA) rfl rfl hl.1 rfl (lv_room (Nat.le_of_ble_eq_true rfl)) dL_level_2 ⟨Nat.le_of_eq (Nat.zero_add _), Nat.le_of_eq (Nat.zero_add _)⟩) hP hD hS hA (fun i E ce q9 Hz Lz hk hE hP hS hce hcv hcl => ?_) (fun rz w1 Hz Lz hq hP hD hS => ?_)
  · have hi : i < 1 := (List.getElem?_eq_some_iff.mp hE).1
    rw [List.append_nil] at hP hD
    obtain rfl : i = 0 := by omega
    have hE : E = "java/lang/IndexOutOfBoundsException" := (Option.some.inj hE).symm
    subst hE
    refine vx_catch (own := RL) (name := "java/lang/IndexOutOfBoundsException") hown [] ⟨0, 6, 9, 14⟩ [] htab (fun _ h => absurd h List.not_mem_nil) rfl (by decide) (hts (.classLink RL 14 "java/lang/IndexOutOfBoundsException") (List.mem_of_getElem? (i := 1) rfl)) (va_Nw.use (w := .castable "java/lang/IndexOutOfBoundsException" "java/lang/IndexOutOfBoundsException") rfl (hX.1 0 (by omega))) hce hcv hcl ?_
    refine lv_astore_n (lv' := [(3, .ref q9), (0, .ref (r 0)), (1, .int a1)]) hx hb dL_level_9 rfl hl (by decide) rfl (fun ls hl => ?_)
    refine lv_sipush (v := (-7100)) hx hb dL_level_10 (by decide) ?_
    exact vx_ret (z_widen (k := 2) (n := 12) (Nat.le_of_eq (Nat.zero_add _)) (Nat.le_of_eq (Nat.zero_add _)) (W.iret (v := (-7100)) hx hb hr (fun t ht hW => ⟨⟨(-7100), w, rfl, ⟨fun h => absurd (hk.symm.trans h) (by decide), fun _ => ⟨by rw [hk]; rfl, rfl⟩⟩, ⟨by rw [ht]; exact hP, hD⟩⟩, hS.F ht⟩) hS.2.2 dL_level_13 hlocks))
  · obtain ⟨hk0, hra, hco⟩ := hq
    rw [hra]
    rw [List.append_nil] at hP hD
    refine lv_istore_n (lv' := [(2, .int (T 6 a1.toNatClampNeg)), (0, .ref (r 0)), (1, .int a1)]) hx hb dL_level_5 rfl hl (by decide) rfl (fun ls hl => ?_)
    refine lv_goto (tgt := 14) hx hb dL_level_6 (by decide) ?_
    refine lv_iload_n hx hb dL_level_14 rfl (lv_at hl 0 rfl) ?_
    exact vx_ret (z_widen (k := 2) (n := 12) (Nat.le_of_eq (Nat.zero_add _)) (Nat.le_of_eq (Nat.zero_add _)) (W.iret (v := (T 6 a1.toNatClampNeg)) hx hb hr (fun t ht hW => ⟨⟨(T 6 a1.toNatClampNeg), w1, rfl, ⟨fun _ => ⟨rfl, hco⟩, fun h => absurd hk0 h⟩, ⟨by rw [ht]; exact hP, hD⟩⟩, hS.F ht⟩) hS.2.2 dL_level_15 hlocks))

set_option maxHeartbeats 4000000 in
set_option maxRecDepth 100000 in
theorem h_hang (l : Launch) (hst : l.stackTraces = false) (G : zG) (d : Nat) (r A : Nat → Nat) (mc : Nat → Int32) (g : Nat → Nat → Int32) (N : Nat → Nat) (T : Nat → Nat → Int32) (w : va_W) (K : Nat) (a1 a2 : Int32) (sz : Nat) (hC : sCQ G d r A mc g N T w) (hI : sInv N T K 0) (hKk : K ≤ 511) : vx_Met l yL_hang wsL_hang ({ frames := 8, cells := (8 + zmc (sK2 ((sIx a1 9) && (sIx a2 8)) ((sMay N T a1) && !decide (N 2 = 40))) (N 1) (N 1 + 1)), slots := (200 + zms (sK2 ((sIx a1 9) && (sIx a2 8)) ((sMay N T a1) && !decide (N 2 = 40))) (N 1) (N 1 + 1)), locals := 194 }) (va_Pc [.ref (r 0), .int a1, .int a2] (zHu G d w sz)) (va_Qi (fun (r1 : Int32) (w1 : va_W) => (sK2 ((sIx a1 9) && (sIx a2 8)) ((sMay N T a1) && !decide (N 2 = 40)) = 0 → r1 = nI (N 2) ∧ sCO G d r ((nHang N T a1 a2).1) ((nHang N T a1 a2).2) w1) ∧ (¬ sK2 ((sIx a1 9) && (sIx a2 8)) ((sMay N T a1) && !decide (N 2 = 40)) = 0 → r1 = zCx [-7100, -7300] (sK2 ((sIx a1 9) && (sIx a2 8)) ((sMay N T a1) && !decide (N 2 = 40))) ∧ w1 = w)) (zB G (va_A w sz)) (va_A w sz)) (zXk [] 0) ((8 + zmc (sK2 ((sIx a1 9) && (sIx a2 8)) ((sMay N T a1) && !decide (N 2 = 40))) (N 1) (N 1 + 1))) ((200 + zms (sK2 ((sIx a1 9) && (sIx a2 8)) ((sMay N T a1) && !decide (N 2 = 40))) (N 1) (N 1 + 1))) (va_A w sz) := by
  refine vx_ofWH (cc := cL_hang) (maxL := 5) (ret := (some .int)) (hh := [(0, 7, 10, 14), (0, 7, 16, 18)]) (by decide) rfl ?_
  intro p e s m args below meth c s₁ B hml hv
  obtain ⟨rfl, ⟨hsz, hP, hK, hD0, hZ⟩, hX⟩ := hv
  have hx := B.exec
  have hb := B.bytes
  have hr := B.returns
  have hts := atoms_spec (ws := wsL_hang) B.pre
  have hown : s.vm.findClass RL = some m.cls := findClass_of_methodNamed B.named
  have hlocks := B.notSynchronized
  have htab := vx_table (x := yL_hang) B (hts _ (List.mem_of_getElem? (i := 0) rfl))
  subst hsz
  have hD := hD0.self (sz := s.heap.size)
  generalize hAe : va_A w s.heap.size = Aw at hD hZ ⊢
  have hA : ∀ q : Nat, s.heap.size ≤ q → Aw q := fun q h => by rw [← hAe]; exact Or.inr h
  have hS : va_S Aw s.heap s.heap [] := va_S.rf
  have hl := lv_entry ([.ref (r 0), .int a1, .int a2]) (n := 5) (Nat.le_of_ble_eq_true rfl)
  rw [lg_entry_eq]
  generalize (lg_sl ([.ref (r 0), .int a1, .int a2]) ++ List.replicate (5 - (lg_sl ([.ref (r 0), .int a1, .int a2])).length) Slot.unset).toArray = ls at hl ⊢
  have hl : lv_has ls 5 [(0, .ref (r 0)), (1, .int a1), (2, .int a2)] := hl
  have hP : va_P G.1 vwCl (w ++ ([] : va_W)) s.heap := by rw [List.append_nil]; exact hP
  have hD : va_D Aw (w ++ ([] : va_W)) := by rw [List.append_nil]; exact hD
  refine lv_aload_n hx hb dL_hang_0 rfl (lv_at hl 0 rfl) ?_
  refine lv_iload_n hx hb dL_hang_1 rfl (lv_at hl 1 rfl) ?_
  refine lv_iload_n hx hb dL_hang_2 rfl (lv_at hl 2 rfl) ?_
  refine z_xi (G := G) (w := w) (wr := ([] : va_W)) (vx_runV (As := [.int a1, .int a2]) (rest := []) ⟨hx, hb, hml, hown, hts⟩ (c_X6_hang l hst G d r A mc g N T w K a1 a2 s.heap.size hC hI hKk) (cwV 2 hts gL_hang_X6_hang rfl rfl rfl (by decide +kernel) ⟨Nat.le_of_ble_eq_true rfl, Nat.le_of_ble_eq_true rfl⟩) (z_wv hK (z_apL hP) (ci := 7) (q0 := 0) rfl (hC.1.1 0 (by omega)) (z_apL hP) (z_dL hD) hZ hS hA) rfl rfl hl.1 rfl (lv_room (Nat.le_of_ble_eq_true rfl)) dL_hang_3 ⟨Nat.le_of_eq (Nat.zero_add _), Nat.le_of_eq (Nat.zero_add _)⟩) hP hD hS hA (fun i E ce q9 Hz Lz hk hE hP hS hce hcv hcl => ?_) (fun rz w1 Hz Lz hq hP hD hS => ?_)
  · have hi : i < 2 := (List.getElem?_eq_some_iff.mp hE).1
    rw [List.append_nil] at hP hD
    rcases (show i = 0 ∨ i = 1 by omega) with rfl | rfl
    · skip
      have hE : E = "java/lang/IndexOutOfBoundsException" := (Option.some.inj hE).symm
      subst hE
      refine vx_catch (own := RL) (name := "java/lang/IndexOutOfBoundsException") hown [] ⟨0, 7, 10, 14⟩ [⟨0, 7, 16, 18⟩] htab (fun _ h => absurd h List.not_mem_nil) rfl (by decide) (hts (.classLink RL 14 "java/lang/IndexOutOfBoundsException") (List.mem_of_getElem? (i := 1) rfl)) (va_Nw.use (w := .castable "java/lang/IndexOutOfBoundsException" "java/lang/IndexOutOfBoundsException") rfl (hX.1 0 (by omega))) hce hcv hcl ?_
      refine lv_astore (lv' := [(4, .ref q9), (0, .ref (r 0)), (1, .int a1), (2, .int a2)]) hx hb dL_hang_10 hl (by decide) rfl (fun ls hl => ?_)
      refine lv_sipush (v := (-7100)) hx hb dL_hang_12 (by decide) ?_
      exact vx_ret (z_widen (k := (8 + zmc (sK2 ((sIx a1 9) && (sIx a2 8)) ((sMay N T a1) && !decide (N 2 = 40))) (N 1) (N 1 + 1))) (n := (200 + zms (sK2 ((sIx a1 9) && (sIx a2 8)) ((sMay N T a1) && !decide (N 2 = 40))) (N 1) (N 1 + 1))) (Nat.le_of_eq (Nat.zero_add _)) (Nat.le_of_eq (Nat.zero_add _)) (W.iret (v := (-7100)) hx hb hr (fun t ht hW => ⟨⟨(-7100), w, rfl, ⟨fun h => absurd (hk.symm.trans h) (by decide), fun _ => ⟨by rw [hk]; rfl, rfl⟩⟩, ⟨by rw [ht]; exact hP, hD⟩⟩, hS.F ht⟩) hS.2.2 dL_hang_15 hlocks))
    · skip
      have hE : E = "java/lang/IllegalStateException" := (Option.some.inj hE).symm
      subst hE
      refine vx_catch (own := RL) (name := "java/lang/IllegalStateException") hown [⟨0, 7, 10, 14⟩] ⟨0, 7, 16, 18⟩ [] htab (List.forall_mem_cons.mpr ⟨Or.inr ⟨by decide, "java/lang/IndexOutOfBoundsException", hts (.classLink RL 14 "java/lang/IndexOutOfBoundsException") (List.mem_of_getElem? (i := 1) rfl), hX.2 2 0 (by omega) (by omega) (by decide)⟩, fun _ h => absurd h List.not_mem_nil⟩) rfl (by decide) (hts (.classLink RL 18 "java/lang/IllegalStateException") (List.mem_of_getElem? (i := 2) rfl)) (va_Nw.use (w := .castable "java/lang/IllegalStateException" "java/lang/IllegalStateException") rfl (hX.1 2 (by omega))) hce hcv hcl ?_
      refine lv_astore (lv' := [(4, .ref q9), (0, .ref (r 0)), (1, .int a1), (2, .int a2)]) hx hb dL_hang_16 hl (by decide) rfl (fun ls hl => ?_)
      refine lv_sipush (v := (-7300)) hx hb dL_hang_18 (by decide) ?_
      exact vx_ret (z_widen (k := (8 + zmc (sK2 ((sIx a1 9) && (sIx a2 8)) ((sMay N T a1) && !decide (N 2 = 40))) (N 1) (N 1 + 1))) (n := (200 + zms (sK2 ((sIx a1 9) && (sIx a2 8)) ((sMay N T a1) && !decide (N 2 = 40))) (N 1) (N 1 + 1))) (Nat.le_of_eq (Nat.zero_add _)) (Nat.le_of_eq (Nat.zero_add _)) (W.iret (v := (-7300)) hx hb hr (fun t ht hW => ⟨⟨(-7300), w, rfl, ⟨fun h => absurd (hk.symm.trans h) (by decide), fun _ => ⟨by rw [hk]; rfl, rfl⟩⟩, ⟨by rw [ht]; exact hP, hD⟩⟩, hS.F ht⟩) hS.2.2 dL_hang_21 hlocks))
  · obtain ⟨hk0, hra, hco⟩ := hq
    rw [hra]
    rw [List.append_nil] at hP hD
    refine lv_istore_n (lv' := [(3, .int (nI (N 2))), (0, .ref (r 0)), (1, .int a1), (2, .int a2)]) hx hb dL_hang_6 rfl hl (by decide) rfl (fun ls hl => ?_)
    refine lv_goto (tgt := 22) hx hb dL_hang_7 (by decide) ?_
    refine lv_iload_n hx hb dL_hang_22 rfl (lv_at hl 0 rfl) ?_
    exact vx_ret (z_widen (k := (8 + zmc (sK2 ((sIx a1 9) && (sIx a2 8)) ((sMay N T a1) && !decide (N 2 = 40))) (N 1) (N 1 + 1))) (n := (200 + zms (sK2 ((sIx a1 9) && (sIx a2 8)) ((sMay N T a1) && !decide (N 2 = 40))) (N 1) (N 1 + 1))) (Nat.le_of_eq (Nat.zero_add _)) (Nat.le_of_eq (Nat.zero_add _)) (W.iret (v := (nI (N 2))) hx hb hr (fun t ht hW => ⟨⟨(nI (N 2)), w1, rfl, ⟨fun _ => ⟨rfl, hco⟩, fun h => absurd hk0 h⟩, ⟨by rw [ht]; exact hP, hD⟩⟩, hS.F ht⟩) hS.2.2 dL_hang_23 hlocks))

set_option maxHeartbeats 4000000 in
set_option maxRecDepth 100000 in
theorem h_takeOff (l : Launch) (hst : l.stackTraces = false) (G : zG) (d : Nat) (r A : Nat → Nat) (mc : Nat → Int32) (g : Nat → Nat → Int32) (N : Nat → Nat) (T : Nat → Nat → Int32) (w : va_W) (K : Nat) (a1 a2 : Int32) (sz : Nat) (hC : sCQ G d r A mc g N T w) (hI : sInv N T K 0) (hKk : K ≤ 511) : vx_Met l yL_takeOff wsL_takeOff ({ frames := 8, cells := (8 + zmc (sK2 ((sIx a1 9) && (sIx a2 (N 2))) (((decide (T 10 a2.toNatClampNeg = 0)) && (sMay N T a1)) && (decide (a1 = T 7 a2.toNatClampNeg) || !decide (T 2 (T 7 a2.toNatClampNeg).toNatClampNeg = 0)))) (N 1) ((nTake N T a1 a2).1 1)), slots := (200 + zms (sK2 ((sIx a1 9) && (sIx a2 (N 2))) (((decide (T 10 a2.toNatClampNeg = 0)) && (sMay N T a1)) && (decide (a1 = T 7 a2.toNatClampNeg) || !decide (T 2 (T 7 a2.toNatClampNeg).toNatClampNeg = 0)))) (N 1) ((nTake N T a1 a2).1 1)), locals := 134 }) (va_Pc [.ref (r 0), .int a1, .int a2] (zHu G d w sz)) (va_Qi (fun (r1 : Int32) (w1 : va_W) => (sK2 ((sIx a1 9) && (sIx a2 (N 2))) (((decide (T 10 a2.toNatClampNeg = 0)) && (sMay N T a1)) && (decide (a1 = T 7 a2.toNatClampNeg) || !decide (T 2 (T 7 a2.toNatClampNeg).toNatClampNeg = 0))) = 0 → r1 = zb (sComes T a1 a2.toNatClampNeg) ∧ sCO G d r ((nTake N T a1 a2).1) ((nTake N T a1 a2).2) w1) ∧ (¬ sK2 ((sIx a1 9) && (sIx a2 (N 2))) (((decide (T 10 a2.toNatClampNeg = 0)) && (sMay N T a1)) && (decide (a1 = T 7 a2.toNatClampNeg) || !decide (T 2 (T 7 a2.toNatClampNeg).toNatClampNeg = 0))) = 0 → r1 = zCx [-7100, -7300] (sK2 ((sIx a1 9) && (sIx a2 (N 2))) (((decide (T 10 a2.toNatClampNeg = 0)) && (sMay N T a1)) && (decide (a1 = T 7 a2.toNatClampNeg) || !decide (T 2 (T 7 a2.toNatClampNeg).toNatClampNeg = 0)))) ∧ w1 = w)) (zB G (va_A w sz)) (va_A w sz)) (zXk [] 0) ((8 + zmc (sK2 ((sIx a1 9) && (sIx a2 (N 2))) (((decide (T 10 a2.toNatClampNeg = 0)) && (sMay N T a1)) && (decide (a1 = T 7 a2.toNatClampNeg) || !decide (T 2 (T 7 a2.toNatClampNeg).toNatClampNeg = 0)))) (N 1) ((nTake N T a1 a2).1 1))) ((200 + zms (sK2 ((sIx a1 9) && (sIx a2 (N 2))) (((decide (T 10 a2.toNatClampNeg = 0)) && (sMay N T a1)) && (decide (a1 = T 7 a2.toNatClampNeg) || !decide (T 2 (T 7 a2.toNatClampNeg).toNatClampNeg = 0)))) (N 1) ((nTake N T a1 a2).1 1))) (va_A w sz) := by
  refine vx_ofWH (cc := cL_takeOff) (maxL := 5) (ret := (some .int)) (hh := [(0, 7, 10, 14), (0, 7, 16, 18)]) (by decide) rfl ?_
  intro p e s m args below meth c s₁ B hml hv
  obtain ⟨rfl, ⟨hsz, hP, hK, hD0, hZ⟩, hX⟩ := hv
  have hx := B.exec
  have hb := B.bytes
  have hr := B.returns
  have hts := atoms_spec (ws := wsL_takeOff) B.pre
  have hown : s.vm.findClass RL = some m.cls := findClass_of_methodNamed B.named
  have hlocks := B.notSynchronized
  have htab := vx_table (x := yL_takeOff) B (hts _ (List.mem_of_getElem? (i := 0) rfl))
  subst hsz
  have hD := hD0.self (sz := s.heap.size)
  generalize hAe : va_A w s.heap.size = Aw at hD hZ ⊢
  have hA : ∀ q : Nat, s.heap.size ≤ q → Aw q := fun q h => by rw [← hAe]; exact Or.inr h
  have hS : va_S Aw s.heap s.heap [] := va_S.rf
  have hl := lv_entry ([.ref (r 0), .int a1, .int a2]) (n := 5) (Nat.le_of_ble_eq_true rfl)
  rw [lg_entry_eq]
  generalize (lg_sl ([.ref (r 0), .int a1, .int a2]) ++ List.replicate (5 - (lg_sl ([.ref (r 0), .int a1, .int a2])).length) Slot.unset).toArray = ls at hl ⊢
  have hl : lv_has ls 5 [(0, .ref (r 0)), (1, .int a1), (2, .int a2)] := hl
  have hP : va_P G.1 vwCl (w ++ ([] : va_W)) s.heap := by rw [List.append_nil]; exact hP
  have hD : va_D Aw (w ++ ([] : va_W)) := by rw [List.append_nil]; exact hD
  refine lv_aload_n hx hb dL_takeOff_0 rfl (lv_at hl 0 rfl) ?_
  refine lv_iload_n hx hb dL_takeOff_1 rfl (lv_at hl 1 rfl) ?_
  refine lv_iload_n hx hb dL_takeOff_2 rfl (lv_at hl 2 rfl) ?_
  refine z_xi (G := G) (w := w) (wr := ([] : va_W)) (vx_runV (As := [.int a1, .int a2]) (rest := []) ⟨hx, hb, hml, hown, hts⟩ (c_X6_takeOff l hst G d r A mc g N T w K a1 a2 s.heap.size hC hI hKk) (cwV 2 hts gL_takeOff_X6_takeOff rfl rfl rfl (by decide +kernel) ⟨Nat.le_of_ble_eq_true rfl, Nat.le_of_ble_eq_true rfl⟩) (z_wv hK (z_apL hP) (ci := 7) (q0 := 0) rfl (hC.1.1 0 (by omega)) (z_apL hP) (z_dL hD) hZ hS hA) rfl rfl hl.1 rfl (lv_room (Nat.le_of_ble_eq_true rfl)) dL_takeOff_3 ⟨Nat.le_of_eq (Nat.zero_add _), Nat.le_of_eq (Nat.zero_add _)⟩) hP hD hS hA (fun i E ce q9 Hz Lz hk hE hP hS hce hcv hcl => ?_) (fun rz w1 Hz Lz hq hP hD hS => ?_)
  · have hi : i < 2 := (List.getElem?_eq_some_iff.mp hE).1
    rw [List.append_nil] at hP hD
    rcases (show i = 0 ∨ i = 1 by omega) with rfl | rfl
    · skip
      have hE : E = "java/lang/IndexOutOfBoundsException" := (Option.some.inj hE).symm
      subst hE
      refine vx_catch (own := RL) (name := "java/lang/IndexOutOfBoundsException") hown [] ⟨0, 7, 10, 14⟩ [⟨0, 7, 16, 18⟩] htab (fun _ h => absurd h List.not_mem_nil) rfl (by decide) (hts (.classLink RL 14 "java/lang/IndexOutOfBoundsException") (List.mem_of_getElem? (i := 1) rfl)) (va_Nw.use (w := .castable "java/lang/IndexOutOfBoundsException" "java/lang/IndexOutOfBoundsException") rfl (hX.1 0 (by omega))) hce hcv hcl ?_
      refine lv_astore (lv' := [(4, .ref q9), (0, .ref (r 0)), (1, .int a1), (2, .int a2)]) hx hb dL_takeOff_10 hl (by decide) rfl (fun ls hl => ?_)
      refine lv_sipush (v := (-7100)) hx hb dL_takeOff_12 (by decide) ?_
      exact vx_ret (z_widen (k := (8 + zmc (sK2 ((sIx a1 9) && (sIx a2 (N 2))) (((decide (T 10 a2.toNatClampNeg = 0)) && (sMay N T a1)) && (decide (a1 = T 7 a2.toNatClampNeg) || !decide (T 2 (T 7 a2.toNatClampNeg).toNatClampNeg = 0)))) (N 1) ((nTake N T a1 a2).1 1))) (n := (200 + zms (sK2 ((sIx a1 9) && (sIx a2 (N 2))) (((decide (T 10 a2.toNatClampNeg = 0)) && (sMay N T a1)) && (decide (a1 = T 7 a2.toNatClampNeg) || !decide (T 2 (T 7 a2.toNatClampNeg).toNatClampNeg = 0)))) (N 1) ((nTake N T a1 a2).1 1))) (Nat.le_of_eq (Nat.zero_add _)) (Nat.le_of_eq (Nat.zero_add _)) (W.iret (v := (-7100)) hx hb hr (fun t ht hW => ⟨⟨(-7100), w, rfl, ⟨fun h => absurd (hk.symm.trans h) (by decide), fun _ => ⟨by rw [hk]; rfl, rfl⟩⟩, ⟨by rw [ht]; exact hP, hD⟩⟩, hS.F ht⟩) hS.2.2 dL_takeOff_15 hlocks))
    · skip
      have hE : E = "java/lang/IllegalStateException" := (Option.some.inj hE).symm
      subst hE
      refine vx_catch (own := RL) (name := "java/lang/IllegalStateException") hown [⟨0, 7, 10, 14⟩] ⟨0, 7, 16, 18⟩ [] htab (List.forall_mem_cons.mpr ⟨Or.inr ⟨by decide, "java/lang/IndexOutOfBoundsException", hts (.classLink RL 14 "java/lang/IndexOutOfBoundsException") (List.mem_of_getElem? (i := 1) rfl), hX.2 2 0 (by omega) (by omega) (by decide)⟩, fun _ h => absurd h List.not_mem_nil⟩) rfl (by decide) (hts (.classLink RL 18 "java/lang/IllegalStateException") (List.mem_of_getElem? (i := 2) rfl)) (va_Nw.use (w := .castable "java/lang/IllegalStateException" "java/lang/IllegalStateException") rfl (hX.1 2 (by omega))) hce hcv hcl ?_
      refine lv_astore (lv' := [(4, .ref q9), (0, .ref (r 0)), (1, .int a1), (2, .int a2)]) hx hb dL_takeOff_16 hl (by decide) rfl (fun ls hl => ?_)
      refine lv_sipush (v := (-7300)) hx hb dL_takeOff_18 (by decide) ?_
      exact vx_ret (z_widen (k := (8 + zmc (sK2 ((sIx a1 9) && (sIx a2 (N 2))) (((decide (T 10 a2.toNatClampNeg = 0)) && (sMay N T a1)) && (decide (a1 = T 7 a2.toNatClampNeg) || !decide (T 2 (T 7 a2.toNatClampNeg).toNatClampNeg = 0)))) (N 1) ((nTake N T a1 a2).1 1))) (n := (200 + zms (sK2 ((sIx a1 9) && (sIx a2 (N 2))) (((decide (T 10 a2.toNatClampNeg = 0)) && (sMay N T a1)) && (decide (a1 = T 7 a2.toNatClampNeg) || !decide (T 2 (T 7 a2.toNatClampNeg).toNatClampNeg = 0)))) (N 1) ((nTake N T a1 a2).1 1))) (Nat.le_of_eq (Nat.zero_add _)) (Nat.le_of_eq (Nat.zero_add _)) (W.iret (v := (-7300)) hx hb hr (fun t ht hW => ⟨⟨(-7300), w, rfl, ⟨fun h => absurd (hk.symm.trans h) (by decide), fun _ => ⟨by rw [hk]; rfl, rfl⟩⟩, ⟨by rw [ht]; exact hP, hD⟩⟩, hS.F ht⟩) hS.2.2 dL_takeOff_21 hlocks))
  · obtain ⟨hk0, hra, hco⟩ := hq
    rw [hra]
    rw [List.append_nil] at hP hD
    refine lv_istore_n (lv' := [(3, .int (zb (sComes T a1 a2.toNatClampNeg))), (0, .ref (r 0)), (1, .int a1), (2, .int a2)]) hx hb dL_takeOff_6 rfl hl (by decide) rfl (fun ls hl => ?_)
    refine lv_goto (tgt := 22) hx hb dL_takeOff_7 (by decide) ?_
    refine lv_iload_n hx hb dL_takeOff_22 rfl (lv_at hl 0 rfl) ?_
    refine lv_if_eq (tgt := 30) hx hb dL_takeOff_23 (by decide) (fun zc => ?_) (fun zc => ?_)
    · refine lv_iconst (v := 0) hx hb dL_takeOff_30 (by decide) ?_
      exact vx_ret (z_widen (k := (8 + zmc (sK2 ((sIx a1 9) && (sIx a2 (N 2))) (((decide (T 10 a2.toNatClampNeg = 0)) && (sMay N T a1)) && (decide (a1 = T 7 a2.toNatClampNeg) || !decide (T 2 (T 7 a2.toNatClampNeg).toNatClampNeg = 0)))) (N 1) ((nTake N T a1 a2).1 1))) (n := (200 + zms (sK2 ((sIx a1 9) && (sIx a2 (N 2))) (((decide (T 10 a2.toNatClampNeg = 0)) && (sMay N T a1)) && (decide (a1 = T 7 a2.toNatClampNeg) || !decide (T 2 (T 7 a2.toNatClampNeg).toNatClampNeg = 0)))) (N 1) ((nTake N T a1 a2).1 1))) (Nat.le_of_eq (Nat.zero_add _)) (Nat.le_of_eq (Nat.zero_add _)) (W.iret (v := 0) hx hb hr (fun t ht hW => ⟨⟨0, w1, rfl, ⟨fun _ => ⟨zc.symm, hco⟩, fun h => absurd hk0 h⟩, ⟨by rw [ht]; exact hP, hD⟩⟩, hS.F ht⟩) hS.2.2 dL_takeOff_31 hlocks))
    · refine lv_iconst (v := 1) hx hb dL_takeOff_26 (by decide) ?_
      refine lv_goto (tgt := 31) hx hb dL_takeOff_27 (by decide) ?_
      exact vx_ret (z_widen (k := (8 + zmc (sK2 ((sIx a1 9) && (sIx a2 (N 2))) (((decide (T 10 a2.toNatClampNeg = 0)) && (sMay N T a1)) && (decide (a1 = T 7 a2.toNatClampNeg) || !decide (T 2 (T 7 a2.toNatClampNeg).toNatClampNeg = 0)))) (N 1) ((nTake N T a1 a2).1 1))) (n := (200 + zms (sK2 ((sIx a1 9) && (sIx a2 (N 2))) (((decide (T 10 a2.toNatClampNeg = 0)) && (sMay N T a1)) && (decide (a1 = T 7 a2.toNatClampNeg) || !decide (T 2 (T 7 a2.toNatClampNeg).toNatClampNeg = 0)))) (N 1) ((nTake N T a1 a2).1 1))) (Nat.le_of_eq (Nat.zero_add _)) (Nat.le_of_eq (Nat.zero_add _)) (W.iret (v := 1) hx hb hr (fun t ht hW => ⟨⟨1, w1, rfl, ⟨fun _ => ⟨(by rw [zb_n0 zc]; rfl), hco⟩, fun h => absurd hk0 h⟩, ⟨by rw [ht]; exact hP, hD⟩⟩, hS.F ht⟩) hS.2.2 dL_takeOff_31 hlocks))

set_option maxHeartbeats 4000000 in
set_option maxRecDepth 100000 in
theorem h_valveOf (l : Launch) (hst : l.stackTraces = false) (G : zG) (d : Nat) (r A : Nat → Nat) (mc : Nat → Int32) (g : Nat → Nat → Int32) (N : Nat → Nat) (T : Nat → Nat → Int32) (w : va_W) (K : Nat) (a1 : Int32) (sz : Nat) (hC : sCQ G d r A mc g N T w) (hI : sInv N T K 0) (hKk : K ≤ 511) : vx_Met l yL_valveOf wsL_valveOf ({ frames := 8, cells := 2, slots := 12, locals := 133 }) (va_Pc [.ref (r 0), .int a1] (zHu G d w sz)) (va_Qi (fun (r1 : Int32) (w1 : va_W) => (sK1 (sIx a1 (N 2)) = 0 → r1 = rValveOf T a1 ∧ sCO G d r N T w1) ∧ (¬ sK1 (sIx a1 (N 2)) = 0 → r1 = zCx [-7100] (sK1 (sIx a1 (N 2))) ∧ w1 = w)) (zB G (va_A w sz)) (va_A w sz)) (zXk [] 0) (2) (12) (va_A w sz) := by
  refine vx_ofWH (cc := cL_valveOf) (maxL := 4) (ret := (some .int)) (hh := [(0, 6, 9, 14)]) (by decide) rfl ?_
  intro p e s m args below meth c s₁ B hml hv
  obtain ⟨rfl, ⟨hsz, hP, hK, hD0, hZ⟩, hX⟩ := hv
  have hx := B.exec
  have hb := B.bytes
  have hr := B.returns
  have hts := atoms_spec (ws := wsL_valveOf) B.pre
  have hown : s.vm.findClass RL = some m.cls := findClass_of_methodNamed B.named
  have hlocks := B.notSynchronized
  have htab := vx_table (x := yL_valveOf) B (hts _ (List.mem_of_getElem? (i := 0) rfl))
  subst hsz
  have hD := hD0.self (sz := s.heap.size)
  generalize hAe : va_A w s.heap.size = Aw at hD hZ ⊢
  have hA : ∀ q : Nat, s.heap.size ≤ q → Aw q := fun q h => by rw [← hAe]; exact Or.inr h
  have hS : va_S Aw s.heap s.heap [] := va_S.rf
  have hl := lv_entry ([.ref (r 0), .int a1]) (n := 4) (Nat.le_of_ble_eq_true rfl)
  rw [lg_entry_eq]
  generalize (lg_sl ([.ref (r 0), .int a1]) ++ List.replicate (4 - (lg_sl ([.ref (r 0), .int a1])).length) Slot.unset).toArray = ls at hl ⊢
  have hl : lv_has ls 4 [(0, .ref (r 0)), (1, .int a1)] := hl
  have hP : va_P G.1 vwCl (w ++ ([] : va_W)) s.heap := by rw [List.append_nil]; exact hP
  have hD : va_D Aw (w ++ ([] : va_W)) := by rw [List.append_nil]; exact hD
  refine lv_aload_n hx hb dL_valveOf_0 rfl (lv_at hl 0 rfl) ?_
  refine lv_iload_n hx hb dL_valveOf_1 rfl (lv_at hl 1 rfl) ?_
  refine z_xi (G := G) (w := w) (wr := ([] : va_W)) (vx_runV (As := [.int a1]) (rest := []) ⟨hx, hb, hml, hown, hts⟩ (c_X6_valveOf l hst G d r A mc g N T w K a1 s.heap.size hC hI hKk) (cwV 1 hts gL_valveOf_X6_valveOf rfl rfl rfl (by decide +kernel) ⟨Nat.le_of_ble_eq_true rfl, Nat.le_of_ble_eq_true rfl⟩) (z_wv hK (z_apL hP) (ci := 7) (q0 := 0) rfl (hC.1.1 0 (by omega)) (z_apL hP) (z_dL hD) hZ hS hA) rfl rfl hl.1 rfl (lv_room (Nat.le_of_ble_eq_true rfl)) dL_valveOf_2 ⟨Nat.le_of_eq (Nat.zero_add _), Nat.le_of_eq (Nat.zero_add _)⟩) hP hD hS hA (fun i E ce q9 Hz Lz hk hE hP hS hce hcv hcl => ?_) (fun rz w1 Hz Lz hq hP hD hS => ?_)
  · have hi : i < 1 := (List.getElem?_eq_some_iff.mp hE).1
    rw [List.append_nil] at hP hD
    obtain rfl : i = 0 := by omega
    have hE : E = "java/lang/IndexOutOfBoundsException" := (Option.some.inj hE).symm
    subst hE
    refine vx_catch (own := RL) (name := "java/lang/IndexOutOfBoundsException") hown [] ⟨0, 6, 9, 14⟩ [] htab (fun _ h => absurd h List.not_mem_nil) rfl (by decide) (hts (.classLink RL 14 "java/lang/IndexOutOfBoundsException") (List.mem_of_getElem? (i := 1) rfl)) (va_Nw.use (w := .castable "java/lang/IndexOutOfBoundsException" "java/lang/IndexOutOfBoundsException") rfl (hX.1 0 (by omega))) hce hcv hcl ?_
    refine lv_astore_n (lv' := [(3, .ref q9), (0, .ref (r 0)), (1, .int a1)]) hx hb dL_valveOf_9 rfl hl (by decide) rfl (fun ls hl => ?_)
    refine lv_sipush (v := (-7100)) hx hb dL_valveOf_10 (by decide) ?_
    exact vx_ret (z_widen (k := 2) (n := 12) (Nat.le_of_eq (Nat.zero_add _)) (Nat.le_of_eq (Nat.zero_add _)) (W.iret (v := (-7100)) hx hb hr (fun t ht hW => ⟨⟨(-7100), w, rfl, ⟨fun h => absurd (hk.symm.trans h) (by decide), fun _ => ⟨by rw [hk]; rfl, rfl⟩⟩, ⟨by rw [ht]; exact hP, hD⟩⟩, hS.F ht⟩) hS.2.2 dL_valveOf_13 hlocks))
  · obtain ⟨hk0, hra, hco⟩ := hq
    rw [hra]
    rw [List.append_nil] at hP hD
    refine lv_istore_n (lv' := [(2, .int (rValveOf T a1)), (0, .ref (r 0)), (1, .int a1)]) hx hb dL_valveOf_5 rfl hl (by decide) rfl (fun ls hl => ?_)
    refine lv_goto (tgt := 14) hx hb dL_valveOf_6 (by decide) ?_
    refine lv_iload_n hx hb dL_valveOf_14 rfl (lv_at hl 0 rfl) ?_
    exact vx_ret (z_widen (k := 2) (n := 12) (Nat.le_of_eq (Nat.zero_add _)) (Nat.le_of_eq (Nat.zero_add _)) (W.iret (v := (rValveOf T a1)) hx hb hr (fun t ht hW => ⟨⟨(rValveOf T a1), w1, rfl, ⟨fun _ => ⟨rfl, hco⟩, fun h => absurd hk0 h⟩, ⟨by rw [ht]; exact hP, hD⟩⟩, hS.F ht⟩) hS.2.2 dL_valveOf_15 hlocks))

set_option maxHeartbeats 4000000 in
set_option maxRecDepth 100000 in
theorem h_ownerOf (l : Launch) (hst : l.stackTraces = false) (G : zG) (d : Nat) (r A : Nat → Nat) (mc : Nat → Int32) (g : Nat → Nat → Int32) (N : Nat → Nat) (T : Nat → Nat → Int32) (w : va_W) (K : Nat) (a1 : Int32) (sz : Nat) (hC : sCQ G d r A mc g N T w) (hI : sInv N T K 0) (hKk : K ≤ 511) : vx_Met l yL_ownerOf wsL_ownerOf ({ frames := 8, cells := 2, slots := 12, locals := 132 }) (va_Pc [.ref (r 0), .int a1] (zHu G d w sz)) (va_Qi (fun (r1 : Int32) (w1 : va_W) => (sK1 (sIx a1 (N 2)) = 0 → r1 = T 7 a1.toNatClampNeg ∧ sCO G d r N T w1) ∧ (¬ sK1 (sIx a1 (N 2)) = 0 → r1 = zCx [-7100] (sK1 (sIx a1 (N 2))) ∧ w1 = w)) (zB G (va_A w sz)) (va_A w sz)) (zXk [] 0) (2) (12) (va_A w sz) := by
  refine vx_ofWH (cc := cL_ownerOf) (maxL := 4) (ret := (some .int)) (hh := [(0, 6, 9, 14)]) (by decide) rfl ?_
  intro p e s m args below meth c s₁ B hml hv
  obtain ⟨rfl, ⟨hsz, hP, hK, hD0, hZ⟩, hX⟩ := hv
  have hx := B.exec
  have hb := B.bytes
  have hr := B.returns
  have hts := atoms_spec (ws := wsL_ownerOf) B.pre
  have hown : s.vm.findClass RL = some m.cls := findClass_of_methodNamed B.named
  have hlocks := B.notSynchronized
  have htab := vx_table (x := yL_ownerOf) B (hts _ (List.mem_of_getElem? (i := 0) rfl))
  subst hsz
  have hD := hD0.self (sz := s.heap.size)
  generalize hAe : va_A w s.heap.size = Aw at hD hZ ⊢
  have hA : ∀ q : Nat, s.heap.size ≤ q → Aw q := fun q h => by rw [← hAe]; exact Or.inr h
  have hS : va_S Aw s.heap s.heap [] := va_S.rf
  have hl := lv_entry ([.ref (r 0), .int a1]) (n := 4) (Nat.le_of_ble_eq_true rfl)
  rw [lg_entry_eq]
  generalize (lg_sl ([.ref (r 0), .int a1]) ++ List.replicate (4 - (lg_sl ([.ref (r 0), .int a1])).length) Slot.unset).toArray = ls at hl ⊢
  have hl : lv_has ls 4 [(0, .ref (r 0)), (1, .int a1)] := hl
  have hP : va_P G.1 vwCl (w ++ ([] : va_W)) s.heap := by rw [List.append_nil]; exact hP
  have hD : va_D Aw (w ++ ([] : va_W)) := by rw [List.append_nil]; exact hD
  refine lv_aload_n hx hb dL_ownerOf_0 rfl (lv_at hl 0 rfl) ?_
  refine lv_iload_n hx hb dL_ownerOf_1 rfl (lv_at hl 1 rfl) ?_
  refine z_xi (G := G) (w := w) (wr := ([] : va_W)) (vx_runV (As := [.int a1]) (rest := []) ⟨hx, hb, hml, hown, hts⟩ (c_X6_ownerOf l hst G d r A mc g N T w K a1 s.heap.size hC hI hKk) (cwV 1 hts gL_ownerOf_X6_ownerOf rfl rfl rfl (by decide +kernel) ⟨Nat.le_of_ble_eq_true rfl, Nat.le_of_ble_eq_true rfl⟩) (z_wv hK (z_apL hP) (ci := 7) (q0 := 0) rfl (hC.1.1 0 (by omega)) (z_apL hP) (z_dL hD) hZ hS hA) rfl rfl hl.1 rfl (lv_room (Nat.le_of_ble_eq_true rfl)) dL_ownerOf_2 ⟨Nat.le_of_eq (Nat.zero_add _), Nat.le_of_eq (Nat.zero_add _)⟩) hP hD hS hA (fun i E ce q9 Hz Lz hk hE hP hS hce hcv hcl => ?_) (fun rz w1 Hz Lz hq hP hD hS => ?_)
  · have hi : i < 1 := (List.getElem?_eq_some_iff.mp hE).1
    rw [List.append_nil] at hP hD
    obtain rfl : i = 0 := by omega
    have hE : E = "java/lang/IndexOutOfBoundsException" := (Option.some.inj hE).symm
    subst hE
    refine vx_catch (own := RL) (name := "java/lang/IndexOutOfBoundsException") hown [] ⟨0, 6, 9, 14⟩ [] htab (fun _ h => absurd h List.not_mem_nil) rfl (by decide) (hts (.classLink RL 14 "java/lang/IndexOutOfBoundsException") (List.mem_of_getElem? (i := 1) rfl)) (va_Nw.use (w := .castable "java/lang/IndexOutOfBoundsException" "java/lang/IndexOutOfBoundsException") rfl (hX.1 0 (by omega))) hce hcv hcl ?_
    refine lv_astore_n (lv' := [(3, .ref q9), (0, .ref (r 0)), (1, .int a1)]) hx hb dL_ownerOf_9 rfl hl (by decide) rfl (fun ls hl => ?_)
    refine lv_sipush (v := (-7100)) hx hb dL_ownerOf_10 (by decide) ?_
    exact vx_ret (z_widen (k := 2) (n := 12) (Nat.le_of_eq (Nat.zero_add _)) (Nat.le_of_eq (Nat.zero_add _)) (W.iret (v := (-7100)) hx hb hr (fun t ht hW => ⟨⟨(-7100), w, rfl, ⟨fun h => absurd (hk.symm.trans h) (by decide), fun _ => ⟨by rw [hk]; rfl, rfl⟩⟩, ⟨by rw [ht]; exact hP, hD⟩⟩, hS.F ht⟩) hS.2.2 dL_ownerOf_13 hlocks))
  · obtain ⟨hk0, hra, hco⟩ := hq
    rw [hra]
    rw [List.append_nil] at hP hD
    refine lv_istore_n (lv' := [(2, .int (T 7 a1.toNatClampNeg)), (0, .ref (r 0)), (1, .int a1)]) hx hb dL_ownerOf_5 rfl hl (by decide) rfl (fun ls hl => ?_)
    refine lv_goto (tgt := 14) hx hb dL_ownerOf_6 (by decide) ?_
    refine lv_iload_n hx hb dL_ownerOf_14 rfl (lv_at hl 0 rfl) ?_
    exact vx_ret (z_widen (k := 2) (n := 12) (Nat.le_of_eq (Nat.zero_add _)) (Nat.le_of_eq (Nat.zero_add _)) (W.iret (v := (T 7 a1.toNatClampNeg)) hx hb hr (fun t ht hW => ⟨⟨(T 7 a1.toNatClampNeg), w1, rfl, ⟨fun _ => ⟨rfl, hco⟩, fun h => absurd hk0 h⟩, ⟨by rw [ht]; exact hP, hD⟩⟩, hS.F ht⟩) hS.2.2 dL_ownerOf_15 hlocks))

set_option maxHeartbeats 4000000 in
set_option maxRecDepth 100000 in
theorem h_tagsByLog (l : Launch) (hst : l.stackTraces = false) (G : zG) (d : Nat) (r A : Nat → Nat) (mc : Nat → Int32) (g : Nat → Nat → Int32) (N : Nat → Nat) (T : Nat → Nat → Int32) (w : va_W) (K : Nat) (a1 : Int32) (sz : Nat) (hC : sCQ G d r A mc g N T w) (hI : sInv N T K 0) (hKk : K ≤ 511) (hLG : sLG N T) : vx_Met l yL_tagsByLog wsL_tagsByLog ({ frames := 8, cells := 2, slots := 12, locals := 134 }) (va_Pc [.ref (r 0), .int a1] (zHu G d w sz)) (va_Qi (fun (r1 : Int32) (w1 : va_W) => (sK1 (sIx a1 8) = 0 → r1 = nI (sOn N T a1) ∧ sCO G d r N T w1) ∧ (¬ sK1 (sIx a1 8) = 0 → r1 = zCx [-7100] (sK1 (sIx a1 8)) ∧ w1 = w)) (zB G (va_A w sz)) (va_A w sz)) (zXk [] 0) (2) (12) (va_A w sz) := by
  refine vx_ofWH (cc := cL_tagsByLog) (maxL := 4) (ret := (some .int)) (hh := [(0, 6, 9, 14)]) (by decide) rfl ?_
  intro p e s m args below meth c s₁ B hml hv
  obtain ⟨rfl, ⟨hsz, hP, hK, hD0, hZ⟩, hX⟩ := hv
  have hx := B.exec
  have hb := B.bytes
  have hr := B.returns
  have hts := atoms_spec (ws := wsL_tagsByLog) B.pre
  have hown : s.vm.findClass RL = some m.cls := findClass_of_methodNamed B.named
  have hlocks := B.notSynchronized
  have htab := vx_table (x := yL_tagsByLog) B (hts _ (List.mem_of_getElem? (i := 0) rfl))
  subst hsz
  have hD := hD0.self (sz := s.heap.size)
  generalize hAe : va_A w s.heap.size = Aw at hD hZ ⊢
  have hA : ∀ q : Nat, s.heap.size ≤ q → Aw q := fun q h => by rw [← hAe]; exact Or.inr h
  have hS : va_S Aw s.heap s.heap [] := va_S.rf
  have hl := lv_entry ([.ref (r 0), .int a1]) (n := 4) (Nat.le_of_ble_eq_true rfl)
  rw [lg_entry_eq]
  generalize (lg_sl ([.ref (r 0), .int a1]) ++ List.replicate (4 - (lg_sl ([.ref (r 0), .int a1])).length) Slot.unset).toArray = ls at hl ⊢
  have hl : lv_has ls 4 [(0, .ref (r 0)), (1, .int a1)] := hl
  have hP : va_P G.1 vwCl (w ++ ([] : va_W)) s.heap := by rw [List.append_nil]; exact hP
  have hD : va_D Aw (w ++ ([] : va_W)) := by rw [List.append_nil]; exact hD
  refine lv_aload_n hx hb dL_tagsByLog_0 rfl (lv_at hl 0 rfl) ?_
  refine lv_iload_n hx hb dL_tagsByLog_1 rfl (lv_at hl 1 rfl) ?_
  refine z_xi (G := G) (w := w) (wr := ([] : va_W)) (vx_runV (As := [.int a1]) (rest := []) ⟨hx, hb, hml, hown, hts⟩ (c_X6_tagsByLog l hst G d r A mc g N T w K a1 s.heap.size hC hI hKk hLG) (cwV 1 hts gL_tagsByLog_X6_tagsByLog rfl rfl rfl (by decide +kernel) ⟨Nat.le_of_ble_eq_true rfl, Nat.le_of_ble_eq_true rfl⟩) (z_wv hK (z_apL hP) (ci := 7) (q0 := 0) rfl (hC.1.1 0 (by omega)) (z_apL hP) (z_dL hD) hZ hS hA) rfl rfl hl.1 rfl (lv_room (Nat.le_of_ble_eq_true rfl)) dL_tagsByLog_2 ⟨Nat.le_of_eq (Nat.zero_add _), Nat.le_of_eq (Nat.zero_add _)⟩) hP hD hS hA (fun i E ce q9 Hz Lz hk hE hP hS hce hcv hcl => ?_) (fun rz w1 Hz Lz hq hP hD hS => ?_)
  · have hi : i < 1 := (List.getElem?_eq_some_iff.mp hE).1
    rw [List.append_nil] at hP hD
    obtain rfl : i = 0 := by omega
    have hE : E = "java/lang/IndexOutOfBoundsException" := (Option.some.inj hE).symm
    subst hE
    refine vx_catch (own := RL) (name := "java/lang/IndexOutOfBoundsException") hown [] ⟨0, 6, 9, 14⟩ [] htab (fun _ h => absurd h List.not_mem_nil) rfl (by decide) (hts (.classLink RL 14 "java/lang/IndexOutOfBoundsException") (List.mem_of_getElem? (i := 1) rfl)) (va_Nw.use (w := .castable "java/lang/IndexOutOfBoundsException" "java/lang/IndexOutOfBoundsException") rfl (hX.1 0 (by omega))) hce hcv hcl ?_
    refine lv_astore_n (lv' := [(3, .ref q9), (0, .ref (r 0)), (1, .int a1)]) hx hb dL_tagsByLog_9 rfl hl (by decide) rfl (fun ls hl => ?_)
    refine lv_sipush (v := (-7100)) hx hb dL_tagsByLog_10 (by decide) ?_
    exact vx_ret (z_widen (k := 2) (n := 12) (Nat.le_of_eq (Nat.zero_add _)) (Nat.le_of_eq (Nat.zero_add _)) (W.iret (v := (-7100)) hx hb hr (fun t ht hW => ⟨⟨(-7100), w, rfl, ⟨fun h => absurd (hk.symm.trans h) (by decide), fun _ => ⟨by rw [hk]; rfl, rfl⟩⟩, ⟨by rw [ht]; exact hP, hD⟩⟩, hS.F ht⟩) hS.2.2 dL_tagsByLog_13 hlocks))
  · obtain ⟨hk0, hra, hco⟩ := hq
    rw [hra]
    rw [List.append_nil] at hP hD
    refine lv_istore_n (lv' := [(2, .int (nI (sOn N T a1))), (0, .ref (r 0)), (1, .int a1)]) hx hb dL_tagsByLog_5 rfl hl (by decide) rfl (fun ls hl => ?_)
    refine lv_goto (tgt := 14) hx hb dL_tagsByLog_6 (by decide) ?_
    refine lv_iload_n hx hb dL_tagsByLog_14 rfl (lv_at hl 0 rfl) ?_
    exact vx_ret (z_widen (k := 2) (n := 12) (Nat.le_of_eq (Nat.zero_add _)) (Nat.le_of_eq (Nat.zero_add _)) (W.iret (v := (nI (sOn N T a1))) hx hb hr (fun t ht hW => ⟨⟨(nI (sOn N T a1)), w1, rfl, ⟨fun _ => ⟨rfl, hco⟩, fun h => absurd hk0 h⟩, ⟨by rw [ht]; exact hP, hD⟩⟩, hS.F ht⟩) hS.2.2 dL_tagsByLog_15 hlocks))

set_option maxHeartbeats 4000000 in
set_option maxRecDepth 100000 in
theorem h_read (l : Launch) (hst : l.stackTraces = false) (G : zG) (d : Nat) (r A : Nat → Nat) (mc : Nat → Int32) (g : Nat → Nat → Int32) (N : Nat → Nat) (T : Nat → Nat → Int32) (w : va_W) (K : Nat) (a1 : Int32) (sz : Nat) (hC : sCQ G d r A mc g N T w) (hI : sInv N T K 0) (hKk : K ≤ 511) : vx_Met l yL_read wsL_read ({ frames := 8, cells := 2, slots := 12, locals := 133 }) (va_Pc [.ref (r 0), .int a1] (zHu G d w sz)) (va_Qi (fun (r1 : Int32) (w1 : va_W) => (sK2 (sIx a1 9) (decide (T 2 a1.toNatClampNeg = 0)) = 0 → r1 = nI (N 1) - T 1 a1.toNatClampNeg ∧ sCO G d r N ((nRead N T a1).2) w1) ∧ (¬ sK2 (sIx a1 9) (decide (T 2 a1.toNatClampNeg = 0)) = 0 → r1 = zCx [-7100, -7300] (sK2 (sIx a1 9) (decide (T 2 a1.toNatClampNeg = 0))) ∧ w1 = w)) (zB G (va_A w sz)) (va_A w sz)) (zXk [] 0) (2) (12) (va_A w sz) := by
  refine vx_ofWH (cc := cL_read) (maxL := 4) (ret := (some .int)) (hh := [(0, 6, 9, 14), (0, 6, 14, 18)]) (by decide) rfl ?_
  intro p e s m args below meth c s₁ B hml hv
  obtain ⟨rfl, ⟨hsz, hP, hK, hD0, hZ⟩, hX⟩ := hv
  have hx := B.exec
  have hb := B.bytes
  have hr := B.returns
  have hts := atoms_spec (ws := wsL_read) B.pre
  have hown : s.vm.findClass RL = some m.cls := findClass_of_methodNamed B.named
  have hlocks := B.notSynchronized
  have htab := vx_table (x := yL_read) B (hts _ (List.mem_of_getElem? (i := 0) rfl))
  subst hsz
  have hD := hD0.self (sz := s.heap.size)
  generalize hAe : va_A w s.heap.size = Aw at hD hZ ⊢
  have hA : ∀ q : Nat, s.heap.size ≤ q → Aw q := fun q h => by rw [← hAe]; exact Or.inr h
  have hS : va_S Aw s.heap s.heap [] := va_S.rf
  have hl := lv_entry ([.ref (r 0), .int a1]) (n := 4) (Nat.le_of_ble_eq_true rfl)
  rw [lg_entry_eq]
  generalize (lg_sl ([.ref (r 0), .int a1]) ++ List.replicate (4 - (lg_sl ([.ref (r 0), .int a1])).length) Slot.unset).toArray = ls at hl ⊢
  have hl : lv_has ls 4 [(0, .ref (r 0)), (1, .int a1)] := hl
  have hP : va_P G.1 vwCl (w ++ ([] : va_W)) s.heap := by rw [List.append_nil]; exact hP
  have hD : va_D Aw (w ++ ([] : va_W)) := by rw [List.append_nil]; exact hD
  refine lv_aload_n hx hb dL_read_0 rfl (lv_at hl 0 rfl) ?_
  refine lv_iload_n hx hb dL_read_1 rfl (lv_at hl 1 rfl) ?_
  refine z_xi (G := G) (w := w) (wr := ([] : va_W)) (vx_runV (As := [.int a1]) (rest := []) ⟨hx, hb, hml, hown, hts⟩ (c_X6_read l hst G d r A mc g N T w K a1 s.heap.size hC hI hKk) (cwV 1 hts gL_read_X6_read rfl rfl rfl (by decide +kernel) ⟨Nat.le_of_ble_eq_true rfl, Nat.le_of_ble_eq_true rfl⟩) (z_wv hK (z_apL hP) (ci := 7) (q0 := 0) rfl (hC.1.1 0 (by omega)) (z_apL hP) (z_dL hD) hZ hS hA) rfl rfl hl.1 rfl (lv_room (Nat.le_of_ble_eq_true rfl)) dL_read_2 ⟨Nat.le_of_eq (Nat.zero_add _), Nat.le_of_eq (Nat.zero_add _)⟩) hP hD hS hA (fun i E ce q9 Hz Lz hk hE hP hS hce hcv hcl => ?_) (fun rz w1 Hz Lz hq hP hD hS => ?_)
  · have hi : i < 2 := (List.getElem?_eq_some_iff.mp hE).1
    rw [List.append_nil] at hP hD
    rcases (show i = 0 ∨ i = 1 by omega) with rfl | rfl
    · skip
      have hE : E = "java/lang/IndexOutOfBoundsException" := (Option.some.inj hE).symm
      subst hE
      refine vx_catch (own := RL) (name := "java/lang/IndexOutOfBoundsException") hown [] ⟨0, 6, 9, 14⟩ [⟨0, 6, 14, 18⟩] htab (fun _ h => absurd h List.not_mem_nil) rfl (by decide) (hts (.classLink RL 14 "java/lang/IndexOutOfBoundsException") (List.mem_of_getElem? (i := 1) rfl)) (va_Nw.use (w := .castable "java/lang/IndexOutOfBoundsException" "java/lang/IndexOutOfBoundsException") rfl (hX.1 0 (by omega))) hce hcv hcl ?_
      refine lv_astore_n (lv' := [(3, .ref q9), (0, .ref (r 0)), (1, .int a1)]) hx hb dL_read_9 rfl hl (by decide) rfl (fun ls hl => ?_)
      refine lv_sipush (v := (-7100)) hx hb dL_read_10 (by decide) ?_
      exact vx_ret (z_widen (k := 2) (n := 12) (Nat.le_of_eq (Nat.zero_add _)) (Nat.le_of_eq (Nat.zero_add _)) (W.iret (v := (-7100)) hx hb hr (fun t ht hW => ⟨⟨(-7100), w, rfl, ⟨fun h => absurd (hk.symm.trans h) (by decide), fun _ => ⟨by rw [hk]; rfl, rfl⟩⟩, ⟨by rw [ht]; exact hP, hD⟩⟩, hS.F ht⟩) hS.2.2 dL_read_13 hlocks))
    · skip
      have hE : E = "java/lang/IllegalStateException" := (Option.some.inj hE).symm
      subst hE
      refine vx_catch (own := RL) (name := "java/lang/IllegalStateException") hown [⟨0, 6, 9, 14⟩] ⟨0, 6, 14, 18⟩ [] htab (List.forall_mem_cons.mpr ⟨Or.inr ⟨by decide, "java/lang/IndexOutOfBoundsException", hts (.classLink RL 14 "java/lang/IndexOutOfBoundsException") (List.mem_of_getElem? (i := 1) rfl), hX.2 2 0 (by omega) (by omega) (by decide)⟩, fun _ h => absurd h List.not_mem_nil⟩) rfl (by decide) (hts (.classLink RL 18 "java/lang/IllegalStateException") (List.mem_of_getElem? (i := 2) rfl)) (va_Nw.use (w := .castable "java/lang/IllegalStateException" "java/lang/IllegalStateException") rfl (hX.1 2 (by omega))) hce hcv hcl ?_
      refine lv_astore_n (lv' := [(3, .ref q9), (0, .ref (r 0)), (1, .int a1)]) hx hb dL_read_14 rfl hl (by decide) rfl (fun ls hl => ?_)
      refine lv_sipush (v := (-7300)) hx hb dL_read_15 (by decide) ?_
      exact vx_ret (z_widen (k := 2) (n := 12) (Nat.le_of_eq (Nat.zero_add _)) (Nat.le_of_eq (Nat.zero_add _)) (W.iret (v := (-7300)) hx hb hr (fun t ht hW => ⟨⟨(-7300), w, rfl, ⟨fun h => absurd (hk.symm.trans h) (by decide), fun _ => ⟨by rw [hk]; rfl, rfl⟩⟩, ⟨by rw [ht]; exact hP, hD⟩⟩, hS.F ht⟩) hS.2.2 dL_read_18 hlocks))
  · obtain ⟨hk0, hra, hco⟩ := hq
    rw [hra]
    rw [List.append_nil] at hP hD
    refine lv_istore_n (lv' := [(2, .int (nI (N 1) - T 1 a1.toNatClampNeg)), (0, .ref (r 0)), (1, .int a1)]) hx hb dL_read_5 rfl hl (by decide) rfl (fun ls hl => ?_)
    refine lv_goto (tgt := 19) hx hb dL_read_6 (by decide) ?_
    refine lv_iload_n hx hb dL_read_19 rfl (lv_at hl 0 rfl) ?_
    exact vx_ret (z_widen (k := 2) (n := 12) (Nat.le_of_eq (Nat.zero_add _)) (Nat.le_of_eq (Nat.zero_add _)) (W.iret (v := (nI (N 1) - T 1 a1.toNatClampNeg)) hx hb hr (fun t ht hW => ⟨⟨(nI (N 1) - T 1 a1.toNatClampNeg), w1, rfl, ⟨fun _ => ⟨rfl, hco⟩, fun h => absurd hk0 h⟩, ⟨by rw [ht]; exact hP, hD⟩⟩, hS.F ht⟩) hS.2.2 dL_read_20 hlocks))

set_option maxHeartbeats 4000000 in
set_option maxRecDepth 100000 in
theorem h_leave (l : Launch) (hst : l.stackTraces = false) (G : zG) (d : Nat) (r A : Nat → Nat) (mc : Nat → Int32) (g : Nat → Nat → Int32) (N : Nat → Nat) (T : Nat → Nat → Int32) (w : va_W) (K : Nat) (a1 : Int32) (sz : Nat) (hC : sCQ G d r A mc g N T w) (hI : sInv N T K 0) (hKk : K ≤ 511) : vx_Met l yL_leave wsL_leave ({ frames := 8, cells := (8 + zmc (sK2 (sIx a1 9) (decide (T 2 a1.toNatClampNeg = 0))) (N 1) (N 1 + 1)), slots := (200 + zms (sK2 (sIx a1 9) (decide (T 2 a1.toNatClampNeg = 0))) (N 1) (N 1 + 1)), locals := 135 }) (va_Pc [.ref (r 0), .int a1] (zHu G d w sz)) (va_Qi (fun (r1 : Int32) (w1 : va_W) => (sK2 (sIx a1 9) (decide (T 2 a1.toNatClampNeg = 0)) = 0 → r1 = rLeave N T a1 ∧ sCO G d r ((nLeave N T a1).1) ((nLeave N T a1).2) w1) ∧ (¬ sK2 (sIx a1 9) (decide (T 2 a1.toNatClampNeg = 0)) = 0 → r1 = zCx [-7100, -7300] (sK2 (sIx a1 9) (decide (T 2 a1.toNatClampNeg = 0))) ∧ w1 = w)) (zB G (va_A w sz)) (va_A w sz)) (zXk [] 0) ((8 + zmc (sK2 (sIx a1 9) (decide (T 2 a1.toNatClampNeg = 0))) (N 1) (N 1 + 1))) ((200 + zms (sK2 (sIx a1 9) (decide (T 2 a1.toNatClampNeg = 0))) (N 1) (N 1 + 1))) (va_A w sz) := by
  refine vx_ofWH (cc := cL_leave) (maxL := 4) (ret := (some .int)) (hh := [(0, 6, 9, 14), (0, 6, 14, 18)]) (by decide) rfl ?_
  intro p e s m args below meth c s₁ B hml hv
  obtain ⟨rfl, ⟨hsz, hP, hK, hD0, hZ⟩, hX⟩ := hv
  have hx := B.exec
  have hb := B.bytes
  have hr := B.returns
  have hts := atoms_spec (ws := wsL_leave) B.pre
  have hown : s.vm.findClass RL = some m.cls := findClass_of_methodNamed B.named
  have hlocks := B.notSynchronized
  have htab := vx_table (x := yL_leave) B (hts _ (List.mem_of_getElem? (i := 0) rfl))
  subst hsz
  have hD := hD0.self (sz := s.heap.size)
  generalize hAe : va_A w s.heap.size = Aw at hD hZ ⊢
  have hA : ∀ q : Nat, s.heap.size ≤ q → Aw q := fun q h => by rw [← hAe]; exact Or.inr h
  have hS : va_S Aw s.heap s.heap [] := va_S.rf
  have hl := lv_entry ([.ref (r 0), .int a1]) (n := 4) (Nat.le_of_ble_eq_true rfl)
  rw [lg_entry_eq]
  generalize (lg_sl ([.ref (r 0), .int a1]) ++ List.replicate (4 - (lg_sl ([.ref (r 0), .int a1])).length) Slot.unset).toArray = ls at hl ⊢
  have hl : lv_has ls 4 [(0, .ref (r 0)), (1, .int a1)] := hl
  have hP : va_P G.1 vwCl (w ++ ([] : va_W)) s.heap := by rw [List.append_nil]; exact hP
  have hD : va_D Aw (w ++ ([] : va_W)) := by rw [List.append_nil]; exact hD
  refine lv_aload_n hx hb dL_leave_0 rfl (lv_at hl 0 rfl) ?_
  refine lv_iload_n hx hb dL_leave_1 rfl (lv_at hl 1 rfl) ?_
  refine z_xi (G := G) (w := w) (wr := ([] : va_W)) (vx_runV (As := [.int a1]) (rest := []) ⟨hx, hb, hml, hown, hts⟩ (c_X6_leave l hst G d r A mc g N T w K a1 s.heap.size hC hI hKk) (cwV 1 hts gL_leave_X6_leave rfl rfl rfl (by decide +kernel) ⟨Nat.le_of_ble_eq_true rfl, Nat.le_of_ble_eq_true rfl⟩) (z_wv hK (z_apL hP) (ci := 7) (q0 := 0) rfl (hC.1.1 0 (by omega)) (z_apL hP) (z_dL hD) hZ hS hA) rfl rfl hl.1 rfl (lv_room (Nat.le_of_ble_eq_true rfl)) dL_leave_2 ⟨Nat.le_of_eq (Nat.zero_add _), Nat.le_of_eq (Nat.zero_add _)⟩) hP hD hS hA (fun i E ce q9 Hz Lz hk hE hP hS hce hcv hcl => ?_) (fun rz w1 Hz Lz hq hP hD hS => ?_)
  · have hi : i < 2 := (List.getElem?_eq_some_iff.mp hE).1
    rw [List.append_nil] at hP hD
    rcases (show i = 0 ∨ i = 1 by omega) with rfl | rfl
    · skip
      have hE : E = "java/lang/IndexOutOfBoundsException" := (Option.some.inj hE).symm
      subst hE
      refine vx_catch (own := RL) (name := "java/lang/IndexOutOfBoundsException") hown [] ⟨0, 6, 9, 14⟩ [⟨0, 6, 14, 18⟩] htab (fun _ h => absurd h List.not_mem_nil) rfl (by decide) (hts (.classLink RL 14 "java/lang/IndexOutOfBoundsException") (List.mem_of_getElem? (i := 1) rfl)) (va_Nw.use (w := .castable "java/lang/IndexOutOfBoundsException" "java/lang/IndexOutOfBoundsException") rfl (hX.1 0 (by omega))) hce hcv hcl ?_
      refine lv_astore_n (lv' := [(3, .ref q9), (0, .ref (r 0)), (1, .int a1)]) hx hb dL_leave_9 rfl hl (by decide) rfl (fun ls hl => ?_)
      refine lv_sipush (v := (-7100)) hx hb dL_leave_10 (by decide) ?_
      exact vx_ret (z_widen (k := (8 + zmc (sK2 (sIx a1 9) (decide (T 2 a1.toNatClampNeg = 0))) (N 1) (N 1 + 1))) (n := (200 + zms (sK2 (sIx a1 9) (decide (T 2 a1.toNatClampNeg = 0))) (N 1) (N 1 + 1))) (Nat.le_of_eq (Nat.zero_add _)) (Nat.le_of_eq (Nat.zero_add _)) (W.iret (v := (-7100)) hx hb hr (fun t ht hW => ⟨⟨(-7100), w, rfl, ⟨fun h => absurd (hk.symm.trans h) (by decide), fun _ => ⟨by rw [hk]; rfl, rfl⟩⟩, ⟨by rw [ht]; exact hP, hD⟩⟩, hS.F ht⟩) hS.2.2 dL_leave_13 hlocks))
    · skip
      have hE : E = "java/lang/IllegalStateException" := (Option.some.inj hE).symm
      subst hE
      refine vx_catch (own := RL) (name := "java/lang/IllegalStateException") hown [⟨0, 6, 9, 14⟩] ⟨0, 6, 14, 18⟩ [] htab (List.forall_mem_cons.mpr ⟨Or.inr ⟨by decide, "java/lang/IndexOutOfBoundsException", hts (.classLink RL 14 "java/lang/IndexOutOfBoundsException") (List.mem_of_getElem? (i := 1) rfl), hX.2 2 0 (by omega) (by omega) (by decide)⟩, fun _ h => absurd h List.not_mem_nil⟩) rfl (by decide) (hts (.classLink RL 18 "java/lang/IllegalStateException") (List.mem_of_getElem? (i := 2) rfl)) (va_Nw.use (w := .castable "java/lang/IllegalStateException" "java/lang/IllegalStateException") rfl (hX.1 2 (by omega))) hce hcv hcl ?_
      refine lv_astore_n (lv' := [(3, .ref q9), (0, .ref (r 0)), (1, .int a1)]) hx hb dL_leave_14 rfl hl (by decide) rfl (fun ls hl => ?_)
      refine lv_sipush (v := (-7300)) hx hb dL_leave_15 (by decide) ?_
      exact vx_ret (z_widen (k := (8 + zmc (sK2 (sIx a1 9) (decide (T 2 a1.toNatClampNeg = 0))) (N 1) (N 1 + 1))) (n := (200 + zms (sK2 (sIx a1 9) (decide (T 2 a1.toNatClampNeg = 0))) (N 1) (N 1 + 1))) (Nat.le_of_eq (Nat.zero_add _)) (Nat.le_of_eq (Nat.zero_add _)) (W.iret (v := (-7300)) hx hb hr (fun t ht hW => ⟨⟨(-7300), w, rfl, ⟨fun h => absurd (hk.symm.trans h) (by decide), fun _ => ⟨by rw [hk]; rfl, rfl⟩⟩, ⟨by rw [ht]; exact hP, hD⟩⟩, hS.F ht⟩) hS.2.2 dL_leave_18 hlocks))
  · obtain ⟨hk0, hra, hco⟩ := hq
    rw [hra]
    rw [List.append_nil] at hP hD
    refine lv_istore_n (lv' := [(2, .int (rLeave N T a1)), (0, .ref (r 0)), (1, .int a1)]) hx hb dL_leave_5 rfl hl (by decide) rfl (fun ls hl => ?_)
    refine lv_goto (tgt := 19) hx hb dL_leave_6 (by decide) ?_
    refine lv_iload_n hx hb dL_leave_19 rfl (lv_at hl 0 rfl) ?_
    exact vx_ret (z_widen (k := (8 + zmc (sK2 (sIx a1 9) (decide (T 2 a1.toNatClampNeg = 0))) (N 1) (N 1 + 1))) (n := (200 + zms (sK2 (sIx a1 9) (decide (T 2 a1.toNatClampNeg = 0))) (N 1) (N 1 + 1))) (Nat.le_of_eq (Nat.zero_add _)) (Nat.le_of_eq (Nat.zero_add _)) (W.iret (v := (rLeave N T a1)) hx hb hr (fun t ht hW => ⟨⟨(rLeave N T a1), w1, rfl, ⟨fun _ => ⟨rfl, hco⟩, fun h => absurd hk0 h⟩, ⟨by rw [ht]; exact hP, hD⟩⟩, hS.F ht⟩) hS.2.2 dL_leave_20 hlocks))

set_option maxHeartbeats 4000000 in
set_option maxRecDepth 100000 in
theorem h_canAct (l : Launch) (hst : l.stackTraces = false) (G : zG) (d : Nat) (r A : Nat → Nat) (mc : Nat → Int32) (g : Nat → Nat → Int32) (N : Nat → Nat) (T : Nat → Nat → Int32) (w : va_W) (K : Nat) (a1 : Int32) (sz : Nat) (hC : sCQ G d r A mc g N T w) (hI : sInv N T K 0) (hKk : K ≤ 511) : vx_Met l yL_canAct wsL_canAct ({ frames := 8, cells := 2, slots := 12, locals := 131 }) (va_Pc [.ref (r 0), .int a1] (zHu G d w sz)) (va_Qi (fun (r1 : Int32) (w1 : va_W) => (sK1 (sIx a1 9) = 0 → r1 = zb (sMay N T a1) ∧ sCO G d r N T w1) ∧ (¬ sK1 (sIx a1 9) = 0 → r1 = zCx [-7100] (sK1 (sIx a1 9)) ∧ w1 = w)) (zB G (va_A w sz)) (va_A w sz)) (zXk [] 0) (2) (12) (va_A w sz) := by
  refine vx_ofWH (cc := cL_canAct) (maxL := 4) (ret := (some .int)) (hh := [(0, 6, 9, 14)]) (by decide) rfl ?_
  intro p e s m args below meth c s₁ B hml hv
  obtain ⟨rfl, ⟨hsz, hP, hK, hD0, hZ⟩, hX⟩ := hv
  have hx := B.exec
  have hb := B.bytes
  have hr := B.returns
  have hts := atoms_spec (ws := wsL_canAct) B.pre
  have hown : s.vm.findClass RL = some m.cls := findClass_of_methodNamed B.named
  have hlocks := B.notSynchronized
  have htab := vx_table (x := yL_canAct) B (hts _ (List.mem_of_getElem? (i := 0) rfl))
  subst hsz
  have hD := hD0.self (sz := s.heap.size)
  generalize hAe : va_A w s.heap.size = Aw at hD hZ ⊢
  have hA : ∀ q : Nat, s.heap.size ≤ q → Aw q := fun q h => by rw [← hAe]; exact Or.inr h
  have hS : va_S Aw s.heap s.heap [] := va_S.rf
  have hl := lv_entry ([.ref (r 0), .int a1]) (n := 4) (Nat.le_of_ble_eq_true rfl)
  rw [lg_entry_eq]
  generalize (lg_sl ([.ref (r 0), .int a1]) ++ List.replicate (4 - (lg_sl ([.ref (r 0), .int a1])).length) Slot.unset).toArray = ls at hl ⊢
  have hl : lv_has ls 4 [(0, .ref (r 0)), (1, .int a1)] := hl
  have hP : va_P G.1 vwCl (w ++ ([] : va_W)) s.heap := by rw [List.append_nil]; exact hP
  have hD : va_D Aw (w ++ ([] : va_W)) := by rw [List.append_nil]; exact hD
  refine lv_aload_n hx hb dL_canAct_0 rfl (lv_at hl 0 rfl) ?_
  refine lv_iload_n hx hb dL_canAct_1 rfl (lv_at hl 1 rfl) ?_
  refine z_xi (G := G) (w := w) (wr := ([] : va_W)) (vx_runV (As := [.int a1]) (rest := []) ⟨hx, hb, hml, hown, hts⟩ (c_X6_canAct l hst G d r A mc g N T w K a1 s.heap.size hC hI hKk) (cwV 1 hts gL_canAct_X6_canAct rfl rfl rfl (by decide +kernel) ⟨Nat.le_of_ble_eq_true rfl, Nat.le_of_ble_eq_true rfl⟩) (z_wv hK (z_apL hP) (ci := 7) (q0 := 0) rfl (hC.1.1 0 (by omega)) (z_apL hP) (z_dL hD) hZ hS hA) rfl rfl hl.1 rfl (lv_room (Nat.le_of_ble_eq_true rfl)) dL_canAct_2 ⟨Nat.le_of_eq (Nat.zero_add _), Nat.le_of_eq (Nat.zero_add _)⟩) hP hD hS hA (fun i E ce q9 Hz Lz hk hE hP hS hce hcv hcl => ?_) (fun rz w1 Hz Lz hq hP hD hS => ?_)
  · have hi : i < 1 := (List.getElem?_eq_some_iff.mp hE).1
    rw [List.append_nil] at hP hD
    obtain rfl : i = 0 := by omega
    have hE : E = "java/lang/IndexOutOfBoundsException" := (Option.some.inj hE).symm
    subst hE
    refine vx_catch (own := RL) (name := "java/lang/IndexOutOfBoundsException") hown [] ⟨0, 6, 9, 14⟩ [] htab (fun _ h => absurd h List.not_mem_nil) rfl (by decide) (hts (.classLink RL 14 "java/lang/IndexOutOfBoundsException") (List.mem_of_getElem? (i := 1) rfl)) (va_Nw.use (w := .castable "java/lang/IndexOutOfBoundsException" "java/lang/IndexOutOfBoundsException") rfl (hX.1 0 (by omega))) hce hcv hcl ?_
    refine lv_astore_n (lv' := [(3, .ref q9), (0, .ref (r 0)), (1, .int a1)]) hx hb dL_canAct_9 rfl hl (by decide) rfl (fun ls hl => ?_)
    refine lv_sipush (v := (-7100)) hx hb dL_canAct_10 (by decide) ?_
    exact vx_ret (z_widen (k := 2) (n := 12) (Nat.le_of_eq (Nat.zero_add _)) (Nat.le_of_eq (Nat.zero_add _)) (W.iret (v := (-7100)) hx hb hr (fun t ht hW => ⟨⟨(-7100), w, rfl, ⟨fun h => absurd (hk.symm.trans h) (by decide), fun _ => ⟨by rw [hk]; rfl, rfl⟩⟩, ⟨by rw [ht]; exact hP, hD⟩⟩, hS.F ht⟩) hS.2.2 dL_canAct_13 hlocks))
  · obtain ⟨hk0, hra, hco⟩ := hq
    rw [hra]
    rw [List.append_nil] at hP hD
    refine lv_istore_n (lv' := [(2, .int (zb (sMay N T a1))), (0, .ref (r 0)), (1, .int a1)]) hx hb dL_canAct_5 rfl hl (by decide) rfl (fun ls hl => ?_)
    refine lv_goto (tgt := 14) hx hb dL_canAct_6 (by decide) ?_
    refine lv_iload_n hx hb dL_canAct_14 rfl (lv_at hl 0 rfl) ?_
    refine lv_if_eq (tgt := 22) hx hb dL_canAct_15 (by decide) (fun zc => ?_) (fun zc => ?_)
    · refine lv_iconst (v := 0) hx hb dL_canAct_22 (by decide) ?_
      exact vx_ret (z_widen (k := 2) (n := 12) (Nat.le_of_eq (Nat.zero_add _)) (Nat.le_of_eq (Nat.zero_add _)) (W.iret (v := 0) hx hb hr (fun t ht hW => ⟨⟨0, w1, rfl, ⟨fun _ => ⟨zc.symm, hco⟩, fun h => absurd hk0 h⟩, ⟨by rw [ht]; exact hP, hD⟩⟩, hS.F ht⟩) hS.2.2 dL_canAct_23 hlocks))
    · refine lv_iconst (v := 1) hx hb dL_canAct_18 (by decide) ?_
      refine lv_goto (tgt := 23) hx hb dL_canAct_19 (by decide) ?_
      exact vx_ret (z_widen (k := 2) (n := 12) (Nat.le_of_eq (Nat.zero_add _)) (Nat.le_of_eq (Nat.zero_add _)) (W.iret (v := 1) hx hb hr (fun t ht hW => ⟨⟨1, w1, rfl, ⟨fun _ => ⟨(by rw [zb_n0 zc]; rfl), hco⟩, fun h => absurd hk0 h⟩, ⟨by rw [ht]; exact hP, hD⟩⟩, hS.F ht⟩) hS.2.2 dL_canAct_23 hlocks))

set_option maxHeartbeats 4000000 in
set_option maxRecDepth 100000 in
theorem h_advance (l : Launch) (hst : l.stackTraces = false) (G : zG) (d : Nat) (r A : Nat → Nat) (mc : Nat → Int32) (g : Nat → Nat → Int32) (N : Nat → Nat) (T : Nat → Nat → Int32) (w : va_W) (K : Nat) (a1 : Int32) (sz : Nat) (hC : sCQ G d r A mc g N T w) (hI : sInv N T K 0) (hKk : K ≤ 511) : vx_Met l yL_advance wsL_advance ({ frames := 8, cells := (8 + zmc (sK2 (sIn a1 1 100) (decide (nI (N 0) + a1 ≤ 2000))) (N 1) ((sHours a1.toNatClampNeg N T).1 1)), slots := (200 + zms (sK2 (sIn a1 1 100) (decide (nI (N 0) + a1 ≤ 2000))) (N 1) ((sHours a1.toNatClampNeg N T).1 1)), locals := 199 }) (va_Pc [.ref (r 0), .int a1] (zHu G d w sz)) (va_Qi (fun (r1 : Int32) (w1 : va_W) => (sK2 (sIn a1 1 100) (decide (nI (N 0) + a1 ≤ 2000)) = 0 → r1 = nI ((sHours a1.toNatClampNeg N T).1 0) ∧ sCO G d r ((sHours a1.toNatClampNeg N T).1) ((sHours a1.toNatClampNeg N T).2) w1) ∧ (¬ sK2 (sIn a1 1 100) (decide (nI (N 0) + a1 ≤ 2000)) = 0 → r1 = zCx [-7200, -7300] (sK2 (sIn a1 1 100) (decide (nI (N 0) + a1 ≤ 2000))) ∧ w1 = w)) (zB G (va_A w sz)) (va_A w sz)) (zXk [] 0) ((8 + zmc (sK2 (sIn a1 1 100) (decide (nI (N 0) + a1 ≤ 2000))) (N 1) ((sHours a1.toNatClampNeg N T).1 1))) ((200 + zms (sK2 (sIn a1 1 100) (decide (nI (N 0) + a1 ≤ 2000))) (N 1) ((sHours a1.toNatClampNeg N T).1 1))) (va_A w sz) := by
  refine vx_ofWH (cc := cL_advance) (maxL := 4) (ret := (some .int)) (hh := [(0, 6, 9, 16), (0, 6, 14, 18)]) (by decide) rfl ?_
  intro p e s m args below meth c s₁ B hml hv
  obtain ⟨rfl, ⟨hsz, hP, hK, hD0, hZ⟩, hX⟩ := hv
  have hx := B.exec
  have hb := B.bytes
  have hr := B.returns
  have hts := atoms_spec (ws := wsL_advance) B.pre
  have hown : s.vm.findClass RL = some m.cls := findClass_of_methodNamed B.named
  have hlocks := B.notSynchronized
  have htab := vx_table (x := yL_advance) B (hts _ (List.mem_of_getElem? (i := 0) rfl))
  subst hsz
  have hD := hD0.self (sz := s.heap.size)
  generalize hAe : va_A w s.heap.size = Aw at hD hZ ⊢
  have hA : ∀ q : Nat, s.heap.size ≤ q → Aw q := fun q h => by rw [← hAe]; exact Or.inr h
  have hS : va_S Aw s.heap s.heap [] := va_S.rf
  have hl := lv_entry ([.ref (r 0), .int a1]) (n := 4) (Nat.le_of_ble_eq_true rfl)
  rw [lg_entry_eq]
  generalize (lg_sl ([.ref (r 0), .int a1]) ++ List.replicate (4 - (lg_sl ([.ref (r 0), .int a1])).length) Slot.unset).toArray = ls at hl ⊢
  have hl : lv_has ls 4 [(0, .ref (r 0)), (1, .int a1)] := hl
  have hP : va_P G.1 vwCl (w ++ ([] : va_W)) s.heap := by rw [List.append_nil]; exact hP
  have hD : va_D Aw (w ++ ([] : va_W)) := by rw [List.append_nil]; exact hD
  refine lv_aload_n hx hb dL_advance_0 rfl (lv_at hl 0 rfl) ?_
  refine lv_iload_n hx hb dL_advance_1 rfl (lv_at hl 1 rfl) ?_
  refine z_xi (G := G) (w := w) (wr := ([] : va_W)) (vx_runV (As := [.int a1]) (rest := []) ⟨hx, hb, hml, hown, hts⟩ (c_X6_advance l hst G d r A mc g N T w K a1 s.heap.size hC hI hKk) (cwV 1 hts gL_advance_X6_advance rfl rfl rfl (by decide +kernel) ⟨Nat.le_of_ble_eq_true rfl, Nat.le_of_ble_eq_true rfl⟩) (z_wv hK (z_apL hP) (ci := 7) (q0 := 0) rfl (hC.1.1 0 (by omega)) (z_apL hP) (z_dL hD) hZ hS hA) rfl rfl hl.1 rfl (lv_room (Nat.le_of_ble_eq_true rfl)) dL_advance_2 ⟨Nat.le_of_eq (Nat.zero_add _), Nat.le_of_eq (Nat.zero_add _)⟩) hP hD hS hA (fun i E ce q9 Hz Lz hk hE hP hS hce hcv hcl => ?_) (fun rz w1 Hz Lz hq hP hD hS => ?_)
  · have hi : i < 2 := (List.getElem?_eq_some_iff.mp hE).1
    rw [List.append_nil] at hP hD
    rcases (show i = 0 ∨ i = 1 by omega) with rfl | rfl
    · skip
      have hE : E = "java/lang/IllegalArgumentException" := (Option.some.inj hE).symm
      subst hE
      refine vx_catch (own := RL) (name := "java/lang/IllegalArgumentException") hown [] ⟨0, 6, 9, 16⟩ [⟨0, 6, 14, 18⟩] htab (fun _ h => absurd h List.not_mem_nil) rfl (by decide) (hts (.classLink RL 16 "java/lang/IllegalArgumentException") (List.mem_of_getElem? (i := 1) rfl)) (va_Nw.use (w := .castable "java/lang/IllegalArgumentException" "java/lang/IllegalArgumentException") rfl (hX.1 1 (by omega))) hce hcv hcl ?_
      refine lv_astore_n (lv' := [(3, .ref q9), (0, .ref (r 0)), (1, .int a1)]) hx hb dL_advance_9 rfl hl (by decide) rfl (fun ls hl => ?_)
      refine lv_sipush (v := (-7200)) hx hb dL_advance_10 (by decide) ?_
      exact vx_ret (z_widen (k := (8 + zmc (sK2 (sIn a1 1 100) (decide (nI (N 0) + a1 ≤ 2000))) (N 1) ((sHours a1.toNatClampNeg N T).1 1))) (n := (200 + zms (sK2 (sIn a1 1 100) (decide (nI (N 0) + a1 ≤ 2000))) (N 1) ((sHours a1.toNatClampNeg N T).1 1))) (Nat.le_of_eq (Nat.zero_add _)) (Nat.le_of_eq (Nat.zero_add _)) (W.iret (v := (-7200)) hx hb hr (fun t ht hW => ⟨⟨(-7200), w, rfl, ⟨fun h => absurd (hk.symm.trans h) (by decide), fun _ => ⟨by rw [hk]; rfl, rfl⟩⟩, ⟨by rw [ht]; exact hP, hD⟩⟩, hS.F ht⟩) hS.2.2 dL_advance_13 hlocks))
    · skip
      have hE : E = "java/lang/IllegalStateException" := (Option.some.inj hE).symm
      subst hE
      refine vx_catch (own := RL) (name := "java/lang/IllegalStateException") hown [⟨0, 6, 9, 16⟩] ⟨0, 6, 14, 18⟩ [] htab (List.forall_mem_cons.mpr ⟨Or.inr ⟨by decide, "java/lang/IllegalArgumentException", hts (.classLink RL 16 "java/lang/IllegalArgumentException") (List.mem_of_getElem? (i := 1) rfl), hX.2 2 1 (by omega) (by omega) (by decide)⟩, fun _ h => absurd h List.not_mem_nil⟩) rfl (by decide) (hts (.classLink RL 18 "java/lang/IllegalStateException") (List.mem_of_getElem? (i := 2) rfl)) (va_Nw.use (w := .castable "java/lang/IllegalStateException" "java/lang/IllegalStateException") rfl (hX.1 2 (by omega))) hce hcv hcl ?_
      refine lv_astore_n (lv' := [(3, .ref q9), (0, .ref (r 0)), (1, .int a1)]) hx hb dL_advance_14 rfl hl (by decide) rfl (fun ls hl => ?_)
      refine lv_sipush (v := (-7300)) hx hb dL_advance_15 (by decide) ?_
      exact vx_ret (z_widen (k := (8 + zmc (sK2 (sIn a1 1 100) (decide (nI (N 0) + a1 ≤ 2000))) (N 1) ((sHours a1.toNatClampNeg N T).1 1))) (n := (200 + zms (sK2 (sIn a1 1 100) (decide (nI (N 0) + a1 ≤ 2000))) (N 1) ((sHours a1.toNatClampNeg N T).1 1))) (Nat.le_of_eq (Nat.zero_add _)) (Nat.le_of_eq (Nat.zero_add _)) (W.iret (v := (-7300)) hx hb hr (fun t ht hW => ⟨⟨(-7300), w, rfl, ⟨fun h => absurd (hk.symm.trans h) (by decide), fun _ => ⟨by rw [hk]; rfl, rfl⟩⟩, ⟨by rw [ht]; exact hP, hD⟩⟩, hS.F ht⟩) hS.2.2 dL_advance_18 hlocks))
  · obtain ⟨hk0, hra, hco⟩ := hq
    rw [hra]
    rw [List.append_nil] at hP hD
    refine lv_istore_n (lv' := [(2, .int (nI ((sHours a1.toNatClampNeg N T).1 0))), (0, .ref (r 0)), (1, .int a1)]) hx hb dL_advance_5 rfl hl (by decide) rfl (fun ls hl => ?_)
    refine lv_goto (tgt := 19) hx hb dL_advance_6 (by decide) ?_
    refine lv_iload_n hx hb dL_advance_19 rfl (lv_at hl 0 rfl) ?_
    exact vx_ret (z_widen (k := (8 + zmc (sK2 (sIn a1 1 100) (decide (nI (N 0) + a1 ≤ 2000))) (N 1) ((sHours a1.toNatClampNeg N T).1 1))) (n := (200 + zms (sK2 (sIn a1 1 100) (decide (nI (N 0) + a1 ≤ 2000))) (N 1) ((sHours a1.toNatClampNeg N T).1 1))) (Nat.le_of_eq (Nat.zero_add _)) (Nat.le_of_eq (Nat.zero_add _)) (W.iret (v := (nI ((sHours a1.toNatClampNeg N T).1 0))) hx hb hr (fun t ht hW => ⟨⟨(nI ((sHours a1.toNatClampNeg N T).1 0)), w1, rfl, ⟨fun _ => ⟨rfl, hco⟩, fun h => absurd hk0 h⟩, ⟨by rw [ht]; exact hP, hD⟩⟩, hS.F ht⟩) hS.2.2 dL_advance_20 hlocks))

set_option maxHeartbeats 4000000 in
set_option maxRecDepth 100000 in
theorem h_entryAt (l : Launch) (hst : l.stackTraces = false) (G : zG) (d : Nat) (r A : Nat → Nat) (mc : Nat → Int32) (g : Nat → Nat → Int32) (N : Nat → Nat) (T : Nat → Nat → Int32) (w : va_W) (K : Nat) (a1 : Int32) (sz : Nat) (hC : sCQ G d r A mc g N T w) (hI : sInv N T K 0) (hKk : K ≤ 511) : vx_Met l yL_entryAt wsL_entryAt ({ frames := 7, cells := 2, slots := 12, locals := 111 }) (va_Pc [.ref (r 0), .int a1] (zHu G d w sz)) (va_Qi (fun (r1 : Int32) (w1 : va_W) => (sK1 (sIx a1 (N 1)) = 0 → r1 = T 0 a1.toNatClampNeg ∧ sCO G d r N T w1) ∧ (¬ sK1 (sIx a1 (N 1)) = 0 → r1 = zCx [-7100] (sK1 (sIx a1 (N 1))) ∧ w1 = w)) (zB G (va_A w sz)) (va_A w sz)) (zXk [] 0) (2) (12) (va_A w sz) := by
  refine vx_ofWH (cc := cL_entryAt) (maxL := 4) (ret := (some .int)) (hh := [(0, 6, 9, 14)]) (by decide) rfl ?_
  intro p e s m args below meth c s₁ B hml hv
  obtain ⟨rfl, ⟨hsz, hP, hK, hD0, hZ⟩, hX⟩ := hv
  have hx := B.exec
  have hb := B.bytes
  have hr := B.returns
  have hts := atoms_spec (ws := wsL_entryAt) B.pre
  have hown : s.vm.findClass RL = some m.cls := findClass_of_methodNamed B.named
  have hlocks := B.notSynchronized
  have htab := vx_table (x := yL_entryAt) B (hts _ (List.mem_of_getElem? (i := 0) rfl))
  subst hsz
  have hD := hD0.self (sz := s.heap.size)
  generalize hAe : va_A w s.heap.size = Aw at hD hZ ⊢
  have hA : ∀ q : Nat, s.heap.size ≤ q → Aw q := fun q h => by rw [← hAe]; exact Or.inr h
  have hS : va_S Aw s.heap s.heap [] := va_S.rf
  have hl := lv_entry ([.ref (r 0), .int a1]) (n := 4) (Nat.le_of_ble_eq_true rfl)
  rw [lg_entry_eq]
  generalize (lg_sl ([.ref (r 0), .int a1]) ++ List.replicate (4 - (lg_sl ([.ref (r 0), .int a1])).length) Slot.unset).toArray = ls at hl ⊢
  have hl : lv_has ls 4 [(0, .ref (r 0)), (1, .int a1)] := hl
  have hP : va_P G.1 vwCl (w ++ ([] : va_W)) s.heap := by rw [List.append_nil]; exact hP
  have hD : va_D Aw (w ++ ([] : va_W)) := by rw [List.append_nil]; exact hD
  refine lv_aload_n hx hb dL_entryAt_0 rfl (lv_at hl 0 rfl) ?_
  refine lv_iload_n hx hb dL_entryAt_1 rfl (lv_at hl 1 rfl) ?_
  refine z_xi (G := G) (w := w) (wr := ([] : va_W)) (vx_runV (As := [.int a1]) (rest := []) ⟨hx, hb, hml, hown, hts⟩ (c_X6_entryAt l hst G d r A mc g N T w K a1 s.heap.size hC hI hKk) (cwV 1 hts gL_entryAt_X6_entryAt rfl rfl rfl (by decide +kernel) ⟨Nat.le_of_ble_eq_true rfl, Nat.le_of_ble_eq_true rfl⟩) (z_wv hK (z_apL hP) (ci := 7) (q0 := 0) rfl (hC.1.1 0 (by omega)) (z_apL hP) (z_dL hD) hZ hS hA) rfl rfl hl.1 rfl (lv_room (Nat.le_of_ble_eq_true rfl)) dL_entryAt_2 ⟨Nat.le_of_eq (Nat.zero_add _), Nat.le_of_eq (Nat.zero_add _)⟩) hP hD hS hA (fun i E ce q9 Hz Lz hk hE hP hS hce hcv hcl => ?_) (fun rz w1 Hz Lz hq hP hD hS => ?_)
  · have hi : i < 1 := (List.getElem?_eq_some_iff.mp hE).1
    rw [List.append_nil] at hP hD
    obtain rfl : i = 0 := by omega
    have hE : E = "java/lang/IndexOutOfBoundsException" := (Option.some.inj hE).symm
    subst hE
    refine vx_catch (own := RL) (name := "java/lang/IndexOutOfBoundsException") hown [] ⟨0, 6, 9, 14⟩ [] htab (fun _ h => absurd h List.not_mem_nil) rfl (by decide) (hts (.classLink RL 14 "java/lang/IndexOutOfBoundsException") (List.mem_of_getElem? (i := 1) rfl)) (va_Nw.use (w := .castable "java/lang/IndexOutOfBoundsException" "java/lang/IndexOutOfBoundsException") rfl (hX.1 0 (by omega))) hce hcv hcl ?_
    refine lv_astore_n (lv' := [(3, .ref q9), (0, .ref (r 0)), (1, .int a1)]) hx hb dL_entryAt_9 rfl hl (by decide) rfl (fun ls hl => ?_)
    refine lv_sipush (v := (-7100)) hx hb dL_entryAt_10 (by decide) ?_
    exact vx_ret (z_widen (k := 2) (n := 12) (Nat.le_of_eq (Nat.zero_add _)) (Nat.le_of_eq (Nat.zero_add _)) (W.iret (v := (-7100)) hx hb hr (fun t ht hW => ⟨⟨(-7100), w, rfl, ⟨fun h => absurd (hk.symm.trans h) (by decide), fun _ => ⟨by rw [hk]; rfl, rfl⟩⟩, ⟨by rw [ht]; exact hP, hD⟩⟩, hS.F ht⟩) hS.2.2 dL_entryAt_13 hlocks))
  · obtain ⟨hk0, hra, hco⟩ := hq
    rw [hra]
    rw [List.append_nil] at hP hD
    refine lv_istore_n (lv' := [(2, .int (T 0 a1.toNatClampNeg)), (0, .ref (r 0)), (1, .int a1)]) hx hb dL_entryAt_5 rfl hl (by decide) rfl (fun ls hl => ?_)
    refine lv_goto (tgt := 14) hx hb dL_entryAt_6 (by decide) ?_
    refine lv_iload_n hx hb dL_entryAt_14 rfl (lv_at hl 0 rfl) ?_
    exact vx_ret (z_widen (k := 2) (n := 12) (Nat.le_of_eq (Nat.zero_add _)) (Nat.le_of_eq (Nat.zero_add _)) (W.iret (v := (T 0 a1.toNatClampNeg)) hx hb hr (fun t ht hW => ⟨⟨(T 0 a1.toNatClampNeg), w1, rfl, ⟨fun _ => ⟨rfl, hco⟩, fun h => absurd hk0 h⟩, ⟨by rw [ht]; exact hP, hD⟩⟩, hS.F ht⟩) hS.2.2 dL_entryAt_15 hlocks))

set_option maxHeartbeats 4000000 in
set_option maxRecDepth 100000 in
theorem h_alarm (l : Launch) (hst : l.stackTraces = false) (G : zG) (d : Nat) (r A : Nat → Nat) (mc : Nat → Int32) (g : Nat → Nat → Int32) (N : Nat → Nat) (T : Nat → Nat → Int32) (w : va_W) (K : Nat) (a1 a2 : Int32) (b3 : Bool) (a4 : Int32) (b5 : Bool) (sz : Nat) (hC : sCQ G d r A mc g N T w) (hI : sInv N T K 0) (hKk : K ≤ 511) : vx_Met l yL_alarm wsL_alarm ({ frames := 8, cells := 8, slots := 200, locals := 196 }) (va_Pc [.ref (r 0), .int a1, .int a2, .int (zb b3), .int a4, .int (zb b5)] (zHu G d w sz)) (va_Qi (fun (r1 : Int32) (w1 : va_W) => (sK3 ((sIx a1 3) && (sIx a4 8)) (sIn a2 0 1000) (!decide (N 3 = 10)) = 0 → r1 = nI (N 3) ∧ sCO G d r ((nAlarm N T a1 a2 b3 a4 b5).1) ((nAlarm N T a1 a2 b3 a4 b5).2) w1) ∧ (¬ sK3 ((sIx a1 3) && (sIx a4 8)) (sIn a2 0 1000) (!decide (N 3 = 10)) = 0 → r1 = zCx [-7100, -7200, -7300] (sK3 ((sIx a1 3) && (sIx a4 8)) (sIn a2 0 1000) (!decide (N 3 = 10))) ∧ w1 = w)) (zB G (va_A w sz)) (va_A w sz)) (zXk [] 0) (8) (200) (va_A w sz) := by
  refine vx_ofWH (cc := cL_alarm) (maxL := 8) (ret := (some .int)) (hh := [(0, 13, 16, 14), (0, 13, 22, 16), (0, 13, 28, 18)]) (by decide) rfl ?_
  intro p e s m args below meth c s₁ B hml hv
  obtain ⟨rfl, ⟨hsz, hP, hK, hD0, hZ⟩, hX⟩ := hv
  have hx := B.exec
  have hb := B.bytes
  have hr := B.returns
  have hts := atoms_spec (ws := wsL_alarm) B.pre
  have hown : s.vm.findClass RL = some m.cls := findClass_of_methodNamed B.named
  have hlocks := B.notSynchronized
  have htab := vx_table (x := yL_alarm) B (hts _ (List.mem_of_getElem? (i := 0) rfl))
  subst hsz
  have hD := hD0.self (sz := s.heap.size)
  generalize hAe : va_A w s.heap.size = Aw at hD hZ ⊢
  have hA : ∀ q : Nat, s.heap.size ≤ q → Aw q := fun q h => by rw [← hAe]; exact Or.inr h
  have hS : va_S Aw s.heap s.heap [] := va_S.rf
  have hl := lv_entry ([.ref (r 0), .int a1, .int a2, .int (zb b3), .int a4, .int (zb b5)]) (n := 8) (Nat.le_of_ble_eq_true rfl)
  rw [lg_entry_eq]
  generalize (lg_sl ([.ref (r 0), .int a1, .int a2, .int (zb b3), .int a4, .int (zb b5)]) ++ List.replicate (8 - (lg_sl ([.ref (r 0), .int a1, .int a2, .int (zb b3), .int a4, .int (zb b5)])).length) Slot.unset).toArray = ls at hl ⊢
  have hl : lv_has ls 8 [(0, .ref (r 0)), (1, .int a1), (2, .int a2), (3, .int (zb b3)), (4, .int a4), (5, .int (zb b5))] := hl
  have hP : va_P G.1 vwCl (w ++ ([] : va_W)) s.heap := by rw [List.append_nil]; exact hP
  have hD : va_D Aw (w ++ ([] : va_W)) := by rw [List.append_nil]; exact hD
  refine lv_aload_n hx hb dL_alarm_0 rfl (lv_at hl 0 rfl) ?_
  refine lv_iload_n hx hb dL_alarm_1 rfl (lv_at hl 1 rfl) ?_
  refine lv_iload_n hx hb dL_alarm_2 rfl (lv_at hl 2 rfl) ?_
  refine lv_iload_n hx hb dL_alarm_3 rfl (lv_at hl 3 rfl) ?_
  refine lv_iload hx hb dL_alarm_4 (lv_at hl 4 rfl) ?_
  refine lv_iload hx hb dL_alarm_6 (lv_at hl 5 rfl) ?_
  refine z_xi (G := G) (w := w) (wr := ([] : va_W)) (vx_runV (As := [.int a1, .int a2, .int (zb b3), .int a4, .int (zb b5)]) (rest := []) ⟨hx, hb, hml, hown, hts⟩ (c_X6_alarm l hst G d r A mc g N T w K a1 a2 b3 a4 b5 s.heap.size hC hI hKk) (cwV 5 hts gL_alarm_X6_alarm rfl rfl rfl (by decide +kernel) ⟨Nat.le_of_ble_eq_true rfl, Nat.le_of_ble_eq_true rfl⟩) (z_wv hK (z_apL hP) (ci := 7) (q0 := 0) rfl (hC.1.1 0 (by omega)) (z_apL hP) (z_dL hD) hZ hS hA) rfl rfl hl.1 rfl (lv_room (Nat.le_of_ble_eq_true rfl)) dL_alarm_8 ⟨Nat.le_of_eq (Nat.zero_add _), Nat.le_of_eq (Nat.zero_add _)⟩) hP hD hS hA (fun i E ce q9 Hz Lz hk hE hP hS hce hcv hcl => ?_) (fun rz w1 Hz Lz hq hP hD hS => ?_)
  · have hi : i < 3 := (List.getElem?_eq_some_iff.mp hE).1
    rw [List.append_nil] at hP hD
    rcases (show i = 0 ∨ i = 1 ∨ i = 2 by omega) with rfl | rfl | rfl
    · skip
      have hE : E = "java/lang/IndexOutOfBoundsException" := (Option.some.inj hE).symm
      subst hE
      refine vx_catch (own := RL) (name := "java/lang/IndexOutOfBoundsException") hown [] ⟨0, 13, 16, 14⟩ [⟨0, 13, 22, 16⟩, ⟨0, 13, 28, 18⟩] htab (fun _ h => absurd h List.not_mem_nil) rfl (by decide) (hts (.classLink RL 14 "java/lang/IndexOutOfBoundsException") (List.mem_of_getElem? (i := 1) rfl)) (va_Nw.use (w := .castable "java/lang/IndexOutOfBoundsException" "java/lang/IndexOutOfBoundsException") rfl (hX.1 0 (by omega))) hce hcv hcl ?_
      refine lv_astore (lv' := [(7, .ref q9), (0, .ref (r 0)), (1, .int a1), (2, .int a2), (3, .int (zb b3)), (4, .int a4), (5, .int (zb b5))]) hx hb dL_alarm_16 hl (by decide) rfl (fun ls hl => ?_)
      refine lv_sipush (v := (-7100)) hx hb dL_alarm_18 (by decide) ?_
      exact vx_ret (z_widen (k := 8) (n := 200) (Nat.le_of_eq (Nat.zero_add _)) (Nat.le_of_eq (Nat.zero_add _)) (W.iret (v := (-7100)) hx hb hr (fun t ht hW => ⟨⟨(-7100), w, rfl, ⟨fun h => absurd (hk.symm.trans h) (by decide), fun _ => ⟨by rw [hk]; rfl, rfl⟩⟩, ⟨by rw [ht]; exact hP, hD⟩⟩, hS.F ht⟩) hS.2.2 dL_alarm_21 hlocks))
    · skip
      have hE : E = "java/lang/IllegalArgumentException" := (Option.some.inj hE).symm
      subst hE
      refine vx_catch (own := RL) (name := "java/lang/IllegalArgumentException") hown [⟨0, 13, 16, 14⟩] ⟨0, 13, 22, 16⟩ [⟨0, 13, 28, 18⟩] htab (List.forall_mem_cons.mpr ⟨Or.inr ⟨by decide, "java/lang/IndexOutOfBoundsException", hts (.classLink RL 14 "java/lang/IndexOutOfBoundsException") (List.mem_of_getElem? (i := 1) rfl), hX.2 1 0 (by omega) (by omega) (by decide)⟩, fun _ h => absurd h List.not_mem_nil⟩) rfl (by decide) (hts (.classLink RL 16 "java/lang/IllegalArgumentException") (List.mem_of_getElem? (i := 2) rfl)) (va_Nw.use (w := .castable "java/lang/IllegalArgumentException" "java/lang/IllegalArgumentException") rfl (hX.1 1 (by omega))) hce hcv hcl ?_
      refine lv_astore (lv' := [(7, .ref q9), (0, .ref (r 0)), (1, .int a1), (2, .int a2), (3, .int (zb b3)), (4, .int a4), (5, .int (zb b5))]) hx hb dL_alarm_22 hl (by decide) rfl (fun ls hl => ?_)
      refine lv_sipush (v := (-7200)) hx hb dL_alarm_24 (by decide) ?_
      exact vx_ret (z_widen (k := 8) (n := 200) (Nat.le_of_eq (Nat.zero_add _)) (Nat.le_of_eq (Nat.zero_add _)) (W.iret (v := (-7200)) hx hb hr (fun t ht hW => ⟨⟨(-7200), w, rfl, ⟨fun h => absurd (hk.symm.trans h) (by decide), fun _ => ⟨by rw [hk]; rfl, rfl⟩⟩, ⟨by rw [ht]; exact hP, hD⟩⟩, hS.F ht⟩) hS.2.2 dL_alarm_27 hlocks))
    · skip
      have hE : E = "java/lang/IllegalStateException" := (Option.some.inj hE).symm
      subst hE
      refine vx_catch (own := RL) (name := "java/lang/IllegalStateException") hown [⟨0, 13, 16, 14⟩, ⟨0, 13, 22, 16⟩] ⟨0, 13, 28, 18⟩ [] htab (List.forall_mem_cons.mpr ⟨Or.inr ⟨by decide, "java/lang/IndexOutOfBoundsException", hts (.classLink RL 14 "java/lang/IndexOutOfBoundsException") (List.mem_of_getElem? (i := 1) rfl), hX.2 2 0 (by omega) (by omega) (by decide)⟩, List.forall_mem_cons.mpr ⟨Or.inr ⟨by decide, "java/lang/IllegalArgumentException", hts (.classLink RL 16 "java/lang/IllegalArgumentException") (List.mem_of_getElem? (i := 2) rfl), hX.2 2 1 (by omega) (by omega) (by decide)⟩, fun _ h => absurd h List.not_mem_nil⟩⟩) rfl (by decide) (hts (.classLink RL 18 "java/lang/IllegalStateException") (List.mem_of_getElem? (i := 3) rfl)) (va_Nw.use (w := .castable "java/lang/IllegalStateException" "java/lang/IllegalStateException") rfl (hX.1 2 (by omega))) hce hcv hcl ?_
      refine lv_astore (lv' := [(7, .ref q9), (0, .ref (r 0)), (1, .int a1), (2, .int a2), (3, .int (zb b3)), (4, .int a4), (5, .int (zb b5))]) hx hb dL_alarm_28 hl (by decide) rfl (fun ls hl => ?_)
      refine lv_sipush (v := (-7300)) hx hb dL_alarm_30 (by decide) ?_
      exact vx_ret (z_widen (k := 8) (n := 200) (Nat.le_of_eq (Nat.zero_add _)) (Nat.le_of_eq (Nat.zero_add _)) (W.iret (v := (-7300)) hx hb hr (fun t ht hW => ⟨⟨(-7300), w, rfl, ⟨fun h => absurd (hk.symm.trans h) (by decide), fun _ => ⟨by rw [hk]; rfl, rfl⟩⟩, ⟨by rw [ht]; exact hP, hD⟩⟩, hS.F ht⟩) hS.2.2 dL_alarm_33 hlocks))
  · obtain ⟨hk0, hra, hco⟩ := hq
    rw [hra]
    rw [List.append_nil] at hP hD
    refine lv_istore (lv' := [(6, .int (nI (N 3))), (0, .ref (r 0)), (1, .int a1), (2, .int a2), (3, .int (zb b3)), (4, .int a4), (5, .int (zb b5))]) hx hb dL_alarm_11 hl (by decide) rfl (fun ls hl => ?_)
    refine lv_goto (tgt := 34) hx hb dL_alarm_13 (by decide) ?_
    refine lv_iload hx hb dL_alarm_34 (lv_at hl 0 rfl) ?_
    exact vx_ret (z_widen (k := 8) (n := 200) (Nat.le_of_eq (Nat.zero_add _)) (Nat.le_of_eq (Nat.zero_add _)) (W.iret (v := (nI (N 3))) hx hb hr (fun t ht hW => ⟨⟨(nI (N 3)), w1, rfl, ⟨fun _ => ⟨rfl, hco⟩, fun h => absurd hk0 h⟩, ⟨by rw [ht]; exact hP, hD⟩⟩, hS.F ht⟩) hS.2.2 dL_alarm_36 hlocks))

set_option maxHeartbeats 4000000 in
set_option maxRecDepth 100000 in
theorem h_stateOf (l : Launch) (hst : l.stackTraces = false) (G : zG) (d : Nat) (r A : Nat → Nat) (mc : Nat → Int32) (g : Nat → Nat → Int32) (N : Nat → Nat) (T : Nat → Nat → Int32) (w : va_W) (K : Nat) (a1 : Int32) (sz : Nat) (hC : sCQ G d r A mc g N T w) (hI : sInv N T K 0) (hKk : K ≤ 511) : vx_Met l yL_stateOf wsL_stateOf ({ frames := 7, cells := 2, slots := 12, locals := 111 }) (va_Pc [.ref (r 0), .int a1] (zHu G d w sz)) (va_Qi (fun (r1 : Int32) (w1 : va_W) => (sK1 (sIx a1 (N 3)) = 0 → r1 = T 16 a1.toNatClampNeg ∧ sCO G d r N T w1) ∧ (¬ sK1 (sIx a1 (N 3)) = 0 → r1 = zCx [-7100] (sK1 (sIx a1 (N 3))) ∧ w1 = w)) (zB G (va_A w sz)) (va_A w sz)) (zXk [] 0) (2) (12) (va_A w sz) := by
  refine vx_ofWH (cc := cL_stateOf) (maxL := 4) (ret := (some .int)) (hh := [(0, 6, 9, 14)]) (by decide) rfl ?_
  intro p e s m args below meth c s₁ B hml hv
  obtain ⟨rfl, ⟨hsz, hP, hK, hD0, hZ⟩, hX⟩ := hv
  have hx := B.exec
  have hb := B.bytes
  have hr := B.returns
  have hts := atoms_spec (ws := wsL_stateOf) B.pre
  have hown : s.vm.findClass RL = some m.cls := findClass_of_methodNamed B.named
  have hlocks := B.notSynchronized
  have htab := vx_table (x := yL_stateOf) B (hts _ (List.mem_of_getElem? (i := 0) rfl))
  subst hsz
  have hD := hD0.self (sz := s.heap.size)
  generalize hAe : va_A w s.heap.size = Aw at hD hZ ⊢
  have hA : ∀ q : Nat, s.heap.size ≤ q → Aw q := fun q h => by rw [← hAe]; exact Or.inr h
  have hS : va_S Aw s.heap s.heap [] := va_S.rf
  have hl := lv_entry ([.ref (r 0), .int a1]) (n := 4) (Nat.le_of_ble_eq_true rfl)
  rw [lg_entry_eq]
  generalize (lg_sl ([.ref (r 0), .int a1]) ++ List.replicate (4 - (lg_sl ([.ref (r 0), .int a1])).length) Slot.unset).toArray = ls at hl ⊢
  have hl : lv_has ls 4 [(0, .ref (r 0)), (1, .int a1)] := hl
  have hP : va_P G.1 vwCl (w ++ ([] : va_W)) s.heap := by rw [List.append_nil]; exact hP
  have hD : va_D Aw (w ++ ([] : va_W)) := by rw [List.append_nil]; exact hD
  refine lv_aload_n hx hb dL_stateOf_0 rfl (lv_at hl 0 rfl) ?_
  refine lv_iload_n hx hb dL_stateOf_1 rfl (lv_at hl 1 rfl) ?_
  refine z_xi (G := G) (w := w) (wr := ([] : va_W)) (vx_runV (As := [.int a1]) (rest := []) ⟨hx, hb, hml, hown, hts⟩ (c_X6_stateOf l hst G d r A mc g N T w K a1 s.heap.size hC hI hKk) (cwV 1 hts gL_stateOf_X6_stateOf rfl rfl rfl (by decide +kernel) ⟨Nat.le_of_ble_eq_true rfl, Nat.le_of_ble_eq_true rfl⟩) (z_wv hK (z_apL hP) (ci := 7) (q0 := 0) rfl (hC.1.1 0 (by omega)) (z_apL hP) (z_dL hD) hZ hS hA) rfl rfl hl.1 rfl (lv_room (Nat.le_of_ble_eq_true rfl)) dL_stateOf_2 ⟨Nat.le_of_eq (Nat.zero_add _), Nat.le_of_eq (Nat.zero_add _)⟩) hP hD hS hA (fun i E ce q9 Hz Lz hk hE hP hS hce hcv hcl => ?_) (fun rz w1 Hz Lz hq hP hD hS => ?_)
  · have hi : i < 1 := (List.getElem?_eq_some_iff.mp hE).1
    rw [List.append_nil] at hP hD
    obtain rfl : i = 0 := by omega
    have hE : E = "java/lang/IndexOutOfBoundsException" := (Option.some.inj hE).symm
    subst hE
    refine vx_catch (own := RL) (name := "java/lang/IndexOutOfBoundsException") hown [] ⟨0, 6, 9, 14⟩ [] htab (fun _ h => absurd h List.not_mem_nil) rfl (by decide) (hts (.classLink RL 14 "java/lang/IndexOutOfBoundsException") (List.mem_of_getElem? (i := 1) rfl)) (va_Nw.use (w := .castable "java/lang/IndexOutOfBoundsException" "java/lang/IndexOutOfBoundsException") rfl (hX.1 0 (by omega))) hce hcv hcl ?_
    refine lv_astore_n (lv' := [(3, .ref q9), (0, .ref (r 0)), (1, .int a1)]) hx hb dL_stateOf_9 rfl hl (by decide) rfl (fun ls hl => ?_)
    refine lv_sipush (v := (-7100)) hx hb dL_stateOf_10 (by decide) ?_
    exact vx_ret (z_widen (k := 2) (n := 12) (Nat.le_of_eq (Nat.zero_add _)) (Nat.le_of_eq (Nat.zero_add _)) (W.iret (v := (-7100)) hx hb hr (fun t ht hW => ⟨⟨(-7100), w, rfl, ⟨fun h => absurd (hk.symm.trans h) (by decide), fun _ => ⟨by rw [hk]; rfl, rfl⟩⟩, ⟨by rw [ht]; exact hP, hD⟩⟩, hS.F ht⟩) hS.2.2 dL_stateOf_13 hlocks))
  · obtain ⟨hk0, hra, hco⟩ := hq
    rw [hra]
    rw [List.append_nil] at hP hD
    refine lv_istore_n (lv' := [(2, .int (T 16 a1.toNatClampNeg)), (0, .ref (r 0)), (1, .int a1)]) hx hb dL_stateOf_5 rfl hl (by decide) rfl (fun ls hl => ?_)
    refine lv_goto (tgt := 14) hx hb dL_stateOf_6 (by decide) ?_
    refine lv_iload_n hx hb dL_stateOf_14 rfl (lv_at hl 0 rfl) ?_
    exact vx_ret (z_widen (k := 2) (n := 12) (Nat.le_of_eq (Nat.zero_add _)) (Nat.le_of_eq (Nat.zero_add _)) (W.iret (v := (T 16 a1.toNatClampNeg)) hx hb hr (fun t ht hW => ⟨⟨(T 16 a1.toNatClampNeg), w1, rfl, ⟨fun _ => ⟨rfl, hco⟩, fun h => absurd hk0 h⟩, ⟨by rw [ht]; exact hP, hD⟩⟩, hS.F ht⟩) hS.2.2 dL_stateOf_15 hlocks))

set_option maxHeartbeats 4000000 in
set_option maxRecDepth 100000 in
theorem h_insert (l : Launch) (hst : l.stackTraces = false) (G : zG) (d : Nat) (r A : Nat → Nat) (mc : Nat → Int32) (g : Nat → Nat → Int32) (N : Nat → Nat) (T : Nat → Nat → Int32) (w : va_W) (K : Nat) (a1 a2 : Int32) (sz : Nat) (hC : sCQ G d r A mc g N T w) (hI : sInv N T K 0) (hKk : K ≤ 511) (hx9 : ∃ x : Nat, x < 65536 ∧ a2 = nI x) : vx_Met l yL_insert wsL_insert ({ frames := 7, cells := 2, slots := 12, locals := 112 }) (va_Pc [.ref (r 0), .int a1, .int a2] (zHu G d w sz)) (va_Qi (fun (r1 : Int32) (w1 : va_W) => (sK2 (sIn a1 0 (nI (N 4))) (!decide (N 4 = 40)) = 0 → r1 = nI (N 4 + 1) ∧ sCO G d r ((nIns N T a1 a2).1) ((nIns N T a1 a2).2) w1) ∧ (¬ sK2 (sIn a1 0 (nI (N 4))) (!decide (N 4 = 40)) = 0 → r1 = zCx [-7200, -7300] (sK2 (sIn a1 0 (nI (N 4))) (!decide (N 4 = 40))) ∧ w1 = w)) (zB G (va_A w sz)) (va_A w sz)) (zXk [] 0) (2) (12) (va_A w sz) := by
  refine vx_ofWH (cc := cL_insert) (maxL := 5) (ret := (some .int)) (hh := [(0, 7, 10, 16), (0, 7, 16, 18)]) (by decide) rfl ?_
  intro p e s m args below meth c s₁ B hml hv
  obtain ⟨rfl, ⟨hsz, hP, hK, hD0, hZ⟩, hX⟩ := hv
  have hx := B.exec
  have hb := B.bytes
  have hr := B.returns
  have hts := atoms_spec (ws := wsL_insert) B.pre
  have hown : s.vm.findClass RL = some m.cls := findClass_of_methodNamed B.named
  have hlocks := B.notSynchronized
  have htab := vx_table (x := yL_insert) B (hts _ (List.mem_of_getElem? (i := 0) rfl))
  subst hsz
  have hD := hD0.self (sz := s.heap.size)
  generalize hAe : va_A w s.heap.size = Aw at hD hZ ⊢
  have hA : ∀ q : Nat, s.heap.size ≤ q → Aw q := fun q h => by rw [← hAe]; exact Or.inr h
  have hS : va_S Aw s.heap s.heap [] := va_S.rf
  have hl := lv_entry ([.ref (r 0), .int a1, .int a2]) (n := 5) (Nat.le_of_ble_eq_true rfl)
  rw [lg_entry_eq]
  generalize (lg_sl ([.ref (r 0), .int a1, .int a2]) ++ List.replicate (5 - (lg_sl ([.ref (r 0), .int a1, .int a2])).length) Slot.unset).toArray = ls at hl ⊢
  have hl : lv_has ls 5 [(0, .ref (r 0)), (1, .int a1), (2, .int a2)] := hl
  have hP : va_P G.1 vwCl (w ++ ([] : va_W)) s.heap := by rw [List.append_nil]; exact hP
  have hD : va_D Aw (w ++ ([] : va_W)) := by rw [List.append_nil]; exact hD
  refine lv_aload_n hx hb dL_insert_0 rfl (lv_at hl 0 rfl) ?_
  refine lv_iload_n hx hb dL_insert_1 rfl (lv_at hl 1 rfl) ?_
  refine lv_iload_n hx hb dL_insert_2 rfl (lv_at hl 2 rfl) ?_
  refine z_xi (G := G) (w := w) (wr := ([] : va_W)) (vx_runV (As := [.int a1, .int a2]) (rest := []) ⟨hx, hb, hml, hown, hts⟩ (c_X6_insert l hst G d r A mc g N T w K a1 a2 s.heap.size hC hI hKk hx9) (cwV 2 hts gL_insert_X6_insert rfl rfl rfl (by decide +kernel) ⟨Nat.le_of_ble_eq_true rfl, Nat.le_of_ble_eq_true rfl⟩) (z_wv hK (z_apL hP) (ci := 7) (q0 := 0) rfl (hC.1.1 0 (by omega)) (z_apL hP) (z_dL hD) hZ hS hA) rfl rfl hl.1 rfl (lv_room (Nat.le_of_ble_eq_true rfl)) dL_insert_3 ⟨Nat.le_of_eq (Nat.zero_add _), Nat.le_of_eq (Nat.zero_add _)⟩) hP hD hS hA (fun i E ce q9 Hz Lz hk hE hP hS hce hcv hcl => ?_) (fun rz w1 Hz Lz hq hP hD hS => ?_)
  · have hi : i < 2 := (List.getElem?_eq_some_iff.mp hE).1
    rw [List.append_nil] at hP hD
    rcases (show i = 0 ∨ i = 1 by omega) with rfl | rfl
    · skip
      have hE : E = "java/lang/IllegalArgumentException" := (Option.some.inj hE).symm
      subst hE
      refine vx_catch (own := RL) (name := "java/lang/IllegalArgumentException") hown [] ⟨0, 7, 10, 16⟩ [⟨0, 7, 16, 18⟩] htab (fun _ h => absurd h List.not_mem_nil) rfl (by decide) (hts (.classLink RL 16 "java/lang/IllegalArgumentException") (List.mem_of_getElem? (i := 1) rfl)) (va_Nw.use (w := .castable "java/lang/IllegalArgumentException" "java/lang/IllegalArgumentException") rfl (hX.1 1 (by omega))) hce hcv hcl ?_
      refine lv_astore (lv' := [(4, .ref q9), (0, .ref (r 0)), (1, .int a1), (2, .int a2)]) hx hb dL_insert_10 hl (by decide) rfl (fun ls hl => ?_)
      refine lv_sipush (v := (-7200)) hx hb dL_insert_12 (by decide) ?_
      exact vx_ret (z_widen (k := 2) (n := 12) (Nat.le_of_eq (Nat.zero_add _)) (Nat.le_of_eq (Nat.zero_add _)) (W.iret (v := (-7200)) hx hb hr (fun t ht hW => ⟨⟨(-7200), w, rfl, ⟨fun h => absurd (hk.symm.trans h) (by decide), fun _ => ⟨by rw [hk]; rfl, rfl⟩⟩, ⟨by rw [ht]; exact hP, hD⟩⟩, hS.F ht⟩) hS.2.2 dL_insert_15 hlocks))
    · skip
      have hE : E = "java/lang/IllegalStateException" := (Option.some.inj hE).symm
      subst hE
      refine vx_catch (own := RL) (name := "java/lang/IllegalStateException") hown [⟨0, 7, 10, 16⟩] ⟨0, 7, 16, 18⟩ [] htab (List.forall_mem_cons.mpr ⟨Or.inr ⟨by decide, "java/lang/IllegalArgumentException", hts (.classLink RL 16 "java/lang/IllegalArgumentException") (List.mem_of_getElem? (i := 1) rfl), hX.2 2 1 (by omega) (by omega) (by decide)⟩, fun _ h => absurd h List.not_mem_nil⟩) rfl (by decide) (hts (.classLink RL 18 "java/lang/IllegalStateException") (List.mem_of_getElem? (i := 2) rfl)) (va_Nw.use (w := .castable "java/lang/IllegalStateException" "java/lang/IllegalStateException") rfl (hX.1 2 (by omega))) hce hcv hcl ?_
      refine lv_astore (lv' := [(4, .ref q9), (0, .ref (r 0)), (1, .int a1), (2, .int a2)]) hx hb dL_insert_16 hl (by decide) rfl (fun ls hl => ?_)
      refine lv_sipush (v := (-7300)) hx hb dL_insert_18 (by decide) ?_
      exact vx_ret (z_widen (k := 2) (n := 12) (Nat.le_of_eq (Nat.zero_add _)) (Nat.le_of_eq (Nat.zero_add _)) (W.iret (v := (-7300)) hx hb hr (fun t ht hW => ⟨⟨(-7300), w, rfl, ⟨fun h => absurd (hk.symm.trans h) (by decide), fun _ => ⟨by rw [hk]; rfl, rfl⟩⟩, ⟨by rw [ht]; exact hP, hD⟩⟩, hS.F ht⟩) hS.2.2 dL_insert_21 hlocks))
  · obtain ⟨hk0, hra, hco⟩ := hq
    rw [hra]
    rw [List.append_nil] at hP hD
    refine lv_istore_n (lv' := [(3, .int (nI (N 4 + 1))), (0, .ref (r 0)), (1, .int a1), (2, .int a2)]) hx hb dL_insert_6 rfl hl (by decide) rfl (fun ls hl => ?_)
    refine lv_goto (tgt := 22) hx hb dL_insert_7 (by decide) ?_
    refine lv_iload_n hx hb dL_insert_22 rfl (lv_at hl 0 rfl) ?_
    exact vx_ret (z_widen (k := 2) (n := 12) (Nat.le_of_eq (Nat.zero_add _)) (Nat.le_of_eq (Nat.zero_add _)) (W.iret (v := (nI (N 4 + 1))) hx hb hr (fun t ht hW => ⟨⟨(nI (N 4 + 1)), w1, rfl, ⟨fun _ => ⟨rfl, hco⟩, fun h => absurd hk0 h⟩, ⟨by rw [ht]; exact hP, hD⟩⟩, hS.F ht⟩) hS.2.2 dL_insert_23 hlocks))

set_option maxHeartbeats 4000000 in
set_option maxRecDepth 100000 in
theorem h_post (l : Launch) (hst : l.stackTraces = false) (G : zG) (d : Nat) (r A : Nat → Nat) (mc : Nat → Int32) (g : Nat → Nat → Int32) (N : Nat → Nat) (T : Nat → Nat → Int32) (w : va_W) (K : Nat) (a1 a2 : Int32) (sz : Nat) (hC : sCQ G d r A mc g N T w) (hI : sInv N T K 0) (hKk : K ≤ 511) : vx_Met l yL_post wsL_post ({ frames := 8, cells := (8 + zmc (sK2 ((sIx a1 9) && (decide (a2 = -1) || sIx a2 (N 6))) (((decide (T 2 a1.toNatClampNeg = 0)) && (sGood (T 17) (N 4))) && !decide (N 5 = 60))) (N 1) ((nPost N T a2).1 1)), slots := (200 + zms (sK2 ((sIx a1 9) && (decide (a2 = -1) || sIx a2 (N 6))) (((decide (T 2 a1.toNatClampNeg = 0)) && (sGood (T 17) (N 4))) && !decide (N 5 = 60))) (N 1) ((nPost N T a2).1 1)), locals := 195 }) (va_Pc [.ref (r 0), .int a1, .int a2] (zHu G d w sz)) (va_Qi (fun (r1 : Int32) (w1 : va_W) => (sK2 ((sIx a1 9) && (decide (a2 = -1) || sIx a2 (N 6))) (((decide (T 2 a1.toNatClampNeg = 0)) && (sGood (T 17) (N 4))) && !decide (N 5 = 60)) = 0 → r1 = rPost N a2 ∧ sCO G d r ((nPost N T a2).1) ((nPost N T a2).2) w1) ∧ (¬ sK2 ((sIx a1 9) && (decide (a2 = -1) || sIx a2 (N 6))) (((decide (T 2 a1.toNatClampNeg = 0)) && (sGood (T 17) (N 4))) && !decide (N 5 = 60)) = 0 → r1 = zCx [-7100, -7300] (sK2 ((sIx a1 9) && (decide (a2 = -1) || sIx a2 (N 6))) (((decide (T 2 a1.toNatClampNeg = 0)) && (sGood (T 17) (N 4))) && !decide (N 5 = 60))) ∧ w1 = w)) (zB G (va_A w sz)) (va_A w sz)) (zXk [] 0) ((8 + zmc (sK2 ((sIx a1 9) && (decide (a2 = -1) || sIx a2 (N 6))) (((decide (T 2 a1.toNatClampNeg = 0)) && (sGood (T 17) (N 4))) && !decide (N 5 = 60))) (N 1) ((nPost N T a2).1 1))) ((200 + zms (sK2 ((sIx a1 9) && (decide (a2 = -1) || sIx a2 (N 6))) (((decide (T 2 a1.toNatClampNeg = 0)) && (sGood (T 17) (N 4))) && !decide (N 5 = 60))) (N 1) ((nPost N T a2).1 1))) (va_A w sz) := by
  refine vx_ofWH (cc := cL_post) (maxL := 5) (ret := (some .int)) (hh := [(0, 7, 10, 14), (0, 7, 16, 18)]) (by decide) rfl ?_
  intro p e s m args below meth c s₁ B hml hv
  obtain ⟨rfl, ⟨hsz, hP, hK, hD0, hZ⟩, hX⟩ := hv
  have hx := B.exec
  have hb := B.bytes
  have hr := B.returns
  have hts := atoms_spec (ws := wsL_post) B.pre
  have hown : s.vm.findClass RL = some m.cls := findClass_of_methodNamed B.named
  have hlocks := B.notSynchronized
  have htab := vx_table (x := yL_post) B (hts _ (List.mem_of_getElem? (i := 0) rfl))
  subst hsz
  have hD := hD0.self (sz := s.heap.size)
  generalize hAe : va_A w s.heap.size = Aw at hD hZ ⊢
  have hA : ∀ q : Nat, s.heap.size ≤ q → Aw q := fun q h => by rw [← hAe]; exact Or.inr h
  have hS : va_S Aw s.heap s.heap [] := va_S.rf
  have hl := lv_entry ([.ref (r 0), .int a1, .int a2]) (n := 5) (Nat.le_of_ble_eq_true rfl)
  rw [lg_entry_eq]
  generalize (lg_sl ([.ref (r 0), .int a1, .int a2]) ++ List.replicate (5 - (lg_sl ([.ref (r 0), .int a1, .int a2])).length) Slot.unset).toArray = ls at hl ⊢
  have hl : lv_has ls 5 [(0, .ref (r 0)), (1, .int a1), (2, .int a2)] := hl
  have hP : va_P G.1 vwCl (w ++ ([] : va_W)) s.heap := by rw [List.append_nil]; exact hP
  have hD : va_D Aw (w ++ ([] : va_W)) := by rw [List.append_nil]; exact hD
  refine lv_aload_n hx hb dL_post_0 rfl (lv_at hl 0 rfl) ?_
  refine lv_iload_n hx hb dL_post_1 rfl (lv_at hl 1 rfl) ?_
  refine lv_iload_n hx hb dL_post_2 rfl (lv_at hl 2 rfl) ?_
  refine z_xi (G := G) (w := w) (wr := ([] : va_W)) (vx_runV (As := [.int a1, .int a2]) (rest := []) ⟨hx, hb, hml, hown, hts⟩ (c_X6_post l hst G d r A mc g N T w K a1 a2 s.heap.size hC hI hKk) (cwV 2 hts gL_post_X6_post rfl rfl rfl (by decide +kernel) ⟨Nat.le_of_ble_eq_true rfl, Nat.le_of_ble_eq_true rfl⟩) (z_wv hK (z_apL hP) (ci := 7) (q0 := 0) rfl (hC.1.1 0 (by omega)) (z_apL hP) (z_dL hD) hZ hS hA) rfl rfl hl.1 rfl (lv_room (Nat.le_of_ble_eq_true rfl)) dL_post_3 ⟨Nat.le_of_eq (Nat.zero_add _), Nat.le_of_eq (Nat.zero_add _)⟩) hP hD hS hA (fun i E ce q9 Hz Lz hk hE hP hS hce hcv hcl => ?_) (fun rz w1 Hz Lz hq hP hD hS => ?_)
  · have hi : i < 2 := (List.getElem?_eq_some_iff.mp hE).1
    rw [List.append_nil] at hP hD
    rcases (show i = 0 ∨ i = 1 by omega) with rfl | rfl
    · skip
      have hE : E = "java/lang/IndexOutOfBoundsException" := (Option.some.inj hE).symm
      subst hE
      refine vx_catch (own := RL) (name := "java/lang/IndexOutOfBoundsException") hown [] ⟨0, 7, 10, 14⟩ [⟨0, 7, 16, 18⟩] htab (fun _ h => absurd h List.not_mem_nil) rfl (by decide) (hts (.classLink RL 14 "java/lang/IndexOutOfBoundsException") (List.mem_of_getElem? (i := 1) rfl)) (va_Nw.use (w := .castable "java/lang/IndexOutOfBoundsException" "java/lang/IndexOutOfBoundsException") rfl (hX.1 0 (by omega))) hce hcv hcl ?_
      refine lv_astore (lv' := [(4, .ref q9), (0, .ref (r 0)), (1, .int a1), (2, .int a2)]) hx hb dL_post_10 hl (by decide) rfl (fun ls hl => ?_)
      refine lv_sipush (v := (-7100)) hx hb dL_post_12 (by decide) ?_
      exact vx_ret (z_widen (k := (8 + zmc (sK2 ((sIx a1 9) && (decide (a2 = -1) || sIx a2 (N 6))) (((decide (T 2 a1.toNatClampNeg = 0)) && (sGood (T 17) (N 4))) && !decide (N 5 = 60))) (N 1) ((nPost N T a2).1 1))) (n := (200 + zms (sK2 ((sIx a1 9) && (decide (a2 = -1) || sIx a2 (N 6))) (((decide (T 2 a1.toNatClampNeg = 0)) && (sGood (T 17) (N 4))) && !decide (N 5 = 60))) (N 1) ((nPost N T a2).1 1))) (Nat.le_of_eq (Nat.zero_add _)) (Nat.le_of_eq (Nat.zero_add _)) (W.iret (v := (-7100)) hx hb hr (fun t ht hW => ⟨⟨(-7100), w, rfl, ⟨fun h => absurd (hk.symm.trans h) (by decide), fun _ => ⟨by rw [hk]; rfl, rfl⟩⟩, ⟨by rw [ht]; exact hP, hD⟩⟩, hS.F ht⟩) hS.2.2 dL_post_15 hlocks))
    · skip
      have hE : E = "java/lang/IllegalStateException" := (Option.some.inj hE).symm
      subst hE
      refine vx_catch (own := RL) (name := "java/lang/IllegalStateException") hown [⟨0, 7, 10, 14⟩] ⟨0, 7, 16, 18⟩ [] htab (List.forall_mem_cons.mpr ⟨Or.inr ⟨by decide, "java/lang/IndexOutOfBoundsException", hts (.classLink RL 14 "java/lang/IndexOutOfBoundsException") (List.mem_of_getElem? (i := 1) rfl), hX.2 2 0 (by omega) (by omega) (by decide)⟩, fun _ h => absurd h List.not_mem_nil⟩) rfl (by decide) (hts (.classLink RL 18 "java/lang/IllegalStateException") (List.mem_of_getElem? (i := 2) rfl)) (va_Nw.use (w := .castable "java/lang/IllegalStateException" "java/lang/IllegalStateException") rfl (hX.1 2 (by omega))) hce hcv hcl ?_
      refine lv_astore (lv' := [(4, .ref q9), (0, .ref (r 0)), (1, .int a1), (2, .int a2)]) hx hb dL_post_16 hl (by decide) rfl (fun ls hl => ?_)
      refine lv_sipush (v := (-7300)) hx hb dL_post_18 (by decide) ?_
      exact vx_ret (z_widen (k := (8 + zmc (sK2 ((sIx a1 9) && (decide (a2 = -1) || sIx a2 (N 6))) (((decide (T 2 a1.toNatClampNeg = 0)) && (sGood (T 17) (N 4))) && !decide (N 5 = 60))) (N 1) ((nPost N T a2).1 1))) (n := (200 + zms (sK2 ((sIx a1 9) && (decide (a2 = -1) || sIx a2 (N 6))) (((decide (T 2 a1.toNatClampNeg = 0)) && (sGood (T 17) (N 4))) && !decide (N 5 = 60))) (N 1) ((nPost N T a2).1 1))) (Nat.le_of_eq (Nat.zero_add _)) (Nat.le_of_eq (Nat.zero_add _)) (W.iret (v := (-7300)) hx hb hr (fun t ht hW => ⟨⟨(-7300), w, rfl, ⟨fun h => absurd (hk.symm.trans h) (by decide), fun _ => ⟨by rw [hk]; rfl, rfl⟩⟩, ⟨by rw [ht]; exact hP, hD⟩⟩, hS.F ht⟩) hS.2.2 dL_post_21 hlocks))
  · obtain ⟨hk0, hra, hco⟩ := hq
    rw [hra]
    rw [List.append_nil] at hP hD
    refine lv_istore_n (lv' := [(3, .int (rPost N a2)), (0, .ref (r 0)), (1, .int a1), (2, .int a2)]) hx hb dL_post_6 rfl hl (by decide) rfl (fun ls hl => ?_)
    refine lv_goto (tgt := 22) hx hb dL_post_7 (by decide) ?_
    refine lv_iload_n hx hb dL_post_22 rfl (lv_at hl 0 rfl) ?_
    exact vx_ret (z_widen (k := (8 + zmc (sK2 ((sIx a1 9) && (decide (a2 = -1) || sIx a2 (N 6))) (((decide (T 2 a1.toNatClampNeg = 0)) && (sGood (T 17) (N 4))) && !decide (N 5 = 60))) (N 1) ((nPost N T a2).1 1))) (n := (200 + zms (sK2 ((sIx a1 9) && (decide (a2 = -1) || sIx a2 (N 6))) (((decide (T 2 a1.toNatClampNeg = 0)) && (sGood (T 17) (N 4))) && !decide (N 5 = 60))) (N 1) ((nPost N T a2).1 1))) (Nat.le_of_eq (Nat.zero_add _)) (Nat.le_of_eq (Nat.zero_add _)) (W.iret (v := (rPost N a2)) hx hb hr (fun t ht hW => ⟨⟨(rPost N a2), w1, rfl, ⟨fun _ => ⟨rfl, hco⟩, fun h => absurd hk0 h⟩, ⟨by rw [ht]; exact hP, hD⟩⟩, hS.F ht⟩) hS.2.2 dL_post_23 hlocks))

set_option maxHeartbeats 4000000 in
set_option maxRecDepth 100000 in
theorem h_finish (l : Launch) (hst : l.stackTraces = false) (G : zG) (d : Nat) (r A : Nat → Nat) (mc : Nat → Int32) (g : Nat → Nat → Int32) (N : Nat → Nat) (T : Nat → Nat → Int32) (w : va_W) (K : Nat) (a1 a2 : Int32) (sz : Nat) (hC : sCQ G d r A mc g N T w) (hI : sInv N T K 0) (hKk : K ≤ 511) : vx_Met l yL_finish wsL_finish ({ frames := 8, cells := (8 + zmc (sK2 ((sIx a1 9) && (sIx a2 (N 6))) ((decide (T 18 a2.toNatClampNeg = a1)) && (decide (T 2 a1.toNatClampNeg = 0)))) (N 1) (N 1 + 1)), slots := (200 + zms (sK2 ((sIx a1 9) && (sIx a2 (N 6))) ((decide (T 18 a2.toNatClampNeg = a1)) && (decide (T 2 a1.toNatClampNeg = 0)))) (N 1) (N 1 + 1)), locals := 133 }) (va_Pc [.ref (r 0), .int a1, .int a2] (zHu G d w sz)) (va_Qi (fun (r1 : Int32) (w1 : va_W) => (sK2 ((sIx a1 9) && (sIx a2 (N 6))) ((decide (T 18 a2.toNatClampNeg = a1)) && (decide (T 2 a1.toNatClampNeg = 0))) = 0 → r1 = 0 ∧ sCO G d r ((nFin N T a1 a2).1) ((nFin N T a1 a2).2) w1) ∧ (¬ sK2 ((sIx a1 9) && (sIx a2 (N 6))) ((decide (T 18 a2.toNatClampNeg = a1)) && (decide (T 2 a1.toNatClampNeg = 0))) = 0 → r1 = zCx [-7100, -7300] (sK2 ((sIx a1 9) && (sIx a2 (N 6))) ((decide (T 18 a2.toNatClampNeg = a1)) && (decide (T 2 a1.toNatClampNeg = 0)))) ∧ w1 = w)) (zB G (va_A w sz)) (va_A w sz)) (zXk [] 0) ((8 + zmc (sK2 ((sIx a1 9) && (sIx a2 (N 6))) ((decide (T 18 a2.toNatClampNeg = a1)) && (decide (T 2 a1.toNatClampNeg = 0)))) (N 1) (N 1 + 1))) ((200 + zms (sK2 ((sIx a1 9) && (sIx a2 (N 6))) ((decide (T 18 a2.toNatClampNeg = a1)) && (decide (T 2 a1.toNatClampNeg = 0)))) (N 1) (N 1 + 1))) (va_A w sz) := by
  refine vx_ofWH (cc := cL_finish) (maxL := 4) (ret := (some .int)) (hh := [(0, 6, 9, 14), (0, 6, 14, 18)]) (by decide) rfl ?_
  intro p e s m args below meth c s₁ B hml hv
  obtain ⟨rfl, ⟨hsz, hP, hK, hD0, hZ⟩, hX⟩ := hv
  have hx := B.exec
  have hb := B.bytes
  have hr := B.returns
  have hts := atoms_spec (ws := wsL_finish) B.pre
  have hown : s.vm.findClass RL = some m.cls := findClass_of_methodNamed B.named
  have hlocks := B.notSynchronized
  have htab := vx_table (x := yL_finish) B (hts _ (List.mem_of_getElem? (i := 0) rfl))
  subst hsz
  have hD := hD0.self (sz := s.heap.size)
  generalize hAe : va_A w s.heap.size = Aw at hD hZ ⊢
  have hA : ∀ q : Nat, s.heap.size ≤ q → Aw q := fun q h => by rw [← hAe]; exact Or.inr h
  have hS : va_S Aw s.heap s.heap [] := va_S.rf
  have hl := lv_entry ([.ref (r 0), .int a1, .int a2]) (n := 4) (Nat.le_of_ble_eq_true rfl)
  rw [lg_entry_eq]
  generalize (lg_sl ([.ref (r 0), .int a1, .int a2]) ++ List.replicate (4 - (lg_sl ([.ref (r 0), .int a1, .int a2])).length) Slot.unset).toArray = ls at hl ⊢
  have hl : lv_has ls 4 [(0, .ref (r 0)), (1, .int a1), (2, .int a2)] := hl
  have hP : va_P G.1 vwCl (w ++ ([] : va_W)) s.heap := by rw [List.append_nil]; exact hP
  have hD : va_D Aw (w ++ ([] : va_W)) := by rw [List.append_nil]; exact hD
  refine lv_aload_n hx hb dL_finish_0 rfl (lv_at hl 0 rfl) ?_
  refine lv_iload_n hx hb dL_finish_1 rfl (lv_at hl 1 rfl) ?_
  refine lv_iload_n hx hb dL_finish_2 rfl (lv_at hl 2 rfl) ?_
  refine z_xv (G := G) (w := w) (wr := ([] : va_W)) (vx_runV (As := [.int a1, .int a2]) (rest := []) ⟨hx, hb, hml, hown, hts⟩ (c_X6_finish l hst G d r A mc g N T w K a1 a2 s.heap.size hC hI hKk) (cwV 2 hts gL_finish_X6_finish rfl rfl rfl (by decide +kernel) ⟨Nat.le_of_ble_eq_true rfl, Nat.le_of_ble_eq_true rfl⟩) (z_wv hK (z_apL hP) (ci := 7) (q0 := 0) rfl (hC.1.1 0 (by omega)) (z_apL hP) (z_dL hD) hZ hS hA) rfl rfl hl.1 rfl (lv_room (Nat.le_of_ble_eq_true rfl)) dL_finish_3 ⟨Nat.le_of_eq (Nat.zero_add _), Nat.le_of_eq (Nat.zero_add _)⟩) hP hD hS hA (fun i E ce q9 Hz Lz hk hE hP hS hce hcv hcl => ?_) (fun  w1 Hz Lz hq hP hD hS => ?_)
  · have hi : i < 2 := (List.getElem?_eq_some_iff.mp hE).1
    rw [List.append_nil] at hP hD
    rcases (show i = 0 ∨ i = 1 by omega) with rfl | rfl
    · skip
      have hE : E = "java/lang/IndexOutOfBoundsException" := (Option.some.inj hE).symm
      subst hE
      refine vx_catch (own := RL) (name := "java/lang/IndexOutOfBoundsException") hown [] ⟨0, 6, 9, 14⟩ [⟨0, 6, 14, 18⟩] htab (fun _ h => absurd h List.not_mem_nil) rfl (by decide) (hts (.classLink RL 14 "java/lang/IndexOutOfBoundsException") (List.mem_of_getElem? (i := 1) rfl)) (va_Nw.use (w := .castable "java/lang/IndexOutOfBoundsException" "java/lang/IndexOutOfBoundsException") rfl (hX.1 0 (by omega))) hce hcv hcl ?_
      refine lv_astore_n (lv' := [(3, .ref q9), (0, .ref (r 0)), (1, .int a1), (2, .int a2)]) hx hb dL_finish_9 rfl hl (by decide) rfl (fun ls hl => ?_)
      refine lv_sipush (v := (-7100)) hx hb dL_finish_10 (by decide) ?_
      exact vx_ret (z_widen (k := (8 + zmc (sK2 ((sIx a1 9) && (sIx a2 (N 6))) ((decide (T 18 a2.toNatClampNeg = a1)) && (decide (T 2 a1.toNatClampNeg = 0)))) (N 1) (N 1 + 1))) (n := (200 + zms (sK2 ((sIx a1 9) && (sIx a2 (N 6))) ((decide (T 18 a2.toNatClampNeg = a1)) && (decide (T 2 a1.toNatClampNeg = 0)))) (N 1) (N 1 + 1))) (Nat.le_of_eq (Nat.zero_add _)) (Nat.le_of_eq (Nat.zero_add _)) (W.iret (v := (-7100)) hx hb hr (fun t ht hW => ⟨⟨(-7100), w, rfl, ⟨fun h => absurd (hk.symm.trans h) (by decide), fun _ => ⟨by rw [hk]; rfl, rfl⟩⟩, ⟨by rw [ht]; exact hP, hD⟩⟩, hS.F ht⟩) hS.2.2 dL_finish_13 hlocks))
    · skip
      have hE : E = "java/lang/IllegalStateException" := (Option.some.inj hE).symm
      subst hE
      refine vx_catch (own := RL) (name := "java/lang/IllegalStateException") hown [⟨0, 6, 9, 14⟩] ⟨0, 6, 14, 18⟩ [] htab (List.forall_mem_cons.mpr ⟨Or.inr ⟨by decide, "java/lang/IndexOutOfBoundsException", hts (.classLink RL 14 "java/lang/IndexOutOfBoundsException") (List.mem_of_getElem? (i := 1) rfl), hX.2 2 0 (by omega) (by omega) (by decide)⟩, fun _ h => absurd h List.not_mem_nil⟩) rfl (by decide) (hts (.classLink RL 18 "java/lang/IllegalStateException") (List.mem_of_getElem? (i := 2) rfl)) (va_Nw.use (w := .castable "java/lang/IllegalStateException" "java/lang/IllegalStateException") rfl (hX.1 2 (by omega))) hce hcv hcl ?_
      refine lv_astore_n (lv' := [(3, .ref q9), (0, .ref (r 0)), (1, .int a1), (2, .int a2)]) hx hb dL_finish_14 rfl hl (by decide) rfl (fun ls hl => ?_)
      refine lv_sipush (v := (-7300)) hx hb dL_finish_15 (by decide) ?_
      exact vx_ret (z_widen (k := (8 + zmc (sK2 ((sIx a1 9) && (sIx a2 (N 6))) ((decide (T 18 a2.toNatClampNeg = a1)) && (decide (T 2 a1.toNatClampNeg = 0)))) (N 1) (N 1 + 1))) (n := (200 + zms (sK2 ((sIx a1 9) && (sIx a2 (N 6))) ((decide (T 18 a2.toNatClampNeg = a1)) && (decide (T 2 a1.toNatClampNeg = 0)))) (N 1) (N 1 + 1))) (Nat.le_of_eq (Nat.zero_add _)) (Nat.le_of_eq (Nat.zero_add _)) (W.iret (v := (-7300)) hx hb hr (fun t ht hW => ⟨⟨(-7300), w, rfl, ⟨fun h => absurd (hk.symm.trans h) (by decide), fun _ => ⟨by rw [hk]; rfl, rfl⟩⟩, ⟨by rw [ht]; exact hP, hD⟩⟩, hS.F ht⟩) hS.2.2 dL_finish_18 hlocks))
  · obtain ⟨hk0, hco⟩ := hq
    rw [List.append_nil] at hP hD
    refine lv_goto (tgt := 19) hx hb dL_finish_6 (by decide) ?_
    refine lv_iconst (v := 0) hx hb dL_finish_19 (by decide) ?_
    exact vx_ret (z_widen (k := (8 + zmc (sK2 ((sIx a1 9) && (sIx a2 (N 6))) ((decide (T 18 a2.toNatClampNeg = a1)) && (decide (T 2 a1.toNatClampNeg = 0)))) (N 1) (N 1 + 1))) (n := (200 + zms (sK2 ((sIx a1 9) && (sIx a2 (N 6))) ((decide (T 18 a2.toNatClampNeg = a1)) && (decide (T 2 a1.toNatClampNeg = 0)))) (N 1) (N 1 + 1))) (Nat.le_of_eq (Nat.zero_add _)) (Nat.le_of_eq (Nat.zero_add _)) (W.iret (v := 0) hx hb hr (fun t ht hW => ⟨⟨0, w1, rfl, ⟨fun _ => ⟨rfl, hco⟩, fun h => absurd hk0 h⟩, ⟨by rw [ht]; exact hP, hD⟩⟩, hS.F ht⟩) hS.2.2 dL_finish_20 hlocks))

set_option maxHeartbeats 4000000 in
set_option maxRecDepth 100000 in
theorem h_taskOf (l : Launch) (hst : l.stackTraces = false) (G : zG) (d : Nat) (r A : Nat → Nat) (mc : Nat → Int32) (g : Nat → Nat → Int32) (N : Nat → Nat) (T : Nat → Nat → Int32) (w : va_W) (K : Nat) (a1 : Int32) (sz : Nat) (hC : sCQ G d r A mc g N T w) (hI : sInv N T K 0) (hKk : K ≤ 511) : vx_Met l yL_taskOf wsL_taskOf ({ frames := 8, cells := 2, slots := 12, locals := 132 }) (va_Pc [.ref (r 0), .int a1] (zHu G d w sz)) (va_Qi (fun (r1 : Int32) (w1 : va_W) => (sK1 (sIx a1 (N 6)) = 0 → r1 = T 18 a1.toNatClampNeg ∧ sCO G d r N T w1) ∧ (¬ sK1 (sIx a1 (N 6)) = 0 → r1 = zCx [-7100] (sK1 (sIx a1 (N 6))) ∧ w1 = w)) (zB G (va_A w sz)) (va_A w sz)) (zXk [] 0) (2) (12) (va_A w sz) := by
  refine vx_ofWH (cc := cL_taskOf) (maxL := 4) (ret := (some .int)) (hh := [(0, 6, 9, 14)]) (by decide) rfl ?_
  intro p e s m args below meth c s₁ B hml hv
  obtain ⟨rfl, ⟨hsz, hP, hK, hD0, hZ⟩, hX⟩ := hv
  have hx := B.exec
  have hb := B.bytes
  have hr := B.returns
  have hts := atoms_spec (ws := wsL_taskOf) B.pre
  have hown : s.vm.findClass RL = some m.cls := findClass_of_methodNamed B.named
  have hlocks := B.notSynchronized
  have htab := vx_table (x := yL_taskOf) B (hts _ (List.mem_of_getElem? (i := 0) rfl))
  subst hsz
  have hD := hD0.self (sz := s.heap.size)
  generalize hAe : va_A w s.heap.size = Aw at hD hZ ⊢
  have hA : ∀ q : Nat, s.heap.size ≤ q → Aw q := fun q h => by rw [← hAe]; exact Or.inr h
  have hS : va_S Aw s.heap s.heap [] := va_S.rf
  have hl := lv_entry ([.ref (r 0), .int a1]) (n := 4) (Nat.le_of_ble_eq_true rfl)
  rw [lg_entry_eq]
  generalize (lg_sl ([.ref (r 0), .int a1]) ++ List.replicate (4 - (lg_sl ([.ref (r 0), .int a1])).length) Slot.unset).toArray = ls at hl ⊢
  have hl : lv_has ls 4 [(0, .ref (r 0)), (1, .int a1)] := hl
  have hP : va_P G.1 vwCl (w ++ ([] : va_W)) s.heap := by rw [List.append_nil]; exact hP
  have hD : va_D Aw (w ++ ([] : va_W)) := by rw [List.append_nil]; exact hD
  refine lv_aload_n hx hb dL_taskOf_0 rfl (lv_at hl 0 rfl) ?_
  refine lv_iload_n hx hb dL_taskOf_1 rfl (lv_at hl 1 rfl) ?_
  refine z_xi (G := G) (w := w) (wr := ([] : va_W)) (vx_runV (As := [.int a1]) (rest := []) ⟨hx, hb, hml, hown, hts⟩ (c_X6_taskOf l hst G d r A mc g N T w K a1 s.heap.size hC hI hKk) (cwV 1 hts gL_taskOf_X6_taskOf rfl rfl rfl (by decide +kernel) ⟨Nat.le_of_ble_eq_true rfl, Nat.le_of_ble_eq_true rfl⟩) (z_wv hK (z_apL hP) (ci := 7) (q0 := 0) rfl (hC.1.1 0 (by omega)) (z_apL hP) (z_dL hD) hZ hS hA) rfl rfl hl.1 rfl (lv_room (Nat.le_of_ble_eq_true rfl)) dL_taskOf_2 ⟨Nat.le_of_eq (Nat.zero_add _), Nat.le_of_eq (Nat.zero_add _)⟩) hP hD hS hA (fun i E ce q9 Hz Lz hk hE hP hS hce hcv hcl => ?_) (fun rz w1 Hz Lz hq hP hD hS => ?_)
  · have hi : i < 1 := (List.getElem?_eq_some_iff.mp hE).1
    rw [List.append_nil] at hP hD
    obtain rfl : i = 0 := by omega
    have hE : E = "java/lang/IndexOutOfBoundsException" := (Option.some.inj hE).symm
    subst hE
    refine vx_catch (own := RL) (name := "java/lang/IndexOutOfBoundsException") hown [] ⟨0, 6, 9, 14⟩ [] htab (fun _ h => absurd h List.not_mem_nil) rfl (by decide) (hts (.classLink RL 14 "java/lang/IndexOutOfBoundsException") (List.mem_of_getElem? (i := 1) rfl)) (va_Nw.use (w := .castable "java/lang/IndexOutOfBoundsException" "java/lang/IndexOutOfBoundsException") rfl (hX.1 0 (by omega))) hce hcv hcl ?_
    refine lv_astore_n (lv' := [(3, .ref q9), (0, .ref (r 0)), (1, .int a1)]) hx hb dL_taskOf_9 rfl hl (by decide) rfl (fun ls hl => ?_)
    refine lv_sipush (v := (-7100)) hx hb dL_taskOf_10 (by decide) ?_
    exact vx_ret (z_widen (k := 2) (n := 12) (Nat.le_of_eq (Nat.zero_add _)) (Nat.le_of_eq (Nat.zero_add _)) (W.iret (v := (-7100)) hx hb hr (fun t ht hW => ⟨⟨(-7100), w, rfl, ⟨fun h => absurd (hk.symm.trans h) (by decide), fun _ => ⟨by rw [hk]; rfl, rfl⟩⟩, ⟨by rw [ht]; exact hP, hD⟩⟩, hS.F ht⟩) hS.2.2 dL_taskOf_13 hlocks))
  · obtain ⟨hk0, hra, hco⟩ := hq
    rw [hra]
    rw [List.append_nil] at hP hD
    refine lv_istore_n (lv' := [(2, .int (T 18 a1.toNatClampNeg)), (0, .ref (r 0)), (1, .int a1)]) hx hb dL_taskOf_5 rfl hl (by decide) rfl (fun ls hl => ?_)
    refine lv_goto (tgt := 14) hx hb dL_taskOf_6 (by decide) ?_
    refine lv_iload_n hx hb dL_taskOf_14 rfl (lv_at hl 0 rfl) ?_
    exact vx_ret (z_widen (k := 2) (n := 12) (Nat.le_of_eq (Nat.zero_add _)) (Nat.le_of_eq (Nat.zero_add _)) (W.iret (v := (T 18 a1.toNatClampNeg)) hx hb hr (fun t ht hW => ⟨⟨(T 18 a1.toNatClampNeg), w1, rfl, ⟨fun _ => ⟨rfl, hco⟩, fun h => absurd hk0 h⟩, ⟨by rw [ht]; exact hP, hD⟩⟩, hS.F ht⟩) hS.2.2 dL_taskOf_15 hlocks))

set_option maxHeartbeats 4000000 in
set_option maxRecDepth 100000 in
theorem h_signs (l : Launch) (hst : l.stackTraces = false) (G : zG) (d : Nat) (r A : Nat → Nat) (mc : Nat → Int32) (g : Nat → Nat → Int32) (N : Nat → Nat) (T : Nat → Nat → Int32) (w : va_W) (K : Nat) (a1 : Int32) (sz : Nat) (hC : sCQ G d r A mc g N T w) (hI : sInv N T K 0) (hKk : K ≤ 511) : vx_Met l yL_signs wsL_signs ({ frames := 8, cells := 2, slots := 12, locals := 132 }) (va_Pc [.ref (r 0), .int a1] (zHu G d w sz)) (va_Qi (fun (r1 : Int32) (w1 : va_W) => (sK1 (sIx a1 (N 5)) = 0 → r1 = nI (rSigns N T a1.toNatClampNeg) ∧ sCO G d r N T w1) ∧ (¬ sK1 (sIx a1 (N 5)) = 0 → r1 = zCx [-7100] (sK1 (sIx a1 (N 5))) ∧ w1 = w)) (zB G (va_A w sz)) (va_A w sz)) (zXk [] 0) (2) (12) (va_A w sz) := by
  refine vx_ofWH (cc := cL_signs) (maxL := 4) (ret := (some .int)) (hh := [(0, 6, 9, 14)]) (by decide) rfl ?_
  intro p e s m args below meth c s₁ B hml hv
  obtain ⟨rfl, ⟨hsz, hP, hK, hD0, hZ⟩, hX⟩ := hv
  have hx := B.exec
  have hb := B.bytes
  have hr := B.returns
  have hts := atoms_spec (ws := wsL_signs) B.pre
  have hown : s.vm.findClass RL = some m.cls := findClass_of_methodNamed B.named
  have hlocks := B.notSynchronized
  have htab := vx_table (x := yL_signs) B (hts _ (List.mem_of_getElem? (i := 0) rfl))
  subst hsz
  have hD := hD0.self (sz := s.heap.size)
  generalize hAe : va_A w s.heap.size = Aw at hD hZ ⊢
  have hA : ∀ q : Nat, s.heap.size ≤ q → Aw q := fun q h => by rw [← hAe]; exact Or.inr h
  have hS : va_S Aw s.heap s.heap [] := va_S.rf
  have hl := lv_entry ([.ref (r 0), .int a1]) (n := 4) (Nat.le_of_ble_eq_true rfl)
  rw [lg_entry_eq]
  generalize (lg_sl ([.ref (r 0), .int a1]) ++ List.replicate (4 - (lg_sl ([.ref (r 0), .int a1])).length) Slot.unset).toArray = ls at hl ⊢
  have hl : lv_has ls 4 [(0, .ref (r 0)), (1, .int a1)] := hl
  have hP : va_P G.1 vwCl (w ++ ([] : va_W)) s.heap := by rw [List.append_nil]; exact hP
  have hD : va_D Aw (w ++ ([] : va_W)) := by rw [List.append_nil]; exact hD
  refine lv_aload_n hx hb dL_signs_0 rfl (lv_at hl 0 rfl) ?_
  refine lv_iload_n hx hb dL_signs_1 rfl (lv_at hl 1 rfl) ?_
  refine z_xi (G := G) (w := w) (wr := ([] : va_W)) (vx_runV (As := [.int a1]) (rest := []) ⟨hx, hb, hml, hown, hts⟩ (c_X6_signs l hst G d r A mc g N T w K a1 s.heap.size hC hI hKk) (cwV 1 hts gL_signs_X6_signs rfl rfl rfl (by decide +kernel) ⟨Nat.le_of_ble_eq_true rfl, Nat.le_of_ble_eq_true rfl⟩) (z_wv hK (z_apL hP) (ci := 7) (q0 := 0) rfl (hC.1.1 0 (by omega)) (z_apL hP) (z_dL hD) hZ hS hA) rfl rfl hl.1 rfl (lv_room (Nat.le_of_ble_eq_true rfl)) dL_signs_2 ⟨Nat.le_of_eq (Nat.zero_add _), Nat.le_of_eq (Nat.zero_add _)⟩) hP hD hS hA (fun i E ce q9 Hz Lz hk hE hP hS hce hcv hcl => ?_) (fun rz w1 Hz Lz hq hP hD hS => ?_)
  · have hi : i < 1 := (List.getElem?_eq_some_iff.mp hE).1
    rw [List.append_nil] at hP hD
    obtain rfl : i = 0 := by omega
    have hE : E = "java/lang/IndexOutOfBoundsException" := (Option.some.inj hE).symm
    subst hE
    refine vx_catch (own := RL) (name := "java/lang/IndexOutOfBoundsException") hown [] ⟨0, 6, 9, 14⟩ [] htab (fun _ h => absurd h List.not_mem_nil) rfl (by decide) (hts (.classLink RL 14 "java/lang/IndexOutOfBoundsException") (List.mem_of_getElem? (i := 1) rfl)) (va_Nw.use (w := .castable "java/lang/IndexOutOfBoundsException" "java/lang/IndexOutOfBoundsException") rfl (hX.1 0 (by omega))) hce hcv hcl ?_
    refine lv_astore_n (lv' := [(3, .ref q9), (0, .ref (r 0)), (1, .int a1)]) hx hb dL_signs_9 rfl hl (by decide) rfl (fun ls hl => ?_)
    refine lv_sipush (v := (-7100)) hx hb dL_signs_10 (by decide) ?_
    exact vx_ret (z_widen (k := 2) (n := 12) (Nat.le_of_eq (Nat.zero_add _)) (Nat.le_of_eq (Nat.zero_add _)) (W.iret (v := (-7100)) hx hb hr (fun t ht hW => ⟨⟨(-7100), w, rfl, ⟨fun h => absurd (hk.symm.trans h) (by decide), fun _ => ⟨by rw [hk]; rfl, rfl⟩⟩, ⟨by rw [ht]; exact hP, hD⟩⟩, hS.F ht⟩) hS.2.2 dL_signs_13 hlocks))
  · obtain ⟨hk0, hra, hco⟩ := hq
    rw [hra]
    rw [List.append_nil] at hP hD
    refine lv_istore_n (lv' := [(2, .int (nI (rSigns N T a1.toNatClampNeg))), (0, .ref (r 0)), (1, .int a1)]) hx hb dL_signs_5 rfl hl (by decide) rfl (fun ls hl => ?_)
    refine lv_goto (tgt := 14) hx hb dL_signs_6 (by decide) ?_
    refine lv_iload_n hx hb dL_signs_14 rfl (lv_at hl 0 rfl) ?_
    exact vx_ret (z_widen (k := 2) (n := 12) (Nat.le_of_eq (Nat.zero_add _)) (Nat.le_of_eq (Nat.zero_add _)) (W.iret (v := (nI (rSigns N T a1.toNatClampNeg))) hx hb hr (fun t ht hW => ⟨⟨(nI (rSigns N T a1.toNatClampNeg)), w1, rfl, ⟨fun _ => ⟨rfl, hco⟩, fun h => absurd hk0 h⟩, ⟨by rw [ht]; exact hP, hD⟩⟩, hS.F ht⟩) hS.2.2 dL_signs_15 hlocks))

set_option maxHeartbeats 4000000 in
set_option maxRecDepth 100000 in
theorem h_signAt (l : Launch) (hst : l.stackTraces = false) (G : zG) (d : Nat) (r A : Nat → Nat) (mc : Nat → Int32) (g : Nat → Nat → Int32) (N : Nat → Nat) (T : Nat → Nat → Int32) (w : va_W) (K : Nat) (a1 a2 : Int32) (sz : Nat) (hC : sCQ G d r A mc g N T w) (hI : sInv N T K 0) (hKk : K ≤ 511) : vx_Met l yL_signAt wsL_signAt ({ frames := 8, cells := 2, slots := 12, locals := 133 }) (va_Pc [.ref (r 0), .int a1, .int a2] (zHu G d w sz)) (va_Qi (fun (r1 : Int32) (w1 : va_W) => (sK1 ((sIx a1 (N 5)) && (decide (0 ≤ a2))) = 0 → r1 = rSignAt N T a1 a2 false ∧ sCO G d r N T w1) ∧ (¬ sK1 ((sIx a1 (N 5)) && (decide (0 ≤ a2))) = 0 → r1 = zCx [-7100] (sK1 ((sIx a1 (N 5)) && (decide (0 ≤ a2)))) ∧ w1 = w)) (zB G (va_A w sz)) (va_A w sz)) (zXk [] 0) (2) (12) (va_A w sz) := by
  refine vx_ofWH (cc := cL_signAt) (maxL := 5) (ret := (some .int)) (hh := [(0, 7, 10, 14)]) (by decide) rfl ?_
  intro p e s m args below meth c s₁ B hml hv
  obtain ⟨rfl, ⟨hsz, hP, hK, hD0, hZ⟩, hX⟩ := hv
  have hx := B.exec
  have hb := B.bytes
  have hr := B.returns
  have hts := atoms_spec (ws := wsL_signAt) B.pre
  have hown : s.vm.findClass RL = some m.cls := findClass_of_methodNamed B.named
  have hlocks := B.notSynchronized
  have htab := vx_table (x := yL_signAt) B (hts _ (List.mem_of_getElem? (i := 0) rfl))
  subst hsz
  have hD := hD0.self (sz := s.heap.size)
  generalize hAe : va_A w s.heap.size = Aw at hD hZ ⊢
  have hA : ∀ q : Nat, s.heap.size ≤ q → Aw q := fun q h => by rw [← hAe]; exact Or.inr h
  have hS : va_S Aw s.heap s.heap [] := va_S.rf
  have hl := lv_entry ([.ref (r 0), .int a1, .int a2]) (n := 5) (Nat.le_of_ble_eq_true rfl)
  rw [lg_entry_eq]
  generalize (lg_sl ([.ref (r 0), .int a1, .int a2]) ++ List.replicate (5 - (lg_sl ([.ref (r 0), .int a1, .int a2])).length) Slot.unset).toArray = ls at hl ⊢
  have hl : lv_has ls 5 [(0, .ref (r 0)), (1, .int a1), (2, .int a2)] := hl
  have hP : va_P G.1 vwCl (w ++ ([] : va_W)) s.heap := by rw [List.append_nil]; exact hP
  have hD : va_D Aw (w ++ ([] : va_W)) := by rw [List.append_nil]; exact hD
  refine lv_aload_n hx hb dL_signAt_0 rfl (lv_at hl 0 rfl) ?_
  refine lv_iload_n hx hb dL_signAt_1 rfl (lv_at hl 1 rfl) ?_
  refine lv_iload_n hx hb dL_signAt_2 rfl (lv_at hl 2 rfl) ?_
  refine z_xi (G := G) (w := w) (wr := ([] : va_W)) (vx_runV (As := [.int a1, .int a2]) (rest := []) ⟨hx, hb, hml, hown, hts⟩ (c_X6_signAt l hst G d r A mc g N T w K a1 a2 s.heap.size hC hI hKk) (cwV 2 hts gL_signAt_X6_signAt rfl rfl rfl (by decide +kernel) ⟨Nat.le_of_ble_eq_true rfl, Nat.le_of_ble_eq_true rfl⟩) (z_wv hK (z_apL hP) (ci := 7) (q0 := 0) rfl (hC.1.1 0 (by omega)) (z_apL hP) (z_dL hD) hZ hS hA) rfl rfl hl.1 rfl (lv_room (Nat.le_of_ble_eq_true rfl)) dL_signAt_3 ⟨Nat.le_of_eq (Nat.zero_add _), Nat.le_of_eq (Nat.zero_add _)⟩) hP hD hS hA (fun i E ce q9 Hz Lz hk hE hP hS hce hcv hcl => ?_) (fun rz w1 Hz Lz hq hP hD hS => ?_)
  · have hi : i < 1 := (List.getElem?_eq_some_iff.mp hE).1
    rw [List.append_nil] at hP hD
    obtain rfl : i = 0 := by omega
    have hE : E = "java/lang/IndexOutOfBoundsException" := (Option.some.inj hE).symm
    subst hE
    refine vx_catch (own := RL) (name := "java/lang/IndexOutOfBoundsException") hown [] ⟨0, 7, 10, 14⟩ [] htab (fun _ h => absurd h List.not_mem_nil) rfl (by decide) (hts (.classLink RL 14 "java/lang/IndexOutOfBoundsException") (List.mem_of_getElem? (i := 1) rfl)) (va_Nw.use (w := .castable "java/lang/IndexOutOfBoundsException" "java/lang/IndexOutOfBoundsException") rfl (hX.1 0 (by omega))) hce hcv hcl ?_
    refine lv_astore (lv' := [(4, .ref q9), (0, .ref (r 0)), (1, .int a1), (2, .int a2)]) hx hb dL_signAt_10 hl (by decide) rfl (fun ls hl => ?_)
    refine lv_sipush (v := (-7100)) hx hb dL_signAt_12 (by decide) ?_
    exact vx_ret (z_widen (k := 2) (n := 12) (Nat.le_of_eq (Nat.zero_add _)) (Nat.le_of_eq (Nat.zero_add _)) (W.iret (v := (-7100)) hx hb hr (fun t ht hW => ⟨⟨(-7100), w, rfl, ⟨fun h => absurd (hk.symm.trans h) (by decide), fun _ => ⟨by rw [hk]; rfl, rfl⟩⟩, ⟨by rw [ht]; exact hP, hD⟩⟩, hS.F ht⟩) hS.2.2 dL_signAt_15 hlocks))
  · obtain ⟨hk0, hra, hco⟩ := hq
    rw [hra]
    rw [List.append_nil] at hP hD
    refine lv_istore_n (lv' := [(3, .int (rSignAt N T a1 a2 false)), (0, .ref (r 0)), (1, .int a1), (2, .int a2)]) hx hb dL_signAt_6 rfl hl (by decide) rfl (fun ls hl => ?_)
    refine lv_goto (tgt := 16) hx hb dL_signAt_7 (by decide) ?_
    refine lv_iload_n hx hb dL_signAt_16 rfl (lv_at hl 0 rfl) ?_
    exact vx_ret (z_widen (k := 2) (n := 12) (Nat.le_of_eq (Nat.zero_add _)) (Nat.le_of_eq (Nat.zero_add _)) (W.iret (v := (rSignAt N T a1 a2 false)) hx hb hr (fun t ht hW => ⟨⟨(rSignAt N T a1 a2 false), w1, rfl, ⟨fun _ => ⟨rfl, hco⟩, fun h => absurd hk0 h⟩, ⟨by rw [ht]; exact hP, hD⟩⟩, hS.F ht⟩) hS.2.2 dL_signAt_17 hlocks))

set_option maxHeartbeats 4000000 in
set_option maxRecDepth 100000 in
theorem h_signBack (l : Launch) (hst : l.stackTraces = false) (G : zG) (d : Nat) (r A : Nat → Nat) (mc : Nat → Int32) (g : Nat → Nat → Int32) (N : Nat → Nat) (T : Nat → Nat → Int32) (w : va_W) (K : Nat) (a1 a2 : Int32) (sz : Nat) (hC : sCQ G d r A mc g N T w) (hI : sInv N T K 0) (hKk : K ≤ 511) : vx_Met l yL_signBack wsL_signBack ({ frames := 8, cells := 2, slots := 12, locals := 134 }) (va_Pc [.ref (r 0), .int a1, .int a2] (zHu G d w sz)) (va_Qi (fun (r1 : Int32) (w1 : va_W) => (sK1 ((sIx a1 (N 5)) && (decide (0 ≤ a2))) = 0 → r1 = rSignAt N T a1 a2 true ∧ sCO G d r N T w1) ∧ (¬ sK1 ((sIx a1 (N 5)) && (decide (0 ≤ a2))) = 0 → r1 = zCx [-7100] (sK1 ((sIx a1 (N 5)) && (decide (0 ≤ a2)))) ∧ w1 = w)) (zB G (va_A w sz)) (va_A w sz)) (zXk [] 0) (2) (12) (va_A w sz) := by
  refine vx_ofWH (cc := cL_signBack) (maxL := 5) (ret := (some .int)) (hh := [(0, 7, 10, 14)]) (by decide) rfl ?_
  intro p e s m args below meth c s₁ B hml hv
  obtain ⟨rfl, ⟨hsz, hP, hK, hD0, hZ⟩, hX⟩ := hv
  have hx := B.exec
  have hb := B.bytes
  have hr := B.returns
  have hts := atoms_spec (ws := wsL_signBack) B.pre
  have hown : s.vm.findClass RL = some m.cls := findClass_of_methodNamed B.named
  have hlocks := B.notSynchronized
  have htab := vx_table (x := yL_signBack) B (hts _ (List.mem_of_getElem? (i := 0) rfl))
  subst hsz
  have hD := hD0.self (sz := s.heap.size)
  generalize hAe : va_A w s.heap.size = Aw at hD hZ ⊢
  have hA : ∀ q : Nat, s.heap.size ≤ q → Aw q := fun q h => by rw [← hAe]; exact Or.inr h
  have hS : va_S Aw s.heap s.heap [] := va_S.rf
  have hl := lv_entry ([.ref (r 0), .int a1, .int a2]) (n := 5) (Nat.le_of_ble_eq_true rfl)
  rw [lg_entry_eq]
  generalize (lg_sl ([.ref (r 0), .int a1, .int a2]) ++ List.replicate (5 - (lg_sl ([.ref (r 0), .int a1, .int a2])).length) Slot.unset).toArray = ls at hl ⊢
  have hl : lv_has ls 5 [(0, .ref (r 0)), (1, .int a1), (2, .int a2)] := hl
  have hP : va_P G.1 vwCl (w ++ ([] : va_W)) s.heap := by rw [List.append_nil]; exact hP
  have hD : va_D Aw (w ++ ([] : va_W)) := by rw [List.append_nil]; exact hD
  refine lv_aload_n hx hb dL_signBack_0 rfl (lv_at hl 0 rfl) ?_
  refine lv_iload_n hx hb dL_signBack_1 rfl (lv_at hl 1 rfl) ?_
  refine lv_iload_n hx hb dL_signBack_2 rfl (lv_at hl 2 rfl) ?_
  refine z_xi (G := G) (w := w) (wr := ([] : va_W)) (vx_runV (As := [.int a1, .int a2]) (rest := []) ⟨hx, hb, hml, hown, hts⟩ (c_X6_signBack l hst G d r A mc g N T w K a1 a2 s.heap.size hC hI hKk) (cwV 2 hts gL_signBack_X6_signBack rfl rfl rfl (by decide +kernel) ⟨Nat.le_of_ble_eq_true rfl, Nat.le_of_ble_eq_true rfl⟩) (z_wv hK (z_apL hP) (ci := 7) (q0 := 0) rfl (hC.1.1 0 (by omega)) (z_apL hP) (z_dL hD) hZ hS hA) rfl rfl hl.1 rfl (lv_room (Nat.le_of_ble_eq_true rfl)) dL_signBack_3 ⟨Nat.le_of_eq (Nat.zero_add _), Nat.le_of_eq (Nat.zero_add _)⟩) hP hD hS hA (fun i E ce q9 Hz Lz hk hE hP hS hce hcv hcl => ?_) (fun rz w1 Hz Lz hq hP hD hS => ?_)
  · have hi : i < 1 := (List.getElem?_eq_some_iff.mp hE).1
    rw [List.append_nil] at hP hD
    obtain rfl : i = 0 := by omega
    have hE : E = "java/lang/IndexOutOfBoundsException" := (Option.some.inj hE).symm
    subst hE
    refine vx_catch (own := RL) (name := "java/lang/IndexOutOfBoundsException") hown [] ⟨0, 7, 10, 14⟩ [] htab (fun _ h => absurd h List.not_mem_nil) rfl (by decide) (hts (.classLink RL 14 "java/lang/IndexOutOfBoundsException") (List.mem_of_getElem? (i := 1) rfl)) (va_Nw.use (w := .castable "java/lang/IndexOutOfBoundsException" "java/lang/IndexOutOfBoundsException") rfl (hX.1 0 (by omega))) hce hcv hcl ?_
    refine lv_astore (lv' := [(4, .ref q9), (0, .ref (r 0)), (1, .int a1), (2, .int a2)]) hx hb dL_signBack_10 hl (by decide) rfl (fun ls hl => ?_)
    refine lv_sipush (v := (-7100)) hx hb dL_signBack_12 (by decide) ?_
    exact vx_ret (z_widen (k := 2) (n := 12) (Nat.le_of_eq (Nat.zero_add _)) (Nat.le_of_eq (Nat.zero_add _)) (W.iret (v := (-7100)) hx hb hr (fun t ht hW => ⟨⟨(-7100), w, rfl, ⟨fun h => absurd (hk.symm.trans h) (by decide), fun _ => ⟨by rw [hk]; rfl, rfl⟩⟩, ⟨by rw [ht]; exact hP, hD⟩⟩, hS.F ht⟩) hS.2.2 dL_signBack_15 hlocks))
  · obtain ⟨hk0, hra, hco⟩ := hq
    rw [hra]
    rw [List.append_nil] at hP hD
    refine lv_istore_n (lv' := [(3, .int (rSignAt N T a1 a2 true)), (0, .ref (r 0)), (1, .int a1), (2, .int a2)]) hx hb dL_signBack_6 rfl hl (by decide) rfl (fun ls hl => ?_)
    refine lv_goto (tgt := 16) hx hb dL_signBack_7 (by decide) ?_
    refine lv_iload_n hx hb dL_signBack_16 rfl (lv_at hl 0 rfl) ?_
    exact vx_ret (z_widen (k := 2) (n := 12) (Nat.le_of_eq (Nat.zero_add _)) (Nat.le_of_eq (Nat.zero_add _)) (W.iret (v := (rSignAt N T a1 a2 true)) hx hb hr (fun t ht hW => ⟨⟨(rSignAt N T a1 a2 true), w1, rfl, ⟨fun _ => ⟨rfl, hco⟩, fun h => absurd hk0 h⟩, ⟨by rw [ht]; exact hP, hD⟩⟩, hS.F ht⟩) hS.2.2 dL_signBack_17 hlocks))
