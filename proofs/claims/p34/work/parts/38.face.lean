set_option maxHeartbeats 4000000 in
set_option maxRecDepth 100000 in
theorem c_X4_init (l : Launch) (G : zG) (d : Nat) (w : va_W) (kv b : Nat) (a1 a2 : Int32) (sz : Nat) (hhv : w[kv]? = some (b, .inr (5, [.int 0, .int 0, .int 0, .int 0]))) : Met l yX4_init wsX4_init ({ frames := 1, cells := 0, slots := 0, locals := 13 }) (va_Pc [.ref b, .int a1, .int a2] (zCu G d w sz)) (va_Qv (fun w1 : va_W => w1 = w.set kv (b, .inr (5, [.int a1, .int a2, .int (-1), .int 0]))) (zB G (va_A w sz)) (va_A w sz)) (0) (0) (va_A w sz) := by
  refine Met.ofW (cc := cX4_init) (maxL := 3) (ret := none) (by decide) rfl ?_
  intro p e s m args below meth c s₁ B hml hv
  obtain ⟨rfl, hsz, hP, hK, hD0, hZ⟩ := hv
  have hx := B.exec
  have hb := B.bytes
  have hr := B.returns
  have hts := atoms_spec (ws := wsX4_init) B.pre
  have hown : s.vm.findClass RX4 = some m.cls := findClass_of_methodNamed B.named
  have hlocks := B.notSynchronized
  have hin : meth.name = "<init>" := (name_of_methodNamed B.named B.method).1
  have hi_X4 : ∀ w ∈ u_ws RX4 TX4 4, w ∈ wsX4_init := (fun _ h => List.mem_cons_of_mem _ (List.mem_append_right _ h))
  have hNs := hZ.1.2.2
  have hS0 : va_S (fun _ => False) s.heap s.heap [] := va_S.rf
  subst hsz
  have hD := hD0.self (sz := s.heap.size)
  generalize hAe : va_A w s.heap.size = Aw at hD hZ ⊢
  have hA : ∀ q : Nat, s.heap.size ≤ q → Aw q := fun q h => by rw [← hAe]; exact Or.inr h
  have hS : va_S Aw s.heap s.heap [] := va_S.rf
  have hl := lv_entry ([.ref b, .int a1, .int a2]) (n := 3) (Nat.le_of_ble_eq_true rfl)
  rw [lg_entry_eq]
  generalize (lg_sl ([.ref b, .int a1, .int a2]) ++ List.replicate (3 - (lg_sl ([.ref b, .int a1, .int a2])).length) Slot.unset).toArray = ls at hl ⊢
  have hl : lv_has ls 3 [(0, .ref b), (1, .int a1), (2, .int a2)] := hl
  refine lv_aload_n hx hb dX4_init_0 rfl (lv_at hl 0 rfl) ?_
  refine W.objInit hx hb hown (hts (.methodLink RX4 3 objectInit) (List.mem_of_getElem? (i := 1) rfl)) (hts (.instanceMethod objectInit) (List.mem_of_getElem? (i := 2) rfl)) (hts _ (List.mem_of_getElem? (i := 3) rfl)) rfl (by rw [hml]; exact hl.1) rfl dX4_init_1 (Nat.le_of_ble_eq_true rfl) (Nat.le_of_ble_eq_true rfl) ?_
  refine W.eq (g2 := F0 m 4 ls []) rfl ?_
  refine lv_aload_n hx hb dX4_init_4 rfl (lv_at hl 0 rfl) ?_
  refine lv_iconst (v := (-1)) hx hb dX4_init_5 (by decide) ?_
  refine va_put (D := G.1) (ci := 5) (v := .int (-1)) (ty := .int) (C := RX4) (T := TX4) (N := 4) hx hb hts hi_X4 tyX4 tyX4_ok nmX4 hown hK hP hD hS kv hhv rfl 2 (by decide) (hts (.fieldLink RX4 9 "BoilerLog$Tag" "firstAsker" "I") (List.mem_of_getElem? (i := 4) rfl)) (fun _ h9 => h9) rfl (by decide +kernel) rfl rfl (Nat.le_of_ble_eq_true rfl) dX4_init_6 (fun Hz Lz hP hD hS => ?_)
  have hP : va_P G.1 vwCl (w.set kv (b, .inr (5, [.int 0, .int 0, .int (-1), .int 0]))) Hz := hP
  have hD : va_D Aw (w.set kv (b, .inr (5, [.int 0, .int 0, .int (-1), .int 0]))) := hD
  have hhv : (w.set kv (b, .inr (5, [.int 0, .int 0, .int (-1), .int 0])))[kv]? = some (b, .inr (5, [.int 0, .int 0, .int (-1), .int 0])) := z_self hhv
  refine lv_aload_n hx hb dX4_init_9 rfl (lv_at hl 0 rfl) ?_
  refine lv_iconst (v := 0) hx hb dX4_init_10 (by decide) ?_
  refine va_put (D := G.1) (ci := 5) (v := .int 0) (ty := .boolean) (C := RX4) (T := TX4) (N := 4) hx hb hts hi_X4 tyX4 tyX4_ok nmX4 hown hK hP hD hS kv hhv rfl 3 (by decide) (hts (.fieldLink RX4 15 "BoilerLog$Tag" "off" "Z") (List.mem_of_getElem? (i := 5) rfl)) (fun _ h9 => h9) rfl (by decide +kernel) rfl rfl (Nat.le_of_ble_eq_true rfl) dX4_init_11 (fun Hz Lz hP hD hS => ?_)
  have hP : va_P G.1 vwCl ((w.set kv (b, .inr (5, [.int 0, .int 0, .int (-1), .int 0]))).set kv (b, .inr (5, [.int 0, .int 0, .int (-1), .int 0]))) Hz := hP
  have hD : va_D Aw ((w.set kv (b, .inr (5, [.int 0, .int 0, .int (-1), .int 0]))).set kv (b, .inr (5, [.int 0, .int 0, .int (-1), .int 0]))) := hD
  have hhv : ((w.set kv (b, .inr (5, [.int 0, .int 0, .int (-1), .int 0]))).set kv (b, .inr (5, [.int 0, .int 0, .int (-1), .int 0])))[kv]? = some (b, .inr (5, [.int 0, .int 0, .int (-1), .int 0])) := z_self hhv
  refine lv_aload_n hx hb dX4_init_14 rfl (lv_at hl 0 rfl) ?_
  refine lv_iload_n hx hb dX4_init_15 rfl (lv_at hl 1 rfl) ?_
  refine va_putF (D := G.1) (ci := 5) (v := .int a1) (ty := .int) (C := RX4) (T := TX4) (N := 4) hx hb hts hi_X4 tyX4 tyX4_ok nmX4 hown hK hP hD hS kv hhv rfl 0 (by decide) (hts (.fieldLink RX4 19 "BoilerLog$Tag" "owner" "I") (List.mem_of_getElem? (i := 6) rfl)) (fun _ h9 => h9) rfl hin rfl (by decide +kernel) rfl rfl (Nat.le_of_ble_eq_true rfl) dX4_init_16 (fun Hz Lz hP hD hS => ?_)
  have hP : va_P G.1 vwCl (((w.set kv (b, .inr (5, [.int 0, .int 0, .int (-1), .int 0]))).set kv (b, .inr (5, [.int 0, .int 0, .int (-1), .int 0]))).set kv (b, .inr (5, [.int a1, .int 0, .int (-1), .int 0]))) Hz := hP
  have hD : va_D Aw (((w.set kv (b, .inr (5, [.int 0, .int 0, .int (-1), .int 0]))).set kv (b, .inr (5, [.int 0, .int 0, .int (-1), .int 0]))).set kv (b, .inr (5, [.int a1, .int 0, .int (-1), .int 0]))) := hD
  have hhv : (((w.set kv (b, .inr (5, [.int 0, .int 0, .int (-1), .int 0]))).set kv (b, .inr (5, [.int 0, .int 0, .int (-1), .int 0]))).set kv (b, .inr (5, [.int a1, .int 0, .int (-1), .int 0])))[kv]? = some (b, .inr (5, [.int a1, .int 0, .int (-1), .int 0])) := z_self hhv
  refine lv_aload_n hx hb dX4_init_19 rfl (lv_at hl 0 rfl) ?_
  refine lv_iload_n hx hb dX4_init_20 rfl (lv_at hl 2 rfl) ?_
  refine va_putF (D := G.1) (ci := 5) (v := .int a2) (ty := .int) (C := RX4) (T := TX4) (N := 4) hx hb hts hi_X4 tyX4 tyX4_ok nmX4 hown hK hP hD hS kv hhv rfl 1 (by decide) (hts (.fieldLink RX4 22 "BoilerLog$Tag" "valve" "I") (List.mem_of_getElem? (i := 7) rfl)) (fun _ h9 => h9) rfl hin rfl (by decide +kernel) rfl rfl (Nat.le_of_ble_eq_true rfl) dX4_init_21 (fun Hz Lz hP hD hS => ?_)
  have hP : va_P G.1 vwCl ((((w.set kv (b, .inr (5, [.int 0, .int 0, .int (-1), .int 0]))).set kv (b, .inr (5, [.int 0, .int 0, .int (-1), .int 0]))).set kv (b, .inr (5, [.int a1, .int 0, .int (-1), .int 0]))).set kv (b, .inr (5, [.int a1, .int a2, .int (-1), .int 0]))) Hz := hP
  have hD : va_D Aw ((((w.set kv (b, .inr (5, [.int 0, .int 0, .int (-1), .int 0]))).set kv (b, .inr (5, [.int 0, .int 0, .int (-1), .int 0]))).set kv (b, .inr (5, [.int a1, .int 0, .int (-1), .int 0]))).set kv (b, .inr (5, [.int a1, .int a2, .int (-1), .int 0]))) := hD
  have hhv : ((((w.set kv (b, .inr (5, [.int 0, .int 0, .int (-1), .int 0]))).set kv (b, .inr (5, [.int 0, .int 0, .int (-1), .int 0]))).set kv (b, .inr (5, [.int a1, .int 0, .int (-1), .int 0]))).set kv (b, .inr (5, [.int a1, .int a2, .int (-1), .int 0])))[kv]? = some (b, .inr (5, [.int a1, .int a2, .int (-1), .int 0])) := z_self hhv
  exact z_widen (k := 0) (n := 0) (show 0 ≤ 0 by omega) (show 0 ≤ 0 by omega) (W.vret hx hb hr (fun t ht hW => ⟨⟨((((w.set kv (b, .inr (5, [.int 0, .int 0, .int (-1), .int 0]))).set kv (b, .inr (5, [.int 0, .int 0, .int (-1), .int 0]))).set kv (b, .inr (5, [.int a1, .int 0, .int (-1), .int 0]))).set kv (b, .inr (5, [.int a1, .int a2, .int (-1), .int 0]))), rfl, (by simp only [List.set_set]), ⟨by rw [ht]; exact hP, hD⟩⟩, hS.F ht⟩) hS.2.2 dX4_init_24 hlocks)

set_option maxHeartbeats 4000000 in
set_option maxRecDepth 100000 in
theorem c_X0_init (l : Launch) (G : zG) (d : Nat) (w : va_W) (kv b : Nat) (a1 a2 : Int32) (b3 : Bool) (a4 : Int32) (b5 : Bool) (sz : Nat) (hhv : w[kv]? = some (b, .inr (1, [.int 0, .int 0, .int 0, .int 0, .int 0, .int 0]))) : Met l yX0_init wsX0_init ({ frames := 1, cells := 0, slots := 0, locals := 13 }) (va_Pc [.ref b, .int a1, .int a2, .int (zb b3), .int a4, .int (zb b5)] (zCu G d w sz)) (va_Qv (fun w1 : va_W => w1 = w.set kv (b, .inr (1, [.int a1, .int a2, .int (zb b3), .int a4, .int (zb b5), .int 0]))) (zB G (va_A w sz)) (va_A w sz)) (0) (0) (va_A w sz) := by
  refine Met.ofW (cc := cX0_init) (maxL := 6) (ret := none) (by decide) rfl ?_
  intro p e s m args below meth c s₁ B hml hv
  obtain ⟨rfl, hsz, hP, hK, hD0, hZ⟩ := hv
  have hx := B.exec
  have hb := B.bytes
  have hr := B.returns
  have hts := atoms_spec (ws := wsX0_init) B.pre
  have hown : s.vm.findClass RX0 = some m.cls := findClass_of_methodNamed B.named
  have hlocks := B.notSynchronized
  have hin : meth.name = "<init>" := (name_of_methodNamed B.named B.method).1
  have hi_X0 : ∀ w ∈ u_ws RX0 TX0 6, w ∈ wsX0_init := (fun _ h => List.mem_cons_of_mem _ (List.mem_append_right _ h))
  have hNs := hZ.1.2.2
  have hS0 : va_S (fun _ => False) s.heap s.heap [] := va_S.rf
  subst hsz
  have hD := hD0.self (sz := s.heap.size)
  generalize hAe : va_A w s.heap.size = Aw at hD hZ ⊢
  have hA : ∀ q : Nat, s.heap.size ≤ q → Aw q := fun q h => by rw [← hAe]; exact Or.inr h
  have hS : va_S Aw s.heap s.heap [] := va_S.rf
  have hl := lv_entry ([.ref b, .int a1, .int a2, .int (zb b3), .int a4, .int (zb b5)]) (n := 6) (Nat.le_of_ble_eq_true rfl)
  rw [lg_entry_eq]
  generalize (lg_sl ([.ref b, .int a1, .int a2, .int (zb b3), .int a4, .int (zb b5)]) ++ List.replicate (6 - (lg_sl ([.ref b, .int a1, .int a2, .int (zb b3), .int a4, .int (zb b5)])).length) Slot.unset).toArray = ls at hl ⊢
  have hl : lv_has ls 6 [(0, .ref b), (1, .int a1), (2, .int a2), (3, .int (zb b3)), (4, .int a4), (5, .int (zb b5))] := hl
  refine lv_aload_n hx hb dX0_init_0 rfl (lv_at hl 0 rfl) ?_
  refine W.objInit hx hb hown (hts (.methodLink RX0 3 objectInit) (List.mem_of_getElem? (i := 1) rfl)) (hts (.instanceMethod objectInit) (List.mem_of_getElem? (i := 2) rfl)) (hts _ (List.mem_of_getElem? (i := 3) rfl)) rfl (by rw [hml]; exact hl.1) rfl dX0_init_1 (Nat.le_of_ble_eq_true rfl) (Nat.le_of_ble_eq_true rfl) ?_
  refine W.eq (g2 := F0 m 4 ls []) rfl ?_
  refine lv_aload_n hx hb dX0_init_4 rfl (lv_at hl 0 rfl) ?_
  refine lv_iconst (v := 0) hx hb dX0_init_5 (by decide) ?_
  refine va_put (D := G.1) (ci := 1) (v := .int 0) (ty := .int) (C := RX0) (T := TX0) (N := 6) hx hb hts hi_X0 tyX0 tyX0_ok nmX0 hown hK hP hD hS kv hhv rfl 5 (by decide) (hts (.fieldLink RX0 9 "BoilerLog$Alarm" "state" "I") (List.mem_of_getElem? (i := 4) rfl)) (fun _ h9 => h9) rfl (by decide +kernel) rfl rfl (Nat.le_of_ble_eq_true rfl) dX0_init_6 (fun Hz Lz hP hD hS => ?_)
  have hP : va_P G.1 vwCl (w.set kv (b, .inr (1, [.int 0, .int 0, .int 0, .int 0, .int 0, .int 0]))) Hz := hP
  have hD : va_D Aw (w.set kv (b, .inr (1, [.int 0, .int 0, .int 0, .int 0, .int 0, .int 0]))) := hD
  have hhv : (w.set kv (b, .inr (1, [.int 0, .int 0, .int 0, .int 0, .int 0, .int 0])))[kv]? = some (b, .inr (1, [.int 0, .int 0, .int 0, .int 0, .int 0, .int 0])) := z_self hhv
  refine lv_aload_n hx hb dX0_init_9 rfl (lv_at hl 0 rfl) ?_
  refine lv_iload_n hx hb dX0_init_10 rfl (lv_at hl 1 rfl) ?_
  refine va_putF (D := G.1) (ci := 1) (v := .int a1) (ty := .int) (C := RX0) (T := TX0) (N := 6) hx hb hts hi_X0 tyX0 tyX0_ok nmX0 hown hK hP hD hS kv hhv rfl 0 (by decide) (hts (.fieldLink RX0 15 "BoilerLog$Alarm" "vessel" "I") (List.mem_of_getElem? (i := 5) rfl)) (fun _ h9 => h9) rfl hin rfl (by decide +kernel) rfl rfl (Nat.le_of_ble_eq_true rfl) dX0_init_11 (fun Hz Lz hP hD hS => ?_)
  have hP : va_P G.1 vwCl ((w.set kv (b, .inr (1, [.int 0, .int 0, .int 0, .int 0, .int 0, .int 0]))).set kv (b, .inr (1, [.int a1, .int 0, .int 0, .int 0, .int 0, .int 0]))) Hz := hP
  have hD : va_D Aw ((w.set kv (b, .inr (1, [.int 0, .int 0, .int 0, .int 0, .int 0, .int 0]))).set kv (b, .inr (1, [.int a1, .int 0, .int 0, .int 0, .int 0, .int 0]))) := hD
  have hhv : ((w.set kv (b, .inr (1, [.int 0, .int 0, .int 0, .int 0, .int 0, .int 0]))).set kv (b, .inr (1, [.int a1, .int 0, .int 0, .int 0, .int 0, .int 0])))[kv]? = some (b, .inr (1, [.int a1, .int 0, .int 0, .int 0, .int 0, .int 0])) := z_self hhv
  refine lv_aload_n hx hb dX0_init_14 rfl (lv_at hl 0 rfl) ?_
  refine lv_iload_n hx hb dX0_init_15 rfl (lv_at hl 2 rfl) ?_
  refine va_putF (D := G.1) (ci := 1) (v := .int a2) (ty := .int) (C := RX0) (T := TX0) (N := 6) hx hb hts hi_X0 tyX0 tyX0_ok nmX0 hown hK hP hD hS kv hhv rfl 1 (by decide) (hts (.fieldLink RX0 18 "BoilerLog$Alarm" "limit" "I") (List.mem_of_getElem? (i := 6) rfl)) (fun _ h9 => h9) rfl hin rfl (by decide +kernel) rfl rfl (Nat.le_of_ble_eq_true rfl) dX0_init_16 (fun Hz Lz hP hD hS => ?_)
  have hP : va_P G.1 vwCl (((w.set kv (b, .inr (1, [.int 0, .int 0, .int 0, .int 0, .int 0, .int 0]))).set kv (b, .inr (1, [.int a1, .int 0, .int 0, .int 0, .int 0, .int 0]))).set kv (b, .inr (1, [.int a1, .int a2, .int 0, .int 0, .int 0, .int 0]))) Hz := hP
  have hD : va_D Aw (((w.set kv (b, .inr (1, [.int 0, .int 0, .int 0, .int 0, .int 0, .int 0]))).set kv (b, .inr (1, [.int a1, .int 0, .int 0, .int 0, .int 0, .int 0]))).set kv (b, .inr (1, [.int a1, .int a2, .int 0, .int 0, .int 0, .int 0]))) := hD
  have hhv : (((w.set kv (b, .inr (1, [.int 0, .int 0, .int 0, .int 0, .int 0, .int 0]))).set kv (b, .inr (1, [.int a1, .int 0, .int 0, .int 0, .int 0, .int 0]))).set kv (b, .inr (1, [.int a1, .int a2, .int 0, .int 0, .int 0, .int 0])))[kv]? = some (b, .inr (1, [.int a1, .int a2, .int 0, .int 0, .int 0, .int 0])) := z_self hhv
  refine lv_aload_n hx hb dX0_init_19 rfl (lv_at hl 0 rfl) ?_
  refine lv_iload_n hx hb dX0_init_20 rfl (lv_at hl 3 rfl) ?_
  refine va_putF (D := G.1) (ci := 1) (v := .int (zb b3)) (ty := .boolean) (C := RX0) (T := TX0) (N := 6) hx hb hts hi_X0 tyX0 tyX0_ok nmX0 hown hK hP hD hS kv hhv rfl 2 (by decide) (hts (.fieldLink RX0 21 "BoilerLog$Alarm" "high" "Z") (List.mem_of_getElem? (i := 7) rfl)) (fun _ h9 => h9) rfl hin rfl (by decide +kernel) (zn_zb _) (zf_zb _) (Nat.le_of_ble_eq_true rfl) dX0_init_21 (fun Hz Lz hP hD hS => ?_)
  have hP : va_P G.1 vwCl ((((w.set kv (b, .inr (1, [.int 0, .int 0, .int 0, .int 0, .int 0, .int 0]))).set kv (b, .inr (1, [.int a1, .int 0, .int 0, .int 0, .int 0, .int 0]))).set kv (b, .inr (1, [.int a1, .int a2, .int 0, .int 0, .int 0, .int 0]))).set kv (b, .inr (1, [.int a1, .int a2, .int (zb b3), .int 0, .int 0, .int 0]))) Hz := hP
  have hD : va_D Aw ((((w.set kv (b, .inr (1, [.int 0, .int 0, .int 0, .int 0, .int 0, .int 0]))).set kv (b, .inr (1, [.int a1, .int 0, .int 0, .int 0, .int 0, .int 0]))).set kv (b, .inr (1, [.int a1, .int a2, .int 0, .int 0, .int 0, .int 0]))).set kv (b, .inr (1, [.int a1, .int a2, .int (zb b3), .int 0, .int 0, .int 0]))) := hD
  have hhv : ((((w.set kv (b, .inr (1, [.int 0, .int 0, .int 0, .int 0, .int 0, .int 0]))).set kv (b, .inr (1, [.int a1, .int 0, .int 0, .int 0, .int 0, .int 0]))).set kv (b, .inr (1, [.int a1, .int a2, .int 0, .int 0, .int 0, .int 0]))).set kv (b, .inr (1, [.int a1, .int a2, .int (zb b3), .int 0, .int 0, .int 0])))[kv]? = some (b, .inr (1, [.int a1, .int a2, .int (zb b3), .int 0, .int 0, .int 0])) := z_self hhv
  refine lv_aload_n hx hb dX0_init_24 rfl (lv_at hl 0 rfl) ?_
  refine lv_iload hx hb dX0_init_25 (lv_at hl 4 rfl) ?_
  refine va_putF (D := G.1) (ci := 1) (v := .int a4) (ty := .int) (C := RX0) (T := TX0) (N := 6) hx hb hts hi_X0 tyX0 tyX0_ok nmX0 hown hK hP hD hS kv hhv rfl 3 (by decide) (hts (.fieldLink RX0 25 "BoilerLog$Alarm" "valve" "I") (List.mem_of_getElem? (i := 8) rfl)) (fun _ h9 => h9) rfl hin rfl (by decide +kernel) rfl rfl (Nat.le_of_ble_eq_true rfl) dX0_init_27 (fun Hz Lz hP hD hS => ?_)
  have hP : va_P G.1 vwCl (((((w.set kv (b, .inr (1, [.int 0, .int 0, .int 0, .int 0, .int 0, .int 0]))).set kv (b, .inr (1, [.int a1, .int 0, .int 0, .int 0, .int 0, .int 0]))).set kv (b, .inr (1, [.int a1, .int a2, .int 0, .int 0, .int 0, .int 0]))).set kv (b, .inr (1, [.int a1, .int a2, .int (zb b3), .int 0, .int 0, .int 0]))).set kv (b, .inr (1, [.int a1, .int a2, .int (zb b3), .int a4, .int 0, .int 0]))) Hz := hP
  have hD : va_D Aw (((((w.set kv (b, .inr (1, [.int 0, .int 0, .int 0, .int 0, .int 0, .int 0]))).set kv (b, .inr (1, [.int a1, .int 0, .int 0, .int 0, .int 0, .int 0]))).set kv (b, .inr (1, [.int a1, .int a2, .int 0, .int 0, .int 0, .int 0]))).set kv (b, .inr (1, [.int a1, .int a2, .int (zb b3), .int 0, .int 0, .int 0]))).set kv (b, .inr (1, [.int a1, .int a2, .int (zb b3), .int a4, .int 0, .int 0]))) := hD
  have hhv : (((((w.set kv (b, .inr (1, [.int 0, .int 0, .int 0, .int 0, .int 0, .int 0]))).set kv (b, .inr (1, [.int a1, .int 0, .int 0, .int 0, .int 0, .int 0]))).set kv (b, .inr (1, [.int a1, .int a2, .int 0, .int 0, .int 0, .int 0]))).set kv (b, .inr (1, [.int a1, .int a2, .int (zb b3), .int 0, .int 0, .int 0]))).set kv (b, .inr (1, [.int a1, .int a2, .int (zb b3), .int a4, .int 0, .int 0])))[kv]? = some (b, .inr (1, [.int a1, .int a2, .int (zb b3), .int a4, .int 0, .int 0])) := z_self hhv
  refine lv_aload_n hx hb dX0_init_30 rfl (lv_at hl 0 rfl) ?_
  refine lv_iload hx hb dX0_init_31 (lv_at hl 5 rfl) ?_
  refine va_putF (D := G.1) (ci := 1) (v := .int (zb b5)) (ty := .boolean) (C := RX0) (T := TX0) (N := 6) hx hb hts hi_X0 tyX0 tyX0_ok nmX0 hown hK hP hD hS kv hhv rfl 4 (by decide) (hts (.fieldLink RX0 28 "BoilerLog$Alarm" "opens" "Z") (List.mem_of_getElem? (i := 9) rfl)) (fun _ h9 => h9) rfl hin rfl (by decide +kernel) (zn_zb _) (zf_zb _) (Nat.le_of_ble_eq_true rfl) dX0_init_33 (fun Hz Lz hP hD hS => ?_)
  have hP : va_P G.1 vwCl ((((((w.set kv (b, .inr (1, [.int 0, .int 0, .int 0, .int 0, .int 0, .int 0]))).set kv (b, .inr (1, [.int a1, .int 0, .int 0, .int 0, .int 0, .int 0]))).set kv (b, .inr (1, [.int a1, .int a2, .int 0, .int 0, .int 0, .int 0]))).set kv (b, .inr (1, [.int a1, .int a2, .int (zb b3), .int 0, .int 0, .int 0]))).set kv (b, .inr (1, [.int a1, .int a2, .int (zb b3), .int a4, .int 0, .int 0]))).set kv (b, .inr (1, [.int a1, .int a2, .int (zb b3), .int a4, .int (zb b5), .int 0]))) Hz := hP
  have hD : va_D Aw ((((((w.set kv (b, .inr (1, [.int 0, .int 0, .int 0, .int 0, .int 0, .int 0]))).set kv (b, .inr (1, [.int a1, .int 0, .int 0, .int 0, .int 0, .int 0]))).set kv (b, .inr (1, [.int a1, .int a2, .int 0, .int 0, .int 0, .int 0]))).set kv (b, .inr (1, [.int a1, .int a2, .int (zb b3), .int 0, .int 0, .int 0]))).set kv (b, .inr (1, [.int a1, .int a2, .int (zb b3), .int a4, .int 0, .int 0]))).set kv (b, .inr (1, [.int a1, .int a2, .int (zb b3), .int a4, .int (zb b5), .int 0]))) := hD
  have hhv : ((((((w.set kv (b, .inr (1, [.int 0, .int 0, .int 0, .int 0, .int 0, .int 0]))).set kv (b, .inr (1, [.int a1, .int 0, .int 0, .int 0, .int 0, .int 0]))).set kv (b, .inr (1, [.int a1, .int a2, .int 0, .int 0, .int 0, .int 0]))).set kv (b, .inr (1, [.int a1, .int a2, .int (zb b3), .int 0, .int 0, .int 0]))).set kv (b, .inr (1, [.int a1, .int a2, .int (zb b3), .int a4, .int 0, .int 0]))).set kv (b, .inr (1, [.int a1, .int a2, .int (zb b3), .int a4, .int (zb b5), .int 0])))[kv]? = some (b, .inr (1, [.int a1, .int a2, .int (zb b3), .int a4, .int (zb b5), .int 0])) := z_self hhv
  exact z_widen (k := 0) (n := 0) (show 0 ≤ 0 by omega) (show 0 ≤ 0 by omega) (W.vret hx hb hr (fun t ht hW => ⟨⟨((((((w.set kv (b, .inr (1, [.int 0, .int 0, .int 0, .int 0, .int 0, .int 0]))).set kv (b, .inr (1, [.int a1, .int 0, .int 0, .int 0, .int 0, .int 0]))).set kv (b, .inr (1, [.int a1, .int a2, .int 0, .int 0, .int 0, .int 0]))).set kv (b, .inr (1, [.int a1, .int a2, .int (zb b3), .int 0, .int 0, .int 0]))).set kv (b, .inr (1, [.int a1, .int a2, .int (zb b3), .int a4, .int 0, .int 0]))).set kv (b, .inr (1, [.int a1, .int a2, .int (zb b3), .int a4, .int (zb b5), .int 0]))), rfl, (by simp only [List.set_set]), ⟨by rw [ht]; exact hP, hD⟩⟩, hS.F ht⟩) hS.2.2 dX0_init_36 hlocks)

set_option maxHeartbeats 4000000 in
set_option maxRecDepth 100000 in
theorem c_X3_init (l : Launch) (G : zG) (d : Nat) (w : va_W) (kv b : Nat) (x : Nat) (sz : Nat) (hhv : w[kv]? = some (b, .inr (4, [.null]))) : Met l yX3_init wsX3_init ({ frames := 1, cells := 0, slots := 0, locals := 13 }) (va_Pc [.ref b, .ref x] (zCu G d w sz)) (va_Qv (fun w1 : va_W => w1 = w.set kv (b, .inr (4, [.ref x]))) (zB G (va_A w sz)) (va_A w sz)) (0) (0) (va_A w sz) := by
  refine Met.ofW (cc := cX3_init) (maxL := 2) (ret := none) (by decide) rfl ?_
  intro p e s m args below meth c s₁ B hml hv
  obtain ⟨rfl, hsz, hP, hK, hD0, hZ⟩ := hv
  have hx := B.exec
  have hb := B.bytes
  have hr := B.returns
  have hts := atoms_spec (ws := wsX3_init) B.pre
  have hown : s.vm.findClass RX3 = some m.cls := findClass_of_methodNamed B.named
  have hlocks := B.notSynchronized
  have hin : meth.name = "<init>" := (name_of_methodNamed B.named B.method).1
  have hi_X3 : ∀ w ∈ u_ws RX3 TX3 1, w ∈ wsX3_init := (fun _ h => List.mem_cons_of_mem _ (List.mem_append_right _ h))
  have hNs := hZ.1.2.2
  have hS0 : va_S (fun _ => False) s.heap s.heap [] := va_S.rf
  subst hsz
  have hD := hD0.self (sz := s.heap.size)
  generalize hAe : va_A w s.heap.size = Aw at hD hZ ⊢
  have hA : ∀ q : Nat, s.heap.size ≤ q → Aw q := fun q h => by rw [← hAe]; exact Or.inr h
  have hS : va_S Aw s.heap s.heap [] := va_S.rf
  have hl := lv_entry ([.ref b, .ref x]) (n := 2) (Nat.le_of_ble_eq_true rfl)
  rw [lg_entry_eq]
  generalize (lg_sl ([.ref b, .ref x]) ++ List.replicate (2 - (lg_sl ([.ref b, .ref x])).length) Slot.unset).toArray = ls at hl ⊢
  have hl : lv_has ls 2 [(0, .ref b), (1, .ref x)] := hl
  refine lv_aload_n hx hb dX3_init_0 rfl (lv_at hl 0 rfl) ?_
  refine W.objInit hx hb hown (hts (.methodLink RX3 3 objectInit) (List.mem_of_getElem? (i := 1) rfl)) (hts (.instanceMethod objectInit) (List.mem_of_getElem? (i := 2) rfl)) (hts _ (List.mem_of_getElem? (i := 3) rfl)) rfl (by rw [hml]; exact hl.1) rfl dX3_init_1 (Nat.le_of_ble_eq_true rfl) (Nat.le_of_ble_eq_true rfl) ?_
  refine W.eq (g2 := F0 m 4 ls []) rfl ?_
  refine lv_aload_n hx hb dX3_init_4 rfl (lv_at hl 0 rfl) ?_
  refine lv_aload_n hx hb dX3_init_5 rfl (lv_at hl 1 rfl) ?_
  refine va_putF (D := G.1) (ci := 4) (v := .ref x) (ty := (.array .int)) (C := RX3) (T := TX3) (N := 1) hx hb hts hi_X3 tyX3 tyX3_ok nmX3 hown hK hP hD hS kv hhv rfl 0 (by decide) (hts (.fieldLink RX3 9 "BoilerLog$Message" "content" "[I") (List.mem_of_getElem? (i := 4) rfl)) (fun _ h9 => h9) rfl hin rfl (by decide +kernel) rfl rfl (Nat.le_of_ble_eq_true rfl) dX3_init_6 (fun Hz Lz hP hD hS => ?_)
  have hP : va_P G.1 vwCl (w.set kv (b, .inr (4, [.ref x]))) Hz := hP
  have hD : va_D Aw (w.set kv (b, .inr (4, [.ref x]))) := hD
  have hhv : (w.set kv (b, .inr (4, [.ref x])))[kv]? = some (b, .inr (4, [.ref x])) := z_self hhv
  exact z_widen (k := 0) (n := 0) (show 0 ≤ 0 by omega) (show 0 ≤ 0 by omega) (W.vret hx hb hr (fun t ht hW => ⟨⟨(w.set kv (b, .inr (4, [.ref x]))), rfl, (by simp only [List.set_set]), ⟨by rw [ht]; exact hP, hD⟩⟩, hS.F ht⟩) hS.2.2 dX3_init_9 hlocks)

set_option maxHeartbeats 4000000 in
set_option maxRecDepth 100000 in
theorem c_X6_spilled (l : Launch) (G : zG) (d : Nat) (r A : Nat → Nat) (mc : Nat → Int32) (g : Nat → Nat → Int32) (N : Nat → Nat) (T : Nat → Nat → Int32) (w : va_W) (sz : Nat) (hC : sCQ G d r A mc g N T w) (hN : sSm N) : Met l yX6_spilled wsX6_spilled ({ frames := 0, cells := 0, slots := 0, locals := 0 }) (va_Pc [.ref (r 0)] (zCu G d w sz)) (va_Qi (fun (r1 : Int32) (w1 : va_W) => r1 = T 19 1 ∧ sCO G d r N T w1) (zB G (va_A w sz)) (va_A w sz)) (0) (0) (va_A w sz) := by
  refine Met.ofW (cc := cX6_spilled) (maxL := 1) (ret := (some .int)) (by decide) rfl ?_
  intro p e s m args below meth c s₁ B hml hv
  obtain ⟨rfl, hsz, hP, hK, hD0, hZ⟩ := hv
  have hx := B.exec
  have hb := B.bytes
  have hr := B.returns
  have hts := atoms_spec (ws := wsX6_spilled) B.pre
  have hown : s.vm.findClass RX6 = some m.cls := findClass_of_methodNamed B.named
  have hlocks := B.notSynchronized
  have hi_X6 : ∀ w ∈ u_ws RX6 TX6 14, w ∈ wsX6_spilled := (fun _ h => List.mem_cons_of_mem _ (List.mem_append_right _ h))
  have hNs := hZ.1.2.2
  have hS0 : va_S (fun _ => False) s.heap s.heap [] := va_S.rf
  subst hsz
  have hD := hD0.self (sz := s.heap.size)
  generalize hAe : va_A w s.heap.size = Aw at hD hZ ⊢
  have hA : ∀ q : Nat, s.heap.size ≤ q → Aw q := fun q h => by rw [← hAe]; exact Or.inr h
  have hS : va_S Aw s.heap s.heap [] := va_S.rf
  have hl := lv_entry ([.ref (r 0)]) (n := 1) (Nat.le_of_ble_eq_true rfl)
  rw [lg_entry_eq]
  generalize (lg_sl ([.ref (r 0)]) ++ List.replicate (1 - (lg_sl ([.ref (r 0)])).length) Slot.unset).toArray = ls at hl ⊢
  have hl : lv_has ls 1 [(0, .ref (r 0))] := hl
  obtain ⟨hn2, hn3, hn4, hn5, hn6, hn0⟩ := id hN
  refine lv_aload_n hx hb dX6_spilled_0 rfl (lv_at hl 0 rfl) ?_
  have hh0 : w[0]? = some (r 0, .inr (7, [.ref (r 1), .ref (r 2), .ref (r 3), .ref (r 4), .ref (r 5), .ref (r 6), .ref (r 7), .ref (r 8), .ref (r 9), .ref (r 10), .int (nI (N 0)), .int ((T 19) 0), .int ((T 19) 1), .int (nI (N 6))])) := hC.1.1 0 (by omega)
  refine va_get (D := G.1) (ci := 7) (v := .int ((T 19) 1)) (C := RX6) (T := TX6) (N := 14) hx hb hts hi_X6 hown hK hP 0 hh0 rfl 12 (by decide) (hts (.fieldLink RX6 63 "BoilerLog" "lost" "I") (List.mem_of_getElem? (i := 1) rfl)) (fun _ h9 => h9) rfl dX6_spilled_1 ?_
  exact z_widen (k := 0) (n := 0) (show 0 ≤ 0 by omega) (show 0 ≤ 0 by omega) (W.iret (v := (T 19) 1) hx hb hr (fun t ht hW => ⟨⟨(T 19) 1, w, rfl, ⟨rfl, _, _, _, hC⟩, ⟨by rw [ht]; exact hP, hD⟩⟩, hS.F ht⟩) hS.2.2 dX6_spilled_4 hlocks)

set_option maxHeartbeats 4000000 in
set_option maxRecDepth 100000 in
theorem c_X6_hour (l : Launch) (G : zG) (d : Nat) (r A : Nat → Nat) (mc : Nat → Int32) (g : Nat → Nat → Int32) (N : Nat → Nat) (T : Nat → Nat → Int32) (w : va_W) (sz : Nat) (hC : sCQ G d r A mc g N T w) (hN : sSm N) : Met l yX6_hour wsX6_hour ({ frames := 0, cells := 0, slots := 0, locals := 0 }) (va_Pc [.ref (r 0)] (zCu G d w sz)) (va_Qi (fun (r1 : Int32) (w1 : va_W) => r1 = nI (N 0) ∧ sCO G d r N T w1) (zB G (va_A w sz)) (va_A w sz)) (0) (0) (va_A w sz) := by
  refine Met.ofW (cc := cX6_hour) (maxL := 1) (ret := (some .int)) (by decide) rfl ?_
  intro p e s m args below meth c s₁ B hml hv
  obtain ⟨rfl, hsz, hP, hK, hD0, hZ⟩ := hv
  have hx := B.exec
  have hb := B.bytes
  have hr := B.returns
  have hts := atoms_spec (ws := wsX6_hour) B.pre
  have hown : s.vm.findClass RX6 = some m.cls := findClass_of_methodNamed B.named
  have hlocks := B.notSynchronized
  have hi_X6 : ∀ w ∈ u_ws RX6 TX6 14, w ∈ wsX6_hour := (fun _ h => List.mem_cons_of_mem _ (List.mem_append_right _ h))
  have hNs := hZ.1.2.2
  have hS0 : va_S (fun _ => False) s.heap s.heap [] := va_S.rf
  subst hsz
  have hD := hD0.self (sz := s.heap.size)
  generalize hAe : va_A w s.heap.size = Aw at hD hZ ⊢
  have hA : ∀ q : Nat, s.heap.size ≤ q → Aw q := fun q h => by rw [← hAe]; exact Or.inr h
  have hS : va_S Aw s.heap s.heap [] := va_S.rf
  have hl := lv_entry ([.ref (r 0)]) (n := 1) (Nat.le_of_ble_eq_true rfl)
  rw [lg_entry_eq]
  generalize (lg_sl ([.ref (r 0)]) ++ List.replicate (1 - (lg_sl ([.ref (r 0)])).length) Slot.unset).toArray = ls at hl ⊢
  have hl : lv_has ls 1 [(0, .ref (r 0))] := hl
  obtain ⟨hn2, hn3, hn4, hn5, hn6, hn0⟩ := id hN
  refine lv_aload_n hx hb dX6_hour_0 rfl (lv_at hl 0 rfl) ?_
  have hh0 : w[0]? = some (r 0, .inr (7, [.ref (r 1), .ref (r 2), .ref (r 3), .ref (r 4), .ref (r 5), .ref (r 6), .ref (r 7), .ref (r 8), .ref (r 9), .ref (r 10), .int (nI (N 0)), .int ((T 19) 0), .int ((T 19) 1), .int (nI (N 6))])) := hC.1.1 0 (by omega)
  refine va_get (D := G.1) (ci := 7) (v := .int (nI (N 0))) (C := RX6) (T := TX6) (N := 14) hx hb hts hi_X6 hown hK hP 0 hh0 rfl 10 (by decide) (hts (.fieldLink RX6 56 "BoilerLog" "now" "I") (List.mem_of_getElem? (i := 1) rfl)) (fun _ h9 => h9) rfl dX6_hour_1 ?_
  exact z_widen (k := 0) (n := 0) (show 0 ≤ 0 by omega) (show 0 ≤ 0 by omega) (W.iret (v := nI (N 0)) hx hb hr (fun t ht hW => ⟨⟨nI (N 0), w, rfl, ⟨rfl, _, _, _, hC⟩, ⟨by rw [ht]; exact hP, hD⟩⟩, hS.F ht⟩) hS.2.2 dX6_hour_4 hlocks)

set_option maxHeartbeats 4000000 in
set_option maxRecDepth 100000 in
theorem c_X6_entries (l : Launch) (G : zG) (d : Nat) (r A : Nat → Nat) (mc : Nat → Int32) (g : Nat → Nat → Int32) (N : Nat → Nat) (T : Nat → Nat → Int32) (w : va_W) (sz : Nat) (hC : sCQ G d r A mc g N T w) (hN : sSm N) : Met l yX6_entries wsX6_entries ({ frames := 1, cells := 0, slots := 0, locals := 20 }) (va_Pc [.ref (r 0)] (zCu G d w sz)) (va_Qi (fun (r1 : Int32) (w1 : va_W) => r1 = nI (N 1) ∧ sCO G d r N T w1) (zB G (va_A w sz)) (va_A w sz)) (0) (0) (va_A w sz) := by
  refine Met.ofW (cc := cX6_entries) (maxL := 1) (ret := (some .int)) (by decide) rfl ?_
  intro p e s m args below meth c s₁ B hml hv
  obtain ⟨rfl, hsz, hP, hK, hD0, hZ⟩ := hv
  have hx := B.exec
  have hb := B.bytes
  have hr := B.returns
  have hts := atoms_spec (ws := wsX6_entries) B.pre
  have hown : s.vm.findClass RX6 = some m.cls := findClass_of_methodNamed B.named
  have hlocks := B.notSynchronized
  have hi_X6 : ∀ w ∈ u_ws RX6 TX6 14, w ∈ wsX6_entries := (fun _ h => List.mem_cons_of_mem _ (List.mem_append_left _ (List.mem_append_right _ h)))
  have hNs := hZ.1.2.2
  have hS0 : va_S (fun _ => False) s.heap s.heap [] := va_S.rf
  subst hsz
  have hD := hD0.self (sz := s.heap.size)
  generalize hAe : va_A w s.heap.size = Aw at hD hZ ⊢
  have hA : ∀ q : Nat, s.heap.size ≤ q → Aw q := fun q h => by rw [← hAe]; exact Or.inr h
  have hS : va_S Aw s.heap s.heap [] := va_S.rf
  have hl := lv_entry ([.ref (r 0)]) (n := 1) (Nat.le_of_ble_eq_true rfl)
  rw [lg_entry_eq]
  generalize (lg_sl ([.ref (r 0)]) ++ List.replicate (1 - (lg_sl ([.ref (r 0)])).length) Slot.unset).toArray = ls at hl ⊢
  have hl : lv_has ls 1 [(0, .ref (r 0))] := hl
  obtain ⟨hn2, hn3, hn4, hn5, hn6, hn0⟩ := id hN
  refine lv_aload_n hx hb dX6_entries_0 rfl (lv_at hl 0 rfl) ?_
  have hh0 : w[0]? = some (r 0, .inr (7, [.ref (r 1), .ref (r 2), .ref (r 3), .ref (r 4), .ref (r 5), .ref (r 6), .ref (r 7), .ref (r 8), .ref (r 9), .ref (r 10), .int (nI (N 0)), .int ((T 19) 0), .int ((T 19) 1), .int (nI (N 6))])) := hC.1.1 0 (by omega)
  refine va_get (D := G.1) (ci := 7) (v := .ref (r 9)) (C := RX6) (T := TX6) (N := 14) hx hb hts hi_X6 hown hK hP 0 hh0 rfl 8 (by decide) (hts (.fieldLink RX6 45 "BoilerLog" "log" "LBoilerLog$Log;") (List.mem_of_getElem? (i := 1) rfl)) (fun _ h9 => h9) rfl dX6_entries_1 ?_
  have hh9 : w[9]? = some (r 9, .inr (3, [.ref (A 8), .int (nI (N 1))])) := hC.1.1 9 (by omega)
  refine z_csi (va_Run.run (va_runVN (As := []) (rest := []) ⟨hx, hb, hml, hown, hts⟩ (c_X2_size l G w 9 (r 9) (A 8) (nI (N 1)) (by first | assumption | omega | exact sIx_in.mp (by assumption))) ⟨va_cnB 0 hts gX6_entries_X2_size_n123 rfl rfl rfl (hNs.1 _ (List.mem_append_left _ (List.mem_of_getElem? (i := 11) rfl))) (hts (.initialized RX2) (List.mem_of_getElem? (i := 3) rfl)) (by decide +kernel) ⟨Nat.le_of_ble_eq_true rfl, Nat.le_of_ble_eq_true rfl⟩, hts (.instanceMethod yX2_size) (List.mem_of_getElem? (i := 2) rfl), hts (.selects RX2 yX2_size yX2_size) (List.mem_of_getElem? (i := 4) rfl)⟩ (z_pv hK hP (ci := 3) (q0 := 9) rfl hh9 hP) rfl rfl hl.1 rfl (lv_room (Nat.le_of_ble_eq_true rfl)) dX6_entries_4 ⟨(show 0 + 0 ≤ 0 by omega), (show 0 + 0 ≤ 0 by omega)⟩)) (fun zr_1 hzr_1 => ?_)
  subst hzr_1
  exact z_widen (k := 0) (n := 0) (show 0 ≤ 0 by omega) (show 0 ≤ 0 by omega) (W.iret (v := (nI (N 1))) hx hb hr (fun t ht hW => ⟨⟨(nI (N 1)), w, rfl, ⟨rfl, _, _, _, hC⟩, ⟨by rw [ht]; exact hP, hD⟩⟩, hS.F ht⟩) hS.2.2 dX6_entries_7 hlocks)

set_option maxHeartbeats 4000000 in
set_option maxRecDepth 100000 in
theorem c_X6_messages (l : Launch) (G : zG) (d : Nat) (r A : Nat → Nat) (mc : Nat → Int32) (g : Nat → Nat → Int32) (N : Nat → Nat) (T : Nat → Nat → Int32) (w : va_W) (sz : Nat) (hC : sCQ G d r A mc g N T w) (hN : sSm N) : Met l yX6_messages wsX6_messages ({ frames := 1, cells := 0, slots := 0, locals := 20 }) (va_Pc [.ref (r 0)] (zCu G d w sz)) (va_Qi (fun (r1 : Int32) (w1 : va_W) => r1 = nI (N 5) ∧ sCO G d r N T w1) (zB G (va_A w sz)) (va_A w sz)) (0) (0) (va_A w sz) := by
  refine Met.ofW (cc := cX6_messages) (maxL := 1) (ret := (some .int)) (by decide) rfl ?_
  intro p e s m args below meth c s₁ B hml hv
  obtain ⟨rfl, hsz, hP, hK, hD0, hZ⟩ := hv
  have hx := B.exec
  have hb := B.bytes
  have hr := B.returns
  have hts := atoms_spec (ws := wsX6_messages) B.pre
  have hown : s.vm.findClass RX6 = some m.cls := findClass_of_methodNamed B.named
  have hlocks := B.notSynchronized
  have hi_X6 : ∀ w ∈ u_ws RX6 TX6 14, w ∈ wsX6_messages := (fun _ h => List.mem_cons_of_mem _ (List.mem_append_left _ (List.mem_append_right _ h)))
  have hNs := hZ.1.2.2
  have hS0 : va_S (fun _ => False) s.heap s.heap [] := va_S.rf
  subst hsz
  have hD := hD0.self (sz := s.heap.size)
  generalize hAe : va_A w s.heap.size = Aw at hD hZ ⊢
  have hA : ∀ q : Nat, s.heap.size ≤ q → Aw q := fun q h => by rw [← hAe]; exact Or.inr h
  have hS : va_S Aw s.heap s.heap [] := va_S.rf
  have hl := lv_entry ([.ref (r 0)]) (n := 1) (Nat.le_of_ble_eq_true rfl)
  rw [lg_entry_eq]
  generalize (lg_sl ([.ref (r 0)]) ++ List.replicate (1 - (lg_sl ([.ref (r 0)])).length) Slot.unset).toArray = ls at hl ⊢
  have hl : lv_has ls 1 [(0, .ref (r 0))] := hl
  obtain ⟨hn2, hn3, hn4, hn5, hn6, hn0⟩ := id hN
  refine lv_aload_n hx hb dX6_messages_0 rfl (lv_at hl 0 rfl) ?_
  have hh0 : w[0]? = some (r 0, .inr (7, [.ref (r 1), .ref (r 2), .ref (r 3), .ref (r 4), .ref (r 5), .ref (r 6), .ref (r 7), .ref (r 8), .ref (r 9), .ref (r 10), .int (nI (N 0)), .int ((T 19) 0), .int ((T 19) 1), .int (nI (N 6))])) := hC.1.1 0 (by omega)
  refine va_get (D := G.1) (ci := 7) (v := .ref (r 7)) (C := RX6) (T := TX6) (N := 14) hx hb hts hi_X6 hown hK hP 0 hh0 rfl 6 (by decide) (hts (.fieldLink RX6 36 "BoilerLog" "posted" "Ljava/util/ArrayList;") (List.mem_of_getElem? (i := 1) rfl)) (fun _ h9 => h9) rfl dX6_messages_1 ?_
  have hh7 : w[7]? = some (r 7, .inr (0, [.int (mc 2), cDt d (N 5) (A 11), .int (nI (N 5))])) := hC.1.1 7 (by omega)
  refine z_csi (va_Run.run (va_runV (As := []) (rest := []) ⟨hx, hb, hml, hown, hts⟩ (c_Jx4a65c_size_8abf5 l G w 7 (r 7) (mc 2) (cDt d (N 5) (A 11)) (nI (N 5)) (by first | assumption | omega | exact sIx_in.mp (by assumption))) (cwV 0 hts gX6_messages_Jx4a65c_size_8abf5 rfl rfl rfl (by decide +kernel) ⟨Nat.le_of_ble_eq_true rfl, Nat.le_of_ble_eq_true rfl⟩) (z_pv hK hP (ci := 0) (q0 := 7) rfl hh7 hP) rfl rfl hl.1 rfl (lv_room (Nat.le_of_ble_eq_true rfl)) dX6_messages_4 ⟨(show 0 + 0 ≤ 0 by omega), (show 0 + 0 ≤ 0 by omega)⟩)) (fun zr_1 hzr_1 => ?_)
  subst hzr_1
  exact z_widen (k := 0) (n := 0) (show 0 ≤ 0 by omega) (show 0 ≤ 0 by omega) (W.iret (v := (nI (N 5))) hx hb hr (fun t ht hW => ⟨⟨(nI (N 5)), w, rfl, ⟨rfl, _, _, _, hC⟩, ⟨by rw [ht]; exact hP, hD⟩⟩, hS.F ht⟩) hS.2.2 dX6_messages_7 hlocks)

set_option maxHeartbeats 4000000 in
set_option maxRecDepth 100000 in
theorem c_X6_isWhole (l : Launch) (G : zG) (d : Nat) (r A : Nat → Nat) (mc : Nat → Int32) (g : Nat → Nat → Int32) (N : Nat → Nat) (T : Nat → Nat → Int32) (w : va_W) (sz : Nat) (hC : sCQ G d r A mc g N T w) (hN : sSm N) : Met l yX6_isWhole wsX6_isWhole ({ frames := 2, cells := 0, slots := 0, locals := 42 }) (va_Pc [.ref (r 0)] (zCu G d w sz)) (va_Qi (fun (r1 : Int32) (w1 : va_W) => r1 = zb (sGood (T 17) (N 4)) ∧ sCO G d r N T w1) (zB G (va_A w sz)) (va_A w sz)) (0) (0) (va_A w sz) := by
  refine Met.ofW (cc := cX6_isWhole) (maxL := 1) (ret := (some .boolean)) (by decide) rfl ?_
  intro p e s m args below meth c s₁ B hml hv
  obtain ⟨rfl, hsz, hP, hK, hD0, hZ⟩ := hv
  have hx := B.exec
  have hb := B.bytes
  have hr := B.returns
  have hts := atoms_spec (ws := wsX6_isWhole) B.pre
  have hown : s.vm.findClass RX6 = some m.cls := findClass_of_methodNamed B.named
  have hlocks := B.notSynchronized
  have hi_X6 : ∀ w ∈ u_ws RX6 TX6 14, w ∈ wsX6_isWhole := (fun _ h => List.mem_cons_of_mem _ (List.mem_append_left _ (List.mem_append_right _ h)))
  have hNs := hZ.1.2.2
  have hS0 : va_S (fun _ => False) s.heap s.heap [] := va_S.rf
  subst hsz
  have hD := hD0.self (sz := s.heap.size)
  generalize hAe : va_A w s.heap.size = Aw at hD hZ ⊢
  have hA : ∀ q : Nat, s.heap.size ≤ q → Aw q := fun q h => by rw [← hAe]; exact Or.inr h
  have hS : va_S Aw s.heap s.heap [] := va_S.rf
  have hl := lv_entry ([.ref (r 0)]) (n := 1) (Nat.le_of_ble_eq_true rfl)
  rw [lg_entry_eq]
  generalize (lg_sl ([.ref (r 0)]) ++ List.replicate (1 - (lg_sl ([.ref (r 0)])).length) Slot.unset).toArray = ls at hl ⊢
  have hl : lv_has ls 1 [(0, .ref (r 0))] := hl
  obtain ⟨hn2, hn3, hn4, hn5, hn6, hn0⟩ := id hN
  refine lv_aload_n hx hb dX6_isWhole_0 rfl (lv_at hl 0 rfl) ?_
  have hh0 : w[0]? = some (r 0, .inr (7, [.ref (r 1), .ref (r 2), .ref (r 3), .ref (r 4), .ref (r 5), .ref (r 6), .ref (r 7), .ref (r 8), .ref (r 9), .ref (r 10), .int (nI (N 0)), .int ((T 19) 0), .int ((T 19) 1), .int (nI (N 6))])) := hC.1.1 0 (by omega)
  refine va_get (D := G.1) (ci := 7) (v := .ref (r 10)) (C := RX6) (T := TX6) (N := 14) hx hb hts hi_X6 hown hK hP 0 hh0 rfl 9 (by decide) (hts (.fieldLink RX6 52 "BoilerLog" "draft" "LBoilerLog$Draft;") (List.mem_of_getElem? (i := 1) rfl)) (fun _ h9 => h9) rfl dX6_isWhole_1 ?_
  have hh10 : w[10]? = some (r 10, .inr (2, [.ref (r 11), .int (nI (N 4))])) := hC.1.1 10 (by omega)
  have hh11 : w[11]? = some (r 11, .inl (G.2 3, 40, .inl (T 17))) := hC.1.1 11 (by omega)
  refine z_csi (va_Run.run (va_runVN (As := []) (rest := []) ⟨hx, hb, hml, hown, hts⟩ (c_X1_isComplete l G w 10 (r 10) (r 11) (N 4) 11 (T 17) (by assumption) (by assumption) hn4) ⟨va_cnB 0 hts gX6_isWhole_X1_isComplete_n236 rfl rfl rfl (hNs.1 _ (List.mem_append_left _ (List.mem_of_getElem? (i := 23) rfl))) (hts (.initialized RX1) (List.mem_of_getElem? (i := 3) rfl)) (by decide +kernel) ⟨Nat.le_of_ble_eq_true rfl, Nat.le_of_ble_eq_true rfl⟩, hts (.instanceMethod yX1_isComplete) (List.mem_of_getElem? (i := 2) rfl), hts (.selects RX1 yX1_isComplete yX1_isComplete) (List.mem_of_getElem? (i := 4) rfl)⟩ (z_pv hK hP (ci := 2) (q0 := 10) rfl hh10 hP) rfl rfl hl.1 rfl (lv_room (Nat.le_of_ble_eq_true rfl)) dX6_isWhole_4 ⟨(show 0 + 0 ≤ 0 by omega), (show 0 + 0 ≤ 0 by omega)⟩)) (fun zr_1 hzr_1 => ?_)
  subst hzr_1
  exact z_widen (k := 0) (n := 0) (show 0 ≤ 0 by omega) (show 0 ≤ 0 by omega) (W.zret (v := zb (sGood (T 17) (N 4))) hx hb hr (zn_zb _) (fun t ht hW => ⟨⟨zb (sGood (T 17) (N 4)), w, rfl, ⟨rfl, _, _, _, hC⟩, ⟨by rw [ht]; exact hP, hD⟩⟩, hS.F ht⟩) hS.2.2 dX6_isWhole_7 hlocks)

set_option maxHeartbeats 4000000 in
set_option maxRecDepth 100000 in
theorem c_X6_clear (l : Launch) (G : zG) (d : Nat) (r A : Nat → Nat) (mc : Nat → Int32) (g : Nat → Nat → Int32) (N : Nat → Nat) (T : Nat → Nat → Int32) (w : va_W) (sz : Nat) (hC : sCQ G d r A mc g N T w) (hN : sSm N) : Met l yX6_clear wsX6_clear ({ frames := 1, cells := 0, slots := 0, locals := 20 }) (va_Pc [.ref (r 0)] (zCu G d w sz)) (va_Qi (fun (r1 : Int32) (w1 : va_W) => r1 = nI (N 4) ∧ sCO G d r (va_up N 4 0) T w1) (zB G (va_A w sz)) (va_A w sz)) (0) (0) (va_A w sz) := by
  refine Met.ofW (cc := cX6_clear) (maxL := 2) (ret := (some .int)) (by decide) rfl ?_
  intro p e s m args below meth c s₁ B hml hv
  obtain ⟨rfl, hsz, hP, hK, hD0, hZ⟩ := hv
  have hx := B.exec
  have hb := B.bytes
  have hr := B.returns
  have hts := atoms_spec (ws := wsX6_clear) B.pre
  have hown : s.vm.findClass RX6 = some m.cls := findClass_of_methodNamed B.named
  have hlocks := B.notSynchronized
  have hi_X6 : ∀ w ∈ u_ws RX6 TX6 14, w ∈ wsX6_clear := (fun _ h => List.mem_cons_of_mem _ (List.mem_append_left _ (List.mem_append_right _ h)))
  have hNs := hZ.1.2.2
  have hS0 : va_S (fun _ => False) s.heap s.heap [] := va_S.rf
  subst hsz
  have hD := hD0.self (sz := s.heap.size)
  generalize hAe : va_A w s.heap.size = Aw at hD hZ ⊢
  have hA : ∀ q : Nat, s.heap.size ≤ q → Aw q := fun q h => by rw [← hAe]; exact Or.inr h
  have hS : va_S Aw s.heap s.heap [] := va_S.rf
  have hl := lv_entry ([.ref (r 0)]) (n := 2) (Nat.le_of_ble_eq_true rfl)
  rw [lg_entry_eq]
  generalize (lg_sl ([.ref (r 0)]) ++ List.replicate (2 - (lg_sl ([.ref (r 0)])).length) Slot.unset).toArray = ls at hl ⊢
  have hl : lv_has ls 2 [(0, .ref (r 0))] := hl
  obtain ⟨hn2, hn3, hn4, hn5, hn6, hn0⟩ := id hN
  refine lv_aload_n hx hb dX6_clear_0 rfl (lv_at hl 0 rfl) ?_
  have hh0 : w[0]? = some (r 0, .inr (7, [.ref (r 1), .ref (r 2), .ref (r 3), .ref (r 4), .ref (r 5), .ref (r 6), .ref (r 7), .ref (r 8), .ref (r 9), .ref (r 10), .int (nI (N 0)), .int ((T 19) 0), .int ((T 19) 1), .int (nI (N 6))])) := hC.1.1 0 (by omega)
  refine va_get (D := G.1) (ci := 7) (v := .ref (r 10)) (C := RX6) (T := TX6) (N := 14) hx hb hts hi_X6 hown hK hP 0 hh0 rfl 9 (by decide) (hts (.fieldLink RX6 52 "BoilerLog" "draft" "LBoilerLog$Draft;") (List.mem_of_getElem? (i := 1) rfl)) (fun _ h9 => h9) rfl dX6_clear_1 ?_
  have hh10 : w[10]? = some (r 10, .inr (2, [.ref (r 11), .int (nI (N 4))])) := hC.1.1 10 (by omega)
  refine z_csi (va_Run.run (va_runVN (As := []) (rest := []) ⟨hx, hb, hml, hown, hts⟩ (c_X1_length l G w 10 (r 10) (r 11) (N 4) (by first | assumption | omega | exact sIx_in.mp (by assumption))) ⟨va_cnB 0 hts gX6_clear_X1_length_n222 rfl rfl rfl (hNs.1 _ (List.mem_append_left _ (List.mem_of_getElem? (i := 20) rfl))) (hts (.initialized RX1) (List.mem_of_getElem? (i := 3) rfl)) (by decide +kernel) ⟨Nat.le_of_ble_eq_true rfl, Nat.le_of_ble_eq_true rfl⟩, hts (.instanceMethod yX1_length) (List.mem_of_getElem? (i := 2) rfl), hts (.selects RX1 yX1_length yX1_length) (List.mem_of_getElem? (i := 4) rfl)⟩ (z_pv hK hP (ci := 2) (q0 := 10) rfl hh10 hP) rfl rfl hl.1 rfl (lv_room (Nat.le_of_ble_eq_true rfl)) dX6_clear_4 ⟨(show 0 + 0 ≤ 0 by omega), (show 0 + 0 ≤ 0 by omega)⟩)) (fun zr_1 hzr_1 => ?_)
  subst hzr_1
  refine lv_istore_n (lv' := [(1, .int (nI (N 4))), (0, .ref (r 0))]) hx hb dX6_clear_7 rfl hl (by decide) rfl (fun ls hl => ?_)
  refine lv_aload_n hx hb dX6_clear_8 rfl (lv_at hl 1 rfl) ?_
  refine va_get (D := G.1) (ci := 7) (v := .ref (r 10)) (C := RX6) (T := TX6) (N := 14) hx hb hts hi_X6 hown hK hP 0 hh0 rfl 9 (by decide) (hts (.fieldLink RX6 52 "BoilerLog" "draft" "LBoilerLog$Draft;") (List.mem_of_getElem? (i := 1) rfl)) (fun _ h9 => h9) rfl dX6_clear_9 ?_
  refine z_cuv (va_runVN (As := []) (rest := []) ⟨hx, hb, hml, hown, hts⟩ (c_X1_wipe l G w 10 (r 10) (r 11) (N 4) s.heap.size (by assumption)) ⟨va_cnB 0 hts gX6_clear_X1_wipe_n233 rfl rfl rfl (hNs.1 _ (List.mem_append_left _ (List.mem_of_getElem? (i := 22) rfl))) (hts (.initialized RX1) (List.mem_of_getElem? (i := 3) rfl)) (by decide +kernel) ⟨Nat.le_of_ble_eq_true rfl, Nat.le_of_ble_eq_true rfl⟩, hts (.instanceMethod yX1_wipe) (List.mem_of_getElem? (i := 7) rfl), hts (.selects RX1 yX1_wipe yX1_wipe) (List.mem_of_getElem? (i := 8) rfl)⟩ (z_uv hK hP (ci := 2) (q0 := 10) rfl hh10 hP hD) rfl rfl hl.1 rfl (lv_room (Nat.le_of_ble_eq_true rfl)) dX6_clear_12 ⟨(show 0 + 0 ≤ 0 by omega), (show 0 + 0 ≤ 0 by omega)⟩) hD hS hA (fun zw_2 Hz Lz hw hP hD hS => ?_)
  subst hw
  have hC : sCQ G d r A mc g (va_up N 4 0) T (w.set 10 (r 10, .inr (2, [.ref (r 11), .int 0]))) := sC_x10 (n := 0) hC hN
  generalize (w.set 10 (r 10, .inr (2, [.ref (r 11), .int 0]))) = zx_2 at hP hD hC
  refine lv_iload_n hx hb dX6_clear_15 rfl (lv_at hl 0 rfl) ?_
  exact z_widen (k := 0) (n := 0) (show 0 ≤ 0 by omega) (show 0 ≤ 0 by omega) (W.iret (v := nI (N 4)) hx hb hr (fun t ht hW => ⟨⟨nI (N 4), zx_2, rfl, ⟨rfl, _, _, _, hC⟩, ⟨by rw [ht]; exact hP, hD⟩⟩, hS.F ht⟩) hS.2.2 dX6_clear_16 hlocks)

set_option maxHeartbeats 4000000 in
set_option maxRecDepth 100000 in
theorem c_X6_insert (l : Launch) (hst : l.stackTraces = false) (G : zG) (d : Nat) (r A : Nat → Nat) (mc : Nat → Int32) (g : Nat → Nat → Int32) (N : Nat → Nat) (T : Nat → Nat → Int32) (w : va_W) (K : Nat) (a1 a2 : Int32) (sz : Nat) (hC : sCQ G d r A mc g N T w) (hI : sInv N T K 0) (hKk : K ≤ 511) (hx9 : ∃ x : Nat, x < 65536 ∧ a2 = nI x) : vx_Met l yX6_insert wsX6_insert ({ frames := 6, cells := 2, slots := 12, locals := 90 }) (va_Pc [.ref (r 0), .int a1, .int a2] (zCu G d w sz)) (va_Qi (fun (r1 : Int32) (w1 : va_W) => sK2 (sIn a1 0 (nI (N 4))) (!decide (N 4 = 40)) = 0 ∧ r1 = nI (N 4 + 1) ∧ sCO G d r ((nIns N T a1 a2).1) ((nIns N T a1 a2).2) w1) (zB G (va_A w sz)) (va_A w sz)) (zXk ["java/lang/IllegalArgumentException", "java/lang/IllegalStateException"] (sK2 (sIn a1 0 (nI (N 4))) (!decide (N 4 = 40)))) (2) (12) (va_A w sz) := by
  refine vx_ofW (cc := cX6_insert) (maxL := 3) (ret := (some .int)) (by decide) rfl ?_
  intro p e s m args below meth c s₁ B hml hxt hv
  obtain ⟨rfl, hsz, hP, hK, hD0, hZ⟩ := hv
  have hx := B.exec
  have hb := B.bytes
  have hr := B.returns
  have hts := atoms_spec (ws := wsX6_insert) B.pre
  have hown : s.vm.findClass RX6 = some m.cls := findClass_of_methodNamed B.named
  have hlocks := B.notSynchronized
  have hi_X6 : ∀ w ∈ u_ws RX6 TX6 14, w ∈ wsX6_insert := (fun _ h => List.mem_cons_of_mem _ (List.mem_append_left _ (List.mem_append_left _ (List.mem_append_left _ (List.mem_append_right _ h)))))
  have hNs := hZ.1.2.2
  have hS0 : va_S (fun _ => False) s.heap s.heap [] := va_S.rf
  subst hsz
  have hD := hD0.self (sz := s.heap.size)
  generalize hAe : va_A w s.heap.size = Aw at hD hZ ⊢
  have hA : ∀ q : Nat, s.heap.size ≤ q → Aw q := fun q h => by rw [← hAe]; exact Or.inr h
  have hS : va_S Aw s.heap s.heap [] := va_S.rf
  have hl := lv_entry ([.ref (r 0), .int a1, .int a2]) (n := 3) (Nat.le_of_ble_eq_true rfl)
  rw [lg_entry_eq]
  generalize (lg_sl ([.ref (r 0), .int a1, .int a2]) ++ List.replicate (3 - (lg_sl ([.ref (r 0), .int a1, .int a2])).length) Slot.unset).toArray = ls at hl ⊢
  have hl : lv_has ls 3 [(0, .ref (r 0)), (1, .int a1), (2, .int a2)] := hl
  have hN := hI.sm
  obtain ⟨hn2, hn3, hn4, hn5, hn6, hn0⟩ := id hN
  have h1n := sN1_c hI hKk
  refine lv_iload_n hx hb dX6_insert_0 rfl (lv_at hl 1 rfl) ?_
  refine lv_if_lt (tgt := 15) hx hb dX6_insert_1 (by decide) (fun zc_1 => ?_) (fun zc_1 => ?_)
  · skip
    have zd_1 := Int32.not_le.mpr zc_1
    obtain ⟨sa, hsa⟩ := zText hNs (i := 11) (q := ("BoilerLog", 225, "no such place in the text")) rfl
    exact vx_throwS (own := RX6) (cls := "java/lang/IllegalArgumentException") (names := ["java/lang/RuntimeException", "java/lang/Exception"]) (A := fun _ => False) hx hb hst hown (by decide) (by decide) (hts _ (List.mem_of_getElem? (i := 1) rfl)) (hts _ (List.mem_of_getElem? (i := 2) rfl)) hsa (zThrow_all (fun w h => hts w (List.mem_cons_of_mem _ (List.mem_append_left _ (List.mem_append_right _ h)))) zBad_88 hNs) zGood_88 (hZ.1.1.narrow (fun _ h => h.elim)) (hZ.1.2.1.narrow (fun _ h => h.elim)) hS0 (by rw [hml]; exact hl.1) dX6_insert_15 dX6_insert_18 dX6_insert_19 dX6_insert_21 dX6_insert_24 (fun x h => (hxt x h).elim) (Nat.le_of_ble_eq_true rfl) (Nat.le_of_ble_eq_true rfl) (show 0 + 1 ≤ 2 by omega) (show 0 + 6 ≤ 12 by omega) hlocks (fun t _ hz hq => ⟨0, (show sK2 (sIn a1 0 (nI (N 4))) (!decide (N 4 = 40)) = (1 : Int32) from by simp [sK1, sK2, sK3, sIn, zc_1, zd_1]), rfl, ⟨Nat.le_trans hS0.1 hz, fun q hq1 _ => (hq q (Nat.lt_of_lt_of_le hq1 hS0.1)).trans (hS0.2.1 q hq1 id)⟩⟩) (fun z hz => (hS0.2.2 z hz).elim) (show 0 + 1 ≤ 2 by omega) (show 0 + 6 ≤ 12 by omega)
  · skip
    have zd_1 := Int32.not_lt.mp zc_1
    refine lv_iload_n hx hb dX6_insert_4 rfl (lv_at hl 1 rfl) ?_
    refine lv_aload_n hx hb dX6_insert_5 rfl (lv_at hl 0 rfl) ?_
    have hh0 : w[0]? = some (r 0, .inr (7, [.ref (r 1), .ref (r 2), .ref (r 3), .ref (r 4), .ref (r 5), .ref (r 6), .ref (r 7), .ref (r 8), .ref (r 9), .ref (r 10), .int (nI (N 0)), .int ((T 19) 0), .int ((T 19) 1), .int (nI (N 6))])) := hC.1.1 0 (by omega)
    refine va_get (D := G.1) (ci := 7) (v := .ref (r 10)) (C := RX6) (T := TX6) (N := 14) hx hb hts hi_X6 hown hK hP 0 hh0 rfl 9 (by decide) (hts (.fieldLink RX6 52 "BoilerLog" "draft" "LBoilerLog$Draft;") (List.mem_of_getElem? (i := 5) rfl)) (fun _ h9 => h9) rfl dX6_insert_6 ?_
    have hh10 : w[10]? = some (r 10, .inr (2, [.ref (r 11), .int (nI (N 4))])) := hC.1.1 10 (by omega)
    refine z_csi (va_Run.run (va_runVN (As := []) (rest := [.int a1]) ⟨hx, hb, hml, hown, hts⟩ (c_X1_length l G w 10 (r 10) (r 11) (N 4) (by assumption)) ⟨va_cnB 0 hts gX6_insert_X1_length_n222 rfl rfl rfl (hNs.1 _ (List.mem_append_left _ (List.mem_of_getElem? (i := 20) rfl))) (hts (.initialized RX1) (List.mem_of_getElem? (i := 7) rfl)) (by decide +kernel) ⟨Nat.le_of_ble_eq_true rfl, Nat.le_of_ble_eq_true rfl⟩, hts (.instanceMethod yX1_length) (List.mem_of_getElem? (i := 6) rfl), hts (.selects RX1 yX1_length yX1_length) (List.mem_of_getElem? (i := 8) rfl)⟩ (z_pv hK hP (ci := 2) (q0 := 10) rfl hh10 hP) rfl rfl hl.1 rfl (lv_room (Nat.le_of_ble_eq_true rfl)) dX6_insert_9 ⟨(show 0 + 0 ≤ 2 by omega), (show 0 + 0 ≤ 12 by omega)⟩)) (fun zr_2 hzr_2 => ?_)
    subst hzr_2
    refine lv_icmp_le (tgt := 25) hx hb dX6_insert_12 (by decide) (fun zc_3 => ?_) (fun zc_3 => ?_)
    · skip
      have zd_3 := Int32.not_lt.mpr zc_3
      refine lv_aload_n hx hb dX6_insert_25 rfl (lv_at hl 0 rfl) ?_
      refine va_get (D := G.1) (ci := 7) (v := .ref (r 10)) (C := RX6) (T := TX6) (N := 14) hx hb hts hi_X6 hown hK hP 0 hh0 rfl 9 (by decide) (hts (.fieldLink RX6 52 "BoilerLog" "draft" "LBoilerLog$Draft;") (List.mem_of_getElem? (i := 5) rfl)) (fun _ h9 => h9) rfl dX6_insert_26 ?_
      refine z_csi (va_Run.run (va_runVN (As := []) (rest := []) ⟨hx, hb, hml, hown, hts⟩ (c_X1_length l G w 10 (r 10) (r 11) (N 4) (by assumption)) ⟨va_cnB 0 hts gX6_insert_X1_length_n222 rfl rfl rfl (hNs.1 _ (List.mem_append_left _ (List.mem_of_getElem? (i := 20) rfl))) (hts (.initialized RX1) (List.mem_of_getElem? (i := 7) rfl)) (by decide +kernel) ⟨Nat.le_of_ble_eq_true rfl, Nat.le_of_ble_eq_true rfl⟩, hts (.instanceMethod yX1_length) (List.mem_of_getElem? (i := 6) rfl), hts (.selects RX1 yX1_length yX1_length) (List.mem_of_getElem? (i := 8) rfl)⟩ (z_pv hK hP (ci := 2) (q0 := 10) rfl hh10 hP) rfl rfl hl.1 rfl (lv_room (Nat.le_of_ble_eq_true rfl)) dX6_insert_29 ⟨(show 0 + 0 ≤ 2 by omega), (show 0 + 0 ≤ 12 by omega)⟩)) (fun zr_4 hzr_4 => ?_)
      subst hzr_4
      refine lv_bipush (v := 40) hx hb dX6_insert_32 (by decide) ?_
      refine lv_icmp_lt (tgt := 47) hx hb dX6_insert_34 (by decide) (fun zc_5 => ?_) (fun zc_5 => ?_)
      · skip
        have zd_5 := Int32.not_le.mpr zc_5
        have hq4 : N 4 < 40 := (nI_ltI (b := 40) (by omega) (by omega)).mp zc_5
        have hq6 : decide (N 4 = 40) = false := decide_eq_false (by omega)
        have hk0 : sK2 (sIn a1 0 (nI (N 4))) (!decide (N 4 = 40)) = 0 := by rw [hq6]; simp [sK1, sK2, sK3, sIn, zc_1, zd_1, zc_3, zd_3, zc_5, zd_5]
        obtain ⟨hl1, ea1⟩ := sIn_0n (n := N 4) (a := a1) (by omega) (by simp [sIn, zc_1, zd_1, zc_3, zd_3, zc_5, zd_5])
        refine lv_aload_n hx hb dX6_insert_47 rfl (lv_at hl 0 rfl) ?_
        refine va_get (D := G.1) (ci := 7) (v := .ref (r 10)) (C := RX6) (T := TX6) (N := 14) hx hb hts hi_X6 hown hK hP 0 hh0 rfl 9 (by decide) (hts (.fieldLink RX6 52 "BoilerLog" "draft" "LBoilerLog$Draft;") (List.mem_of_getElem? (i := 5) rfl)) (fun _ h9 => h9) rfl dX6_insert_48 ?_
        refine lv_iload_n hx hb dX6_insert_51 rfl (lv_at hl 1 rfl) ?_
        refine lv_iload_n hx hb dX6_insert_52 rfl (lv_at hl 2 rfl) ?_
        refine W.eq (congrArg (fun z : Int32 => F0 m 53 ls [.int a2, .int z, .ref (r 10)]) ea1) ?_
        have hh11 : w[11]? = some (r 11, .inl (G.2 3, 40, .inl (T 17))) := hC.1.1 11 (by omega)
        refine z_cuv (va_runVN (As := [.int (nI a1.toNatClampNeg), .int a2]) (rest := []) ⟨hx, hb, hml, hown, hts⟩ (c_X1_put l G w 10 (r 10) (r 11) (N 4) 11 (T 17) a1.toNatClampNeg a2 s.heap.size (by assumption) (by assumption) hq4 hl1 hI.2.2.2.2.2.2.2.2.2 hx9 (by omega) (by omega)) ⟨va_cnB 2 hts gX6_insert_X1_put_n229 rfl rfl rfl (hNs.1 _ (List.mem_append_left _ (List.mem_of_getElem? (i := 21) rfl))) (hts (.initialized RX1) (List.mem_of_getElem? (i := 7) rfl)) (by decide +kernel) ⟨Nat.le_of_ble_eq_true rfl, Nat.le_of_ble_eq_true rfl⟩, hts (.instanceMethod yX1_put) (List.mem_of_getElem? (i := 11) rfl), hts (.selects RX1 yX1_put yX1_put) (List.mem_of_getElem? (i := 12) rfl)⟩ (z_uv hK hP (ci := 2) (q0 := 10) rfl hh10 hP hD) rfl rfl hl.1 rfl (lv_room (Nat.le_of_ble_eq_true rfl)) dX6_insert_53 ⟨(show 0 + 0 ≤ 2 by omega), (show 0 + 0 ≤ 12 by omega)⟩) hD hS hA (fun zw_6 Hz Lz hw hP hD hS => ?_)
        subst hw
        have hC : sCQ G d r A mc g (va_up N 4 (N 4 + 1)) (va_up T 17 (sIns (T 17) a1.toNatClampNeg (N 4) a2)) ((w.set 11 (r 11, .inl (G.2 3, 40, .inl (sIns (T 17) a1.toNatClampNeg (N 4) a2)))).set 10 (r 10, .inr (2, [.ref (r 11), .int (nI (N 4 + 1))]))) := sC_x10 (sC_x11 hC hN) hN
        generalize ((w.set 11 (r 11, .inl (G.2 3, 40, .inl (sIns (T 17) a1.toNatClampNeg (N 4) a2)))).set 10 (r 10, .inr (2, [.ref (r 11), .int (nI (N 4 + 1))]))) = zx_6 at hP hD hC
        refine lv_aload_n hx hb dX6_insert_56 rfl (lv_at hl 0 rfl) ?_
        have hh0 : zx_6[0]? = some (r 0, .inr (7, [.ref (r 1), .ref (r 2), .ref (r 3), .ref (r 4), .ref (r 5), .ref (r 6), .ref (r 7), .ref (r 8), .ref (r 9), .ref (r 10), .int (nI (N 0)), .int ((T 19) 0), .int ((T 19) 1), .int (nI (N 6))])) := hC.1.1 0 (by omega)
        refine va_get (D := G.1) (ci := 7) (v := .ref (r 10)) (C := RX6) (T := TX6) (N := 14) hx hb hts hi_X6 hown hK hP 0 hh0 rfl 9 (by decide) (hts (.fieldLink RX6 52 "BoilerLog" "draft" "LBoilerLog$Draft;") (List.mem_of_getElem? (i := 5) rfl)) (fun _ h9 => h9) rfl dX6_insert_57 ?_
        have hh10 : zx_6[10]? = some (r 10, .inr (2, [.ref (r 11), .int (nI ((N 4 + 1)))])) := hC.1.1 10 (by omega)
        refine z_csi (va_Run.run (va_runVN (As := []) (rest := []) ⟨hx, hb, hml, hown, hts⟩ (c_X1_length l G zx_6 10 (r 10) (r 11) ((N 4 + 1)) (by assumption)) ⟨va_cnB 0 hts gX6_insert_X1_length_n222 rfl rfl rfl (hNs.1 _ (List.mem_append_left _ (List.mem_of_getElem? (i := 20) rfl))) (hts (.initialized RX1) (List.mem_of_getElem? (i := 7) rfl)) (by decide +kernel) ⟨Nat.le_of_ble_eq_true rfl, Nat.le_of_ble_eq_true rfl⟩, hts (.instanceMethod yX1_length) (List.mem_of_getElem? (i := 6) rfl), hts (.selects RX1 yX1_length yX1_length) (List.mem_of_getElem? (i := 8) rfl)⟩ (z_pv hK hP (ci := 2) (q0 := 10) rfl hh10 hP) rfl rfl hl.1 rfl (lv_room (Nat.le_of_ble_eq_true rfl)) dX6_insert_60 ⟨(show 0 + 0 ≤ 2 by omega), (show 0 + 0 ≤ 12 by omega)⟩)) (fun zr_7 hzr_7 => ?_)
        subst hzr_7
        exact vx_ret (z_widen (k := 2) (n := 12) (show 0 ≤ 2 by omega) (show 0 ≤ 12 by omega) (W.iret (v := nI ((N 4 + 1))) hx hb hr (fun t ht hW => ⟨⟨nI ((N 4 + 1)), zx_6, rfl, ⟨hk0, rfl, _, _, _, hC⟩, ⟨by rw [ht]; exact hP, hD⟩⟩, hS.F ht⟩) hS.2.2 dX6_insert_63 hlocks))
      · skip
        have zd_5 := Int32.not_lt.mp zc_5
        have hq5 : N 4 = 40 := by have hz9 := Nat.le_of_not_lt (fun z => zc_5 ((nI_ltI (b := 40) (by omega) (by omega)).mpr z)); omega
        have hq6 : decide (N 4 = 40) = true := decide_eq_true hq5
        obtain ⟨sa, hsa⟩ := zText hNs (i := 12) (q := ("BoilerLog", 227, "the text is full")) rfl
        exact vx_throwS (own := RX6) (cls := "java/lang/IllegalStateException") (names := ["java/lang/RuntimeException", "java/lang/Exception"]) (A := fun _ => False) hx hb hst hown (by decide) (by decide) (hts _ (List.mem_of_getElem? (i := 3) rfl)) (hts _ (List.mem_of_getElem? (i := 4) rfl)) hsa (zThrow_all (fun w h => hts w (List.mem_cons_of_mem _ (List.mem_append_right _ h))) zBad_99 hNs) zGood_99 (hZ.1.1.narrow (fun _ h => h.elim)) (hZ.1.2.1.narrow (fun _ h => h.elim)) hS0 (by rw [hml]; exact hl.1) dX6_insert_37 dX6_insert_40 dX6_insert_41 dX6_insert_43 dX6_insert_46 (fun x h => (hxt x h).elim) (Nat.le_of_ble_eq_true rfl) (Nat.le_of_ble_eq_true rfl) (show 0 + 1 ≤ 2 by omega) (show 0 + 6 ≤ 12 by omega) hlocks (fun t _ hz hq => ⟨1, (show sK2 (sIn a1 0 (nI (N 4))) (!decide (N 4 = 40)) = (2 : Int32) from by rw [hq6]; simp [sK1, sK2, sK3, sIn, zc_1, zd_1, zc_3, zd_3, zc_5, zd_5]), rfl, ⟨Nat.le_trans hS0.1 hz, fun q hq1 _ => (hq q (Nat.lt_of_lt_of_le hq1 hS0.1)).trans (hS0.2.1 q hq1 id)⟩⟩) (fun z hz => (hS0.2.2 z hz).elim) (show 0 + 1 ≤ 2 by omega) (show 0 + 6 ≤ 12 by omega)
    · skip
      have zd_3 := Int32.not_le.mp zc_3
      obtain ⟨sa, hsa⟩ := zText hNs (i := 11) (q := ("BoilerLog", 225, "no such place in the text")) rfl
      exact vx_throwS (own := RX6) (cls := "java/lang/IllegalArgumentException") (names := ["java/lang/RuntimeException", "java/lang/Exception"]) (A := fun _ => False) hx hb hst hown (by decide) (by decide) (hts _ (List.mem_of_getElem? (i := 1) rfl)) (hts _ (List.mem_of_getElem? (i := 2) rfl)) hsa (zThrow_all (fun w h => hts w (List.mem_cons_of_mem _ (List.mem_append_left _ (List.mem_append_right _ h)))) zBad_88 hNs) zGood_88 (hZ.1.1.narrow (fun _ h => h.elim)) (hZ.1.2.1.narrow (fun _ h => h.elim)) hS0 (by rw [hml]; exact hl.1) dX6_insert_15 dX6_insert_18 dX6_insert_19 dX6_insert_21 dX6_insert_24 (fun x h => (hxt x h).elim) (Nat.le_of_ble_eq_true rfl) (Nat.le_of_ble_eq_true rfl) (show 0 + 1 ≤ 2 by omega) (show 0 + 6 ≤ 12 by omega) hlocks (fun t _ hz hq => ⟨0, (show sK2 (sIn a1 0 (nI (N 4))) (!decide (N 4 = 40)) = (1 : Int32) from by simp [sK1, sK2, sK3, sIn, zc_1, zd_1, zc_3, zd_3]), rfl, ⟨Nat.le_trans hS0.1 hz, fun q hq1 _ => (hq q (Nat.lt_of_lt_of_le hq1 hS0.1)).trans (hS0.2.1 q hq1 id)⟩⟩) (fun z hz => (hS0.2.2 z hz).elim) (show 0 + 1 ≤ 2 by omega) (show 0 + 6 ≤ 12 by omega)

set_option maxHeartbeats 4000000 in
set_option maxRecDepth 100000 in
theorem c_X6_hang (l : Launch) (hst : l.stackTraces = false) (G : zG) (d : Nat) (r A : Nat → Nat) (mc : Nat → Int32) (g : Nat → Nat → Int32) (N : Nat → Nat) (T : Nat → Nat → Int32) (w : va_W) (K : Nat) (a1 a2 : Int32) (sz : Nat) (hC : sCQ G d r A mc g N T w) (hI : sInv N T K 0) (hKk : K ≤ 511) : vx_Met l yX6_hang wsX6_hang ({ frames := 7, cells := (8 + zmc (sK2 ((sIx a1 9) && (sIx a2 8)) ((sMay N T a1) && !decide (N 2 = 40))) (N 1) (N 1 + 1)), slots := (200 + zms (sK2 ((sIx a1 9) && (sIx a2 8)) ((sMay N T a1) && !decide (N 2 = 40))) (N 1) (N 1 + 1)), locals := 171 }) (va_Pc [.ref (r 0), .int a1, .int a2] (zCu G d w sz)) (va_Qi (fun (r1 : Int32) (w1 : va_W) => sK2 ((sIx a1 9) && (sIx a2 8)) ((sMay N T a1) && !decide (N 2 = 40)) = 0 ∧ r1 = nI (N 2) ∧ sCO G d r ((nHang N T a1 a2).1) ((nHang N T a1 a2).2) w1) (zB G (va_A w sz)) (va_A w sz)) (zXk ["java/lang/IndexOutOfBoundsException", "java/lang/IllegalStateException"] (sK2 ((sIx a1 9) && (sIx a2 8)) ((sMay N T a1) && !decide (N 2 = 40)))) ((8 + zmc (sK2 ((sIx a1 9) && (sIx a2 8)) ((sMay N T a1) && !decide (N 2 = 40))) (N 1) (N 1 + 1))) ((200 + zms (sK2 ((sIx a1 9) && (sIx a2 8)) ((sMay N T a1) && !decide (N 2 = 40))) (N 1) (N 1 + 1))) (va_A w sz) := by
  refine vx_ofW (cc := cX6_hang) (maxL := 4) (ret := (some .int)) (by decide) rfl ?_
  intro p e s m args below meth c s₁ B hml hxt hv
  obtain ⟨rfl, hsz, hP, hK, hD0, hZ⟩ := hv
  have hx := B.exec
  have hb := B.bytes
  have hr := B.returns
  have hts := atoms_spec (ws := wsX6_hang) B.pre
  have hown : s.vm.findClass RX6 = some m.cls := findClass_of_methodNamed B.named
  have hlocks := B.notSynchronized
  have hi_X4 : ∀ w ∈ u_ws RX4 TX4 4, w ∈ wsX6_hang := (fun _ h => List.mem_cons_of_mem _ (List.mem_append_left _ (List.mem_append_left _ (List.mem_append_left _ (List.mem_append_left _ (List.mem_append_right _ h))))))
  have hi_X6 : ∀ w ∈ u_ws RX6 TX6 14, w ∈ wsX6_hang := (fun _ h => List.mem_cons_of_mem _ (List.mem_append_left _ (List.mem_append_left _ (List.mem_append_left _ (List.mem_append_left _ (List.mem_append_left _ (List.mem_append_right _ h)))))))
  have hNs := hZ.1.2.2
  have hS0 : va_S (fun _ => False) s.heap s.heap [] := va_S.rf
  subst hsz
  have hD := hD0.self (sz := s.heap.size)
  generalize hAe : va_A w s.heap.size = Aw at hD hZ ⊢
  have hA : ∀ q : Nat, s.heap.size ≤ q → Aw q := fun q h => by rw [← hAe]; exact Or.inr h
  have hS : va_S Aw s.heap s.heap [] := va_S.rf
  have hl := lv_entry ([.ref (r 0), .int a1, .int a2]) (n := 4) (Nat.le_of_ble_eq_true rfl)
  rw [lg_entry_eq]
  generalize (lg_sl ([.ref (r 0), .int a1, .int a2]) ++ List.replicate (4 - (lg_sl ([.ref (r 0), .int a1, .int a2])).length) Slot.unset).toArray = ls at hl ⊢
  have hl : lv_has ls 4 [(0, .ref (r 0)), (1, .int a1), (2, .int a2)] := hl
  have hN := hI.sm
  obtain ⟨hn2, hn3, hn4, hn5, hn6, hn0⟩ := id hN
  have h1n := sN1_c hI hKk
  refine lv_iload_n hx hb dX6_hang_0 rfl (lv_at hl 1 rfl) ?_
  refine z_chk (vx_runS (As := [.int a1]) (rest := []) ⟨hx, hb, hml, hown, hts⟩ (c_X6_checkPerson l hst G w a1) (va_cwS 1 hts gX6_hang_X6_checkPerson rfl rfl rfl (by decide +kernel) ⟨Nat.le_of_ble_eq_true rfl, Nat.le_of_ble_eq_true rfl⟩) (z_rs hK hP hZ.1 hS) rfl rfl hl.1 rfl (lv_room (Nat.le_of_ble_eq_true rfl)) dX6_hang_1 ⟨(show 0 + 1 ≤ (8 + zmc (sK2 ((sIx a1 9) && (sIx a2 8)) ((sMay N T a1) && !decide (N 2 = 40))) (N 1) (N 1 + 1)) by first | omega | (rw [zmc_0 hk0]; omega) | (rw [zms_0 hk0]; omega)), (show 0 + 6 ≤ (200 + zms (sK2 ((sIx a1 9) && (sIx a2 8)) ((sMay N T a1) && !decide (N 2 = 40))) (N 1) (N 1 + 1)) by first | omega | (rw [zmc_0 hk0]; omega) | (rw [zms_0 hk0]; omega))⟩) hP hS0 (fun zno => ⟨0, (show sK2 ((sIx a1 9) && (sIx a2 8)) ((sMay N T a1) && !decide (N 2 = 40)) = (1 : Int32) from by simp [sK1, sK2, sK3, zno]), rfl⟩) (fun x h => (hxt x h).elim) hlocks (show 0 + 1 ≤ (8 + zmc (sK2 ((sIx a1 9) && (sIx a2 8)) ((sMay N T a1) && !decide (N 2 = 40))) (N 1) (N 1 + 1)) by omega) (show 0 + 6 ≤ (200 + zms (sK2 ((sIx a1 9) && (sIx a2 8)) ((sMay N T a1) && !decide (N 2 = 40))) (N 1) (N 1 + 1)) by omega) (fun zok_1 Hz Lz hP hS0 => ?_)
  have hS : va_S Aw s.heap Hz Lz := z_SF hS0
  refine lv_iload_n hx hb dX6_hang_4 rfl (lv_at hl 2 rfl) ?_
  refine z_chk (vx_runS (As := [.int a2]) (rest := []) ⟨hx, hb, hml, hown, hts⟩ (c_X6_checkValve l hst G w a2) (va_cwS 1 hts gX6_hang_X6_checkValve rfl rfl rfl (by decide +kernel) ⟨Nat.le_of_ble_eq_true rfl, Nat.le_of_ble_eq_true rfl⟩) (z_rs hK hP hZ.1 hS) rfl rfl hl.1 rfl (lv_room (Nat.le_of_ble_eq_true rfl)) dX6_hang_5 ⟨(show 0 + 1 + 1 ≤ (8 + zmc (sK2 ((sIx a1 9) && (sIx a2 8)) ((sMay N T a1) && !decide (N 2 = 40))) (N 1) (N 1 + 1)) by first | omega | (rw [zmc_0 hk0]; omega) | (rw [zms_0 hk0]; omega)), (show 0 + 6 + 6 ≤ (200 + zms (sK2 ((sIx a1 9) && (sIx a2 8)) ((sMay N T a1) && !decide (N 2 = 40))) (N 1) (N 1 + 1)) by first | omega | (rw [zmc_0 hk0]; omega) | (rw [zms_0 hk0]; omega))⟩) hP hS0 (fun zno => ⟨0, (show sK2 ((sIx a1 9) && (sIx a2 8)) ((sMay N T a1) && !decide (N 2 = 40)) = (1 : Int32) from by simp [sK1, sK2, sK3, zok_1, zno]), rfl⟩) (fun x h => (hxt x h).elim) hlocks (show 0 + 1 + 1 ≤ (8 + zmc (sK2 ((sIx a1 9) && (sIx a2 8)) ((sMay N T a1) && !decide (N 2 = 40))) (N 1) (N 1 + 1)) by omega) (show 0 + 6 + 6 ≤ (200 + zms (sK2 ((sIx a1 9) && (sIx a2 8)) ((sMay N T a1) && !decide (N 2 = 40))) (N 1) (N 1 + 1)) by omega) (fun zok_5 Hz Lz hP hS0 => ?_)
  have hS : va_S Aw s.heap Hz Lz := z_SF hS0
  refine lv_aload_n hx hb dX6_hang_8 rfl (lv_at hl 0 rfl) ?_
  refine lv_iload_n hx hb dX6_hang_9 rfl (lv_at hl 1 rfl) ?_
  have hh0 : w[0]? = some (r 0, .inr (7, [.ref (r 1), .ref (r 2), .ref (r 3), .ref (r 4), .ref (r 5), .ref (r 6), .ref (r 7), .ref (r 8), .ref (r 9), .ref (r 10), .int (nI (N 0)), .int ((T 19) 0), .int ((T 19) 1), .int (nI (N 6))])) := hC.1.1 0 (by omega)
  refine z_csi (va_Run.run (va_runV (As := [.int a1]) (rest := []) ⟨hx, hb, hml, hown, hts⟩ (c_X6_isAble l G d r A mc g N T w a1 hC (sIx_in.mp zok_1)) (cwV 1 hts gX6_hang_X6_isAble rfl rfl rfl (by decide +kernel) ⟨Nat.le_of_ble_eq_true rfl, Nat.le_of_ble_eq_true rfl⟩) (z_pv hK hP (ci := 7) (q0 := 0) rfl hh0 hP) rfl rfl hl.1 rfl (lv_room (Nat.le_of_ble_eq_true rfl)) dX6_hang_10 ⟨(show 0 + 1 + 1 + 0 ≤ (8 + zmc (sK2 ((sIx a1 9) && (sIx a2 8)) ((sMay N T a1) && !decide (N 2 = 40))) (N 1) (N 1 + 1)) by first | omega | (rw [zmc_0 hk0]; omega) | (rw [zms_0 hk0]; omega)), (show 0 + 6 + 6 + 0 ≤ (200 + zms (sK2 ((sIx a1 9) && (sIx a2 8)) ((sMay N T a1) && !decide (N 2 = 40))) (N 1) (N 1 + 1)) by first | omega | (rw [zmc_0 hk0]; omega) | (rw [zms_0 hk0]; omega))⟩)) (fun zr_1 hzr_1 => ?_)
  subst hzr_1
  refine lv_if_eq (tgt := 28) hx hb dX6_hang_13 (by decide) (fun zc_2 => ?_) (fun zc_2 => ?_)
  · skip
    have zc_2 := zb_0.mp zc_2
    obtain ⟨sa, hsa⟩ := zText hNs (i := 3) (q := ("BoilerLog", 143, "the person may not hang a tag")) rfl
    exact vx_throwS (own := RX6) (cls := "java/lang/IllegalStateException") (names := ["java/lang/RuntimeException", "java/lang/Exception"]) (A := fun _ => False) hx hb hst hown (by decide) (by decide) (hts _ (List.mem_of_getElem? (i := 1) rfl)) (hts _ (List.mem_of_getElem? (i := 2) rfl)) hsa (zThrow_all (fun w h => hts w (List.mem_cons_of_mem _ (List.mem_append_left _ (List.mem_append_right _ h)))) zBad_99 hNs) zGood_99 (hZ.1.1.narrow (fun _ h => h.elim)) (hZ.1.2.1.narrow (fun _ h => h.elim)) hS0 (by rw [hml]; exact hl.1) dX6_hang_28 dX6_hang_31 dX6_hang_32 dX6_hang_34 dX6_hang_37 (fun x h => (hxt x h).elim) (Nat.le_of_ble_eq_true rfl) (Nat.le_of_ble_eq_true rfl) (show 0 + 1 + 1 + 1 ≤ (8 + zmc (sK2 ((sIx a1 9) && (sIx a2 8)) ((sMay N T a1) && !decide (N 2 = 40))) (N 1) (N 1 + 1)) by omega) (show 0 + 6 + 6 + 6 ≤ (200 + zms (sK2 ((sIx a1 9) && (sIx a2 8)) ((sMay N T a1) && !decide (N 2 = 40))) (N 1) (N 1 + 1)) by omega) hlocks (fun t _ hz hq => ⟨1, (show sK2 ((sIx a1 9) && (sIx a2 8)) ((sMay N T a1) && !decide (N 2 = 40)) = (2 : Int32) from by simp [sK1, sK2, sK3, zok_1, zok_5, zc_2]), rfl, ⟨Nat.le_trans hS0.1 hz, fun q hq1 _ => (hq q (Nat.lt_of_lt_of_le hq1 hS0.1)).trans (hS0.2.1 q hq1 id)⟩⟩) (fun z hz => (hS0.2.2 z hz).elim) (show 0 + 1 + 1 + 1 ≤ (8 + zmc (sK2 ((sIx a1 9) && (sIx a2 8)) ((sMay N T a1) && !decide (N 2 = 40))) (N 1) (N 1 + 1)) by omega) (show 0 + 6 + 6 + 6 ≤ (200 + zms (sK2 ((sIx a1 9) && (sIx a2 8)) ((sMay N T a1) && !decide (N 2 = 40))) (N 1) (N 1 + 1)) by omega)
  · skip
    have zc_2 := zb_n0 zc_2
    refine lv_aload_n hx hb dX6_hang_16 rfl (lv_at hl 0 rfl) ?_
    refine va_get (D := G.1) (ci := 7) (v := .ref (r 5)) (C := RX6) (T := TX6) (N := 14) hx hb hts hi_X6 hown hK hP 0 hh0 rfl 4 (by decide) (hts (.fieldLink RX6 29 "BoilerLog" "tags" "Ljava/util/ArrayList;") (List.mem_of_getElem? (i := 3) rfl)) (fun _ h9 => h9) rfl dX6_hang_17 ?_
    have hh5 : w[5]? = some (r 5, .inr (0, [.int (mc 0), cDt d (N 2) (A 9), .int (nI (N 2))])) := hC.1.1 5 (by omega)
    refine z_csi (va_Run.run (va_runV (As := []) (rest := []) ⟨hx, hb, hml, hown, hts⟩ (c_Jx4a65c_size_8abf5 l G w 5 (r 5) (mc 0) (cDt d (N 2) (A 9)) (nI (N 2)) (by first | assumption | omega | exact sIx_in.mp (by assumption))) (cwV 0 hts gX6_hang_Jx4a65c_size_8abf5 rfl rfl rfl (by decide +kernel) ⟨Nat.le_of_ble_eq_true rfl, Nat.le_of_ble_eq_true rfl⟩) (z_pv hK hP (ci := 0) (q0 := 5) rfl hh5 hP) rfl rfl hl.1 rfl (lv_room (Nat.le_of_ble_eq_true rfl)) dX6_hang_20 ⟨(show 0 + 1 + 1 + 0 ≤ (8 + zmc (sK2 ((sIx a1 9) && (sIx a2 8)) ((sMay N T a1) && !decide (N 2 = 40))) (N 1) (N 1 + 1)) by first | omega | (rw [zmc_0 hk0]; omega) | (rw [zms_0 hk0]; omega)), (show 0 + 6 + 6 + 0 ≤ (200 + zms (sK2 ((sIx a1 9) && (sIx a2 8)) ((sMay N T a1) && !decide (N 2 = 40))) (N 1) (N 1 + 1)) by first | omega | (rw [zmc_0 hk0]; omega) | (rw [zms_0 hk0]; omega))⟩)) (fun zr_3 hzr_3 => ?_)
    subst hzr_3
    refine lv_bipush (v := 40) hx hb dX6_hang_23 (by decide) ?_
    refine lv_icmp_lt (tgt := 38) hx hb dX6_hang_25 (by decide) (fun zc_4 => ?_) (fun zc_4 => ?_)
    · skip
      have zd_4 := Int32.not_le.mpr zc_4
      have hq4 : N 2 < 40 := (nI_ltI (b := 40) (by omega) (by omega)).mp zc_4
      have hq6 : decide (N 2 = 40) = false := decide_eq_false (by omega)
      have hk0 : sK2 ((sIx a1 9) && (sIx a2 8)) ((sMay N T a1) && !decide (N 2 = 40)) = 0 := by rw [hq6]; simp [sK1, sK2, sK3, zok_1, zok_5, zc_2, zc_4, zd_4]
      have hzq1 := zpc_m (Nat.le_succ (N 1))
      have hzq2 := zps_m (Nat.le_succ (N 1))
      refine lv_aload_n hx hb dX6_hang_38 rfl (lv_at hl 0 rfl) ?_
      refine va_get (D := G.1) (ci := 7) (v := .ref (r 5)) (C := RX6) (T := TX6) (N := 14) hx hb hts hi_X6 hown hK hP 0 hh0 rfl 4 (by decide) (hts (.fieldLink RX6 29 "BoilerLog" "tags" "Ljava/util/ArrayList;") (List.mem_of_getElem? (i := 3) rfl)) (fun _ h9 => h9) rfl dX6_hang_39 ?_
      refine z_csi (va_Run.run (va_runV (As := []) (rest := []) ⟨hx, hb, hml, hown, hts⟩ (c_Jx4a65c_size_8abf5 l G w 5 (r 5) (mc 0) (cDt d (N 2) (A 9)) (nI (N 2)) (by first | assumption | omega | exact sIx_in.mp (by assumption))) (cwV 0 hts gX6_hang_Jx4a65c_size_8abf5 rfl rfl rfl (by decide +kernel) ⟨Nat.le_of_ble_eq_true rfl, Nat.le_of_ble_eq_true rfl⟩) (z_pv hK hP (ci := 0) (q0 := 5) rfl hh5 hP) rfl rfl hl.1 rfl (lv_room (Nat.le_of_ble_eq_true rfl)) dX6_hang_42 ⟨(show 0 + 1 + 1 + 0 ≤ (8 + zmc (sK2 ((sIx a1 9) && (sIx a2 8)) ((sMay N T a1) && !decide (N 2 = 40))) (N 1) (N 1 + 1)) by first | omega | (rw [zmc_0 hk0]; omega) | (rw [zms_0 hk0]; omega)), (show 0 + 6 + 6 + 0 ≤ (200 + zms (sK2 ((sIx a1 9) && (sIx a2 8)) ((sMay N T a1) && !decide (N 2 = 40))) (N 1) (N 1 + 1)) by first | omega | (rw [zmc_0 hk0]; omega) | (rw [zms_0 hk0]; omega))⟩)) (fun zr_5 hzr_5 => ?_)
      subst hzr_5
      refine lv_istore_n (lv' := [(3, .int (nI (N 2))), (0, .ref (r 0)), (1, .int a1), (2, .int a2)]) hx hb dX6_hang_45 rfl hl (by decide) rfl (fun ls hl => ?_)
      refine lv_aload_n hx hb dX6_hang_46 rfl (lv_at hl 1 rfl) ?_
      refine va_get (D := G.1) (ci := 7) (v := .ref (r 5)) (C := RX6) (T := TX6) (N := 14) hx hb hts hi_X6 hown hK hP 0 hh0 rfl 4 (by decide) (hts (.fieldLink RX6 29 "BoilerLog" "tags" "Ljava/util/ArrayList;") (List.mem_of_getElem? (i := 3) rfl)) (fun _ h9 => h9) rfl dX6_hang_47 ?_
      refine va_new (ci := 5) (fs := [.int 0, .int 0, .int 0, .int 0]) (C := RX4) (T := TX4) (N := 4) hx hb hts hi_X4 tyX4 tyX4_ok hown (hts (.classLink RX6 145 RX4) (List.mem_of_getElem? (i := 4) rfl)) (hts (.instantiable RX4 4) (List.mem_of_getElem? (i := 5) rfl)) (hts (.initialized RX4) (List.mem_of_getElem? (i := 6) rfl)) hK hP hD hS hA rfl (fun j hj => by rcases (show j = 0 ∨ j = 1 ∨ j = 2 ∨ j = 3 by omega) with rfl | rfl | rfl | rfl <;> rfl) (show 0 + 1 + 1 + 1 ≤ (8 + zmc (sK2 ((sIx a1 9) && (sIx a2 8)) ((sMay N T a1) && !decide (N 2 = 40))) (N 1) (N 1 + 1)) by first | omega | (rw [zmc_0 hk0]; omega) | (rw [zms_0 hk0]; omega)) (show 0 + 6 + 6 + 4 ≤ (200 + zms (sK2 ((sIx a1 9) && (sIx a2 8)) ((sMay N T a1) && !decide (N 2 = 40))) (N 1) (N 1 + 1)) by first | omega | (rw [zmc_0 hk0]; omega) | (rw [zms_0 hk0]; omega)) dX6_hang_50 (fun zq_6 Hz hP hD hS => ?_)
      have hP : va_P G.1 vwCl (w ++ ([(zq_6, .inr (5, [.int 0, .int 0, .int 0, .int 0]))] : va_W)) Hz := hP
      have hD : va_D Aw (w ++ ([(zq_6, .inr (5, [.int 0, .int 0, .int 0, .int 0]))] : va_W)) := hD
      have hhn : (w ++ ([(zq_6, .inr (5, [.int 0, .int 0, .int 0, .int 0]))] : va_W))[w.length]? = some (zq_6, .inr (5, [.int 0, .int 0, .int 0, .int 0])) := z_last
      refine lv_dup hx hb dX6_hang_53 rfl ?_
      refine lv_iload_n hx hb dX6_hang_54 rfl (lv_at hl 2 rfl) ?_
      refine lv_iload_n hx hb dX6_hang_55 rfl (lv_at hl 3 rfl) ?_
      refine z_cuv (va_runIN (As := [.int a1, .int a2]) (rest := [.ref zq_6, .ref (r 5)]) ⟨hx, hb, hml, hown, hts⟩ (c_X4_init l G d (w ++ ([(zq_6, .inr (5, [.int 0, .int 0, .int 0, .int 0]))] : va_W)) w.length zq_6 a1 a2 Hz.size (by assumption)) ⟨va_cnB 2 hts gX6_hang_X4_init_n147 rfl rfl rfl (hNs.1 _ (List.mem_append_left _ (List.mem_of_getElem? (i := 15) rfl))) (hts (.initialized RX4) (List.mem_of_getElem? (i := 6) rfl)) (by decide +kernel) ⟨Nat.le_of_ble_eq_true rfl, Nat.le_of_ble_eq_true rfl⟩, rfl, hts (.instanceMethod yX4_init) (List.mem_of_getElem? (i := 35) rfl)⟩ (z_ws hK hP hD hZ hS hA) rfl rfl hl.1 rfl (lv_room (Nat.le_of_ble_eq_true rfl)) dX6_hang_56 ⟨(show 0 + 1 + 1 + 1 + 0 ≤ (8 + zmc (sK2 ((sIx a1 9) && (sIx a2 8)) ((sMay N T a1) && !decide (N 2 = 40))) (N 1) (N 1 + 1)) by first | omega | (rw [zmc_0 hk0]; omega) | (rw [zms_0 hk0]; omega)), (show 0 + 6 + 6 + 4 + 0 ≤ (200 + zms (sK2 ((sIx a1 9) && (sIx a2 8)) ((sMay N T a1) && !decide (N 2 = 40))) (N 1) (N 1 + 1)) by first | omega | (rw [zmc_0 hk0]; omega) | (rw [zms_0 hk0]; omega))⟩) hD hS hA (fun zw_7 Hz Lz hw hP hD hS => ?_)
      rw [z_setl] at hw
      subst hw
      have hkv := sC_len hC
      have hfr := sC_fresh hC hD.new
      have hC : sCQ G d r A mc g N T (w ++ ([(zq_6, .inr (5, [.int a1, .int a2, .int (-1), .int 0]))] : va_W)) := sC_app hC _
      have hhv : (w ++ ([(zq_6, .inr (5, [.int a1, .int a2, .int (-1), .int 0]))] : va_W))[w.length]? = some (zq_6, .inr (5, [.int a1, .int a2, .int (-1), .int 0])) := z_last
      generalize hze_7 : (w ++ ([(zq_6, .inr (5, [.int a1, .int a2, .int (-1), .int 0]))] : va_W)) = zx_7 at hP hD hC hhv
      have hh5 : zx_7[5]? = some (r 5, .inr (0, [.int (mc 0), cDt d (N 2) (A 9), .int (nI (N 2))])) := hC.1.1 5 (by omega)
      refine z_cui (va_runV (As := [.ref zq_6]) (rest := []) ⟨hx, hb, hml, hown, hts⟩ (c_add_t l G d r A mc g N T zx_7 a1 a2 w.length zq_6 Hz.size hC hN hq4 hkv hhv hfr) (cwV 1 hts gX6_hang_Jx4a65c_add_9ea2d rfl rfl rfl (by decide +kernel) ⟨Nat.le_of_ble_eq_true rfl, Nat.le_of_ble_eq_true rfl⟩) (z_wv hK hP (ci := 0) (q0 := 5) rfl hh5 hP hD hZ hS hA) rfl rfl hl.1 rfl (lv_room (Nat.le_of_ble_eq_true rfl)) dX6_hang_59 ⟨(show 0 + 1 + 1 + 1 + 1 ≤ (8 + zmc (sK2 ((sIx a1 9) && (sIx a2 8)) ((sMay N T a1) && !decide (N 2 = 40))) (N 1) (N 1 + 1)) by first | omega | (rw [zmc_0 hk0]; omega) | (rw [zms_0 hk0]; omega)), (show 0 + 6 + 6 + 4 + 100 ≤ (200 + zms (sK2 ((sIx a1 9) && (sIx a2 8)) ((sMay N T a1) && !decide (N 2 = 40))) (N 1) (N 1 + 1)) by first | omega | (rw [zmc_0 hk0]; omega) | (rw [zms_0 hk0]; omega))⟩) hD hS hA (fun zr_8 zw_8 Hz Lz hw hP hD hS => ?_)
      obtain ⟨he8, zA_8, mc, hC, hva⟩ := hw
      refine lv_pop hx hb dX6_hang_62 rfl ?_
      refine lv_aload_n hx hb dX6_hang_63 rfl (lv_at hl 1 rfl) ?_
      have hh0 : zw_8[0]? = some (r 0, .inr (7, [.ref (r 1), .ref (r 2), .ref (r 3), .ref (r 4), .ref (r 5), .ref (r 6), .ref (r 7), .ref (r 8), .ref (r 9), .ref (r 10), .int (nI (N 0)), .int ((T 19) 0), .int ((T 19) 1), .int (nI (N 6))])) := hC.1.1 0 (by omega)
      refine va_get (D := G.1) (ci := 7) (v := .ref (r 9)) (C := RX6) (T := TX6) (N := 14) hx hb hts hi_X6 hown hK hP 0 hh0 rfl 8 (by decide) (hts (.fieldLink RX6 45 "BoilerLog" "log" "LBoilerLog$Log;") (List.mem_of_getElem? (i := 7) rfl)) (fun _ h9 => h9) rfl dX6_hang_64 ?_
      refine lv_aload_n hx hb dX6_hang_67 rfl (lv_at hl 1 rfl) ?_
      refine va_get (D := G.1) (ci := 7) (v := .int (nI (N 0))) (C := RX6) (T := TX6) (N := 14) hx hb hts hi_X6 hown hK hP 0 hh0 rfl 10 (by decide) (hts (.fieldLink RX6 56 "BoilerLog" "now" "I") (List.mem_of_getElem? (i := 8) rfl)) (fun _ h9 => h9) rfl dX6_hang_68 ?_
      refine lv_iconst (v := 1) hx hb dX6_hang_71 (by decide) ?_
      refine lv_iload_n hx hb dX6_hang_72 rfl (lv_at hl 2 rfl) ?_
      refine lv_iload_n hx hb dX6_hang_73 rfl (lv_at hl 0 rfl) ?_
      have hh9 : zw_8[9]? = some (r 9, .inr (3, [.ref (zA_8 8), .int (nI (N 1))])) := hC.1.1 9 (by omega)
      refine z_cuv (va_runVN (As := [.int (nI (N 0)), .int 1, .int a1, .int (nI (N 2))]) (rest := []) ⟨hx, hb, hml, hown, hts⟩ (c_X2_note l G d r zA_8 mc g (va_up N 2 (N 2 + 1)) (va_up (va_up (va_up (va_up T 7 (upd (T 7) (N 2) a1)) 8 (upd (T 8) (N 2) a2)) 9 (upd (T 9) (N 2) (-1))) 10 (upd (T 10) (N 2) 0)) zw_8 1 a1 (nI (N 2)) Hz.size hC (sSm_2 hN hq4) h1n) ⟨va_cnB 4 hts gX6_hang_X2_note_n154 rfl rfl rfl (hNs.1 _ (List.mem_append_left _ (List.mem_of_getElem? (i := 16) rfl))) (hts (.initialized RX2) (List.mem_of_getElem? (i := 99) rfl)) (by decide +kernel) ⟨Nat.le_of_ble_eq_true rfl, Nat.le_of_ble_eq_true rfl⟩, hts (.instanceMethod yX2_note) (List.mem_of_getElem? (i := 98) rfl), hts (.selects RX2 yX2_note yX2_note) (List.mem_of_getElem? (i := 100) rfl)⟩ (z_wv hK hP (ci := 3) (q0 := 9) rfl hh9 hP hD hZ hS hA) rfl rfl hl.1 rfl (lv_room (Nat.le_of_ble_eq_true rfl)) dX6_hang_74 ⟨(show 0 + 1 + 1 + 1 + 1 + (zpc (N 1 + 1) - zpc (N 1)) ≤ (8 + zmc (sK2 ((sIx a1 9) && (sIx a2 8)) ((sMay N T a1) && !decide (N 2 = 40))) (N 1) (N 1 + 1)) by first | omega | (rw [zmc_0 hk0]; omega) | (rw [zms_0 hk0]; omega)), (show 0 + 6 + 6 + 4 + 100 + (zps (N 1 + 1) - zps (N 1)) ≤ (200 + zms (sK2 ((sIx a1 9) && (sIx a2 8)) ((sMay N T a1) && !decide (N 2 = 40))) (N 1) (N 1 + 1)) by first | omega | (rw [zmc_0 hk0]; omega) | (rw [zms_0 hk0]; omega))⟩) hD hS hA (fun zw_9 Hz Lz hw hP hD hS => ?_)
      obtain ⟨zA_9, mc, g, hC, heA_9⟩ := hw
      refine lv_iload_n hx hb dX6_hang_77 rfl (lv_at hl 0 rfl) ?_
      exact vx_ret (z_widen (k := (8 + zmc (sK2 ((sIx a1 9) && (sIx a2 8)) ((sMay N T a1) && !decide (N 2 = 40))) (N 1) (N 1 + 1))) (n := (200 + zms (sK2 ((sIx a1 9) && (sIx a2 8)) ((sMay N T a1) && !decide (N 2 = 40))) (N 1) (N 1 + 1))) (show 0 + 1 + 1 + 1 + 1 + (zpc (N 1 + 1) - zpc (N 1)) ≤ (8 + zmc (sK2 ((sIx a1 9) && (sIx a2 8)) ((sMay N T a1) && !decide (N 2 = 40))) (N 1) (N 1 + 1)) by first | omega | (rw [zmc_0 hk0]; omega) | (rw [zms_0 hk0]; omega)) (show 0 + 6 + 6 + 4 + 100 + (zps (N 1 + 1) - zps (N 1)) ≤ (200 + zms (sK2 ((sIx a1 9) && (sIx a2 8)) ((sMay N T a1) && !decide (N 2 = 40))) (N 1) (N 1 + 1)) by first | omega | (rw [zmc_0 hk0]; omega) | (rw [zms_0 hk0]; omega)) (W.iret (v := (nI (N 2))) hx hb hr (fun t ht hW => ⟨⟨(nI (N 2)), zw_9, rfl, ⟨hk0, rfl, by rw [show (nHang N T a1 a2).1 = (sNote (va_up N 2 (N 2 + 1)) (va_up (va_up (va_up (va_up T 7 (upd (T 7) (N 2) a1)) 8 (upd (T 8) (N 2) a2)) 9 (upd (T 9) (N 2) (-1))) 10 (upd (T 10) (N 2) 0)) 1 a1 (nI (N 2))).1 from va_up_cm (by decide)]; exact ⟨_, _, _, hC⟩⟩, ⟨by rw [ht]; exact hP, hD⟩⟩, hS.F ht⟩) hS.2.2 dX6_hang_78 hlocks))
    · skip
      have zd_4 := Int32.not_lt.mp zc_4
      have hq5 : N 2 = 40 := by have hz9 := Nat.le_of_not_lt (fun z => zc_4 ((nI_ltI (b := 40) (by omega) (by omega)).mpr z)); omega
      have hq6 : decide (N 2 = 40) = true := decide_eq_true hq5
      obtain ⟨sa, hsa⟩ := zText hNs (i := 3) (q := ("BoilerLog", 143, "the person may not hang a tag")) rfl
      exact vx_throwS (own := RX6) (cls := "java/lang/IllegalStateException") (names := ["java/lang/RuntimeException", "java/lang/Exception"]) (A := fun _ => False) hx hb hst hown (by decide) (by decide) (hts _ (List.mem_of_getElem? (i := 1) rfl)) (hts _ (List.mem_of_getElem? (i := 2) rfl)) hsa (zThrow_all (fun w h => hts w (List.mem_cons_of_mem _ (List.mem_append_left _ (List.mem_append_right _ h)))) zBad_99 hNs) zGood_99 (hZ.1.1.narrow (fun _ h => h.elim)) (hZ.1.2.1.narrow (fun _ h => h.elim)) hS0 (by rw [hml]; exact hl.1) dX6_hang_28 dX6_hang_31 dX6_hang_32 dX6_hang_34 dX6_hang_37 (fun x h => (hxt x h).elim) (Nat.le_of_ble_eq_true rfl) (Nat.le_of_ble_eq_true rfl) (show 0 + 1 + 1 + 1 ≤ (8 + zmc (sK2 ((sIx a1 9) && (sIx a2 8)) ((sMay N T a1) && !decide (N 2 = 40))) (N 1) (N 1 + 1)) by omega) (show 0 + 6 + 6 + 6 ≤ (200 + zms (sK2 ((sIx a1 9) && (sIx a2 8)) ((sMay N T a1) && !decide (N 2 = 40))) (N 1) (N 1 + 1)) by omega) hlocks (fun t _ hz hq => ⟨1, (show sK2 ((sIx a1 9) && (sIx a2 8)) ((sMay N T a1) && !decide (N 2 = 40)) = (2 : Int32) from by rw [hq6]; simp [sK1, sK2, sK3, zok_1, zok_5, zc_2, zc_4, zd_4]), rfl, ⟨Nat.le_trans hS0.1 hz, fun q hq1 _ => (hq q (Nat.lt_of_lt_of_le hq1 hS0.1)).trans (hS0.2.1 q hq1 id)⟩⟩) (fun z hz => (hS0.2.2 z hz).elim) (show 0 + 1 + 1 + 1 ≤ (8 + zmc (sK2 ((sIx a1 9) && (sIx a2 8)) ((sMay N T a1) && !decide (N 2 = 40))) (N 1) (N 1 + 1)) by omega) (show 0 + 6 + 6 + 6 ≤ (200 + zms (sK2 ((sIx a1 9) && (sIx a2 8)) ((sMay N T a1) && !decide (N 2 = 40))) (N 1) (N 1 + 1)) by omega)

set_option maxHeartbeats 4000000 in
set_option maxRecDepth 100000 in
theorem c_X6_alarm (l : Launch) (hst : l.stackTraces = false) (G : zG) (d : Nat) (r A : Nat → Nat) (mc : Nat → Int32) (g : Nat → Nat → Int32) (N : Nat → Nat) (T : Nat → Nat → Int32) (w : va_W) (K : Nat) (a1 a2 : Int32) (b3 : Bool) (a4 : Int32) (b5 : Bool) (sz : Nat) (hC : sCQ G d r A mc g N T w) (hI : sInv N T K 0) (hKk : K ≤ 511) : vx_Met l yX6_alarm wsX6_alarm ({ frames := 7, cells := 8, slots := 200, locals := 171 }) (va_Pc [.ref (r 0), .int a1, .int a2, .int (zb b3), .int a4, .int (zb b5)] (zCu G d w sz)) (va_Qi (fun (r1 : Int32) (w1 : va_W) => sK3 ((sIx a1 3) && (sIx a4 8)) (sIn a2 0 1000) (!decide (N 3 = 10)) = 0 ∧ r1 = nI (N 3) ∧ sCO G d r ((nAlarm N T a1 a2 b3 a4 b5).1) ((nAlarm N T a1 a2 b3 a4 b5).2) w1) (zB G (va_A w sz)) (va_A w sz)) (zXk ["java/lang/IndexOutOfBoundsException", "java/lang/IllegalArgumentException", "java/lang/IllegalStateException"] (sK3 ((sIx a1 3) && (sIx a4 8)) (sIn a2 0 1000) (!decide (N 3 = 10)))) (8) (200) (va_A w sz) := by
  refine vx_ofW (cc := cX6_alarm) (maxL := 6) (ret := (some .int)) (by decide) rfl ?_
  intro p e s m args below meth c s₁ B hml hxt hv
  obtain ⟨rfl, hsz, hP, hK, hD0, hZ⟩ := hv
  have hx := B.exec
  have hb := B.bytes
  have hr := B.returns
  have hts := atoms_spec (ws := wsX6_alarm) B.pre
  have hown : s.vm.findClass RX6 = some m.cls := findClass_of_methodNamed B.named
  have hlocks := B.notSynchronized
  have hi_X0 : ∀ w ∈ u_ws RX0 TX0 6, w ∈ wsX6_alarm := (fun _ h => List.mem_cons_of_mem _ (List.mem_append_left _ (List.mem_append_left _ (List.mem_append_left _ (List.mem_append_left _ (List.mem_append_right _ h))))))
  have hi_X6 : ∀ w ∈ u_ws RX6 TX6 14, w ∈ wsX6_alarm := (fun _ h => List.mem_cons_of_mem _ (List.mem_append_left _ (List.mem_append_left _ (List.mem_append_left _ (List.mem_append_left _ (List.mem_append_left _ (List.mem_append_right _ h)))))))
  have hNs := hZ.1.2.2
  have hS0 : va_S (fun _ => False) s.heap s.heap [] := va_S.rf
  subst hsz
  have hD := hD0.self (sz := s.heap.size)
  generalize hAe : va_A w s.heap.size = Aw at hD hZ ⊢
  have hA : ∀ q : Nat, s.heap.size ≤ q → Aw q := fun q h => by rw [← hAe]; exact Or.inr h
  have hS : va_S Aw s.heap s.heap [] := va_S.rf
  have hl := lv_entry ([.ref (r 0), .int a1, .int a2, .int (zb b3), .int a4, .int (zb b5)]) (n := 6) (Nat.le_of_ble_eq_true rfl)
  rw [lg_entry_eq]
  generalize (lg_sl ([.ref (r 0), .int a1, .int a2, .int (zb b3), .int a4, .int (zb b5)]) ++ List.replicate (6 - (lg_sl ([.ref (r 0), .int a1, .int a2, .int (zb b3), .int a4, .int (zb b5)])).length) Slot.unset).toArray = ls at hl ⊢
  have hl : lv_has ls 6 [(0, .ref (r 0)), (1, .int a1), (2, .int a2), (3, .int (zb b3)), (4, .int a4), (5, .int (zb b5))] := hl
  have hN := hI.sm
  obtain ⟨hn2, hn3, hn4, hn5, hn6, hn0⟩ := id hN
  have h1n := sN1_c hI hKk
  refine lv_iload_n hx hb dX6_alarm_0 rfl (lv_at hl 1 rfl) ?_
  refine z_chk (vx_runS (As := [.int a1]) (rest := []) ⟨hx, hb, hml, hown, hts⟩ (c_X6_checkVessel l hst G w a1) (va_cwS 1 hts gX6_alarm_X6_checkVessel rfl rfl rfl (by decide +kernel) ⟨Nat.le_of_ble_eq_true rfl, Nat.le_of_ble_eq_true rfl⟩) (z_rs hK hP hZ.1 hS) rfl rfl hl.1 rfl (lv_room (Nat.le_of_ble_eq_true rfl)) dX6_alarm_1 ⟨(show 0 + 1 ≤ 8 by omega), (show 0 + 6 ≤ 200 by omega)⟩) hP hS0 (fun zno => ⟨0, (show sK3 ((sIx a1 3) && (sIx a4 8)) (sIn a2 0 1000) (!decide (N 3 = 10)) = (1 : Int32) from by simp [sK1, sK2, sK3, sIn, zno]), rfl⟩) (fun x h => (hxt x h).elim) hlocks (show 0 + 1 ≤ 8 by omega) (show 0 + 6 ≤ 200 by omega) (fun zok_1 Hz Lz hP hS0 => ?_)
  have hS : va_S Aw s.heap Hz Lz := z_SF hS0
  refine lv_iload hx hb dX6_alarm_4 (lv_at hl 4 rfl) ?_
  refine z_chk (vx_runS (As := [.int a4]) (rest := []) ⟨hx, hb, hml, hown, hts⟩ (c_X6_checkValve l hst G w a4) (va_cwS 1 hts gX6_alarm_X6_checkValve rfl rfl rfl (by decide +kernel) ⟨Nat.le_of_ble_eq_true rfl, Nat.le_of_ble_eq_true rfl⟩) (z_rs hK hP hZ.1 hS) rfl rfl hl.1 rfl (lv_room (Nat.le_of_ble_eq_true rfl)) dX6_alarm_6 ⟨(show 0 + 1 + 1 ≤ 8 by omega), (show 0 + 6 + 6 ≤ 200 by omega)⟩) hP hS0 (fun zno => ⟨0, (show sK3 ((sIx a1 3) && (sIx a4 8)) (sIn a2 0 1000) (!decide (N 3 = 10)) = (1 : Int32) from by simp [sK1, sK2, sK3, sIn, zok_1, zno]), rfl⟩) (fun x h => (hxt x h).elim) hlocks (show 0 + 1 + 1 ≤ 8 by omega) (show 0 + 6 + 6 ≤ 200 by omega) (fun zok_6 Hz Lz hP hS0 => ?_)
  have hS : va_S Aw s.heap Hz Lz := z_SF hS0
  refine lv_iload_n hx hb dX6_alarm_9 rfl (lv_at hl 2 rfl) ?_
  refine lv_if_lt (tgt := 20) hx hb dX6_alarm_10 (by decide) (fun zc_1 => ?_) (fun zc_1 => ?_)
  · skip
    have zd_1 := Int32.not_le.mpr zc_1
    obtain ⟨sa, hsa⟩ := zText hNs (i := 8) (q := ("BoilerLog", 208, "no such level")) rfl
    exact vx_throwS (own := RX6) (cls := "java/lang/IllegalArgumentException") (names := ["java/lang/RuntimeException", "java/lang/Exception"]) (A := fun _ => False) hx hb hst hown (by decide) (by decide) (hts _ (List.mem_of_getElem? (i := 1) rfl)) (hts _ (List.mem_of_getElem? (i := 2) rfl)) hsa (zThrow_all (fun w h => hts w (List.mem_cons_of_mem _ (List.mem_append_left _ (List.mem_append_left _ (List.mem_append_right _ h))))) zBad_88 hNs) zGood_88 (hZ.1.1.narrow (fun _ h => h.elim)) (hZ.1.2.1.narrow (fun _ h => h.elim)) hS0 (by rw [hml]; exact hl.1) dX6_alarm_20 dX6_alarm_23 dX6_alarm_24 dX6_alarm_26 dX6_alarm_29 (fun x h => (hxt x h).elim) (Nat.le_of_ble_eq_true rfl) (Nat.le_of_ble_eq_true rfl) (show 0 + 1 + 1 + 1 ≤ 8 by omega) (show 0 + 6 + 6 + 6 ≤ 200 by omega) hlocks (fun t _ hz hq => ⟨1, (show sK3 ((sIx a1 3) && (sIx a4 8)) (sIn a2 0 1000) (!decide (N 3 = 10)) = (2 : Int32) from by simp [sK1, sK2, sK3, sIn, zok_1, zok_6, zc_1, zd_1]), rfl, ⟨Nat.le_trans hS0.1 hz, fun q hq1 _ => (hq q (Nat.lt_of_lt_of_le hq1 hS0.1)).trans (hS0.2.1 q hq1 id)⟩⟩) (fun z hz => (hS0.2.2 z hz).elim) (show 0 + 1 + 1 + 1 ≤ 8 by omega) (show 0 + 6 + 6 + 6 ≤ 200 by omega)
  · skip
    have zd_1 := Int32.not_lt.mp zc_1
    refine lv_iload_n hx hb dX6_alarm_13 rfl (lv_at hl 2 rfl) ?_
    refine lv_sipush (v := 1000) hx hb dX6_alarm_14 (by decide) ?_
    refine lv_icmp_le (tgt := 30) hx hb dX6_alarm_17 (by decide) (fun zc_2 => ?_) (fun zc_2 => ?_)
    · skip
      have zd_2 := Int32.not_lt.mpr zc_2
      refine lv_aload_n hx hb dX6_alarm_30 rfl (lv_at hl 0 rfl) ?_
      have hh0 : w[0]? = some (r 0, .inr (7, [.ref (r 1), .ref (r 2), .ref (r 3), .ref (r 4), .ref (r 5), .ref (r 6), .ref (r 7), .ref (r 8), .ref (r 9), .ref (r 10), .int (nI (N 0)), .int ((T 19) 0), .int ((T 19) 1), .int (nI (N 6))])) := hC.1.1 0 (by omega)
      refine va_get (D := G.1) (ci := 7) (v := .ref (r 6)) (C := RX6) (T := TX6) (N := 14) hx hb hts hi_X6 hown hK hP 0 hh0 rfl 5 (by decide) (hts (.fieldLink RX6 33 "BoilerLog" "alarms" "Ljava/util/ArrayList;") (List.mem_of_getElem? (i := 5) rfl)) (fun _ h9 => h9) rfl dX6_alarm_31 ?_
      have hh6 : w[6]? = some (r 6, .inr (0, [.int (mc 1), cDt d (N 3) (A 10), .int (nI (N 3))])) := hC.1.1 6 (by omega)
      refine z_csi (va_Run.run (va_runV (As := []) (rest := []) ⟨hx, hb, hml, hown, hts⟩ (c_Jx4a65c_size_8abf5 l G w 6 (r 6) (mc 1) (cDt d (N 3) (A 10)) (nI (N 3)) (by first | assumption | omega | exact sIx_in.mp (by assumption))) (cwV 0 hts gX6_alarm_Jx4a65c_size_8abf5 rfl rfl rfl (by decide +kernel) ⟨Nat.le_of_ble_eq_true rfl, Nat.le_of_ble_eq_true rfl⟩) (z_pv hK hP (ci := 0) (q0 := 6) rfl hh6 hP) rfl rfl hl.1 rfl (lv_room (Nat.le_of_ble_eq_true rfl)) dX6_alarm_34 ⟨(show 0 + 1 + 1 + 0 ≤ 8 by omega), (show 0 + 6 + 6 + 0 ≤ 200 by omega)⟩)) (fun zr_3 hzr_3 => ?_)
      subst hzr_3
      refine lv_bipush (v := 10) hx hb dX6_alarm_37 (by decide) ?_
      refine lv_icmp_lt (tgt := 52) hx hb dX6_alarm_39 (by decide) (fun zc_4 => ?_) (fun zc_4 => ?_)
      · skip
        have zd_4 := Int32.not_le.mpr zc_4
        have hq4 : N 3 < 10 := (nI_ltI (b := 10) (by omega) (by omega)).mp zc_4
        have hq6 : decide (N 3 = 10) = false := decide_eq_false (by omega)
        have hk0 : sK3 ((sIx a1 3) && (sIx a4 8)) (sIn a2 0 1000) (!decide (N 3 = 10)) = 0 := by rw [hq6]; simp [sK1, sK2, sK3, sIn, zok_1, zok_6, zc_1, zd_1, zc_2, zd_2, zc_4, zd_4]
        refine lv_aload_n hx hb dX6_alarm_52 rfl (lv_at hl 0 rfl) ?_
        refine va_get (D := G.1) (ci := 7) (v := .ref (r 6)) (C := RX6) (T := TX6) (N := 14) hx hb hts hi_X6 hown hK hP 0 hh0 rfl 5 (by decide) (hts (.fieldLink RX6 33 "BoilerLog" "alarms" "Ljava/util/ArrayList;") (List.mem_of_getElem? (i := 5) rfl)) (fun _ h9 => h9) rfl dX6_alarm_53 ?_
        refine va_new (ci := 1) (fs := [.int 0, .int 0, .int 0, .int 0, .int 0, .int 0]) (C := RX0) (T := TX0) (N := 6) hx hb hts hi_X0 tyX0 tyX0_ok hown (hts (.classLink RX6 212 RX0) (List.mem_of_getElem? (i := 6) rfl)) (hts (.instantiable RX0 6) (List.mem_of_getElem? (i := 7) rfl)) (hts (.initialized RX0) (List.mem_of_getElem? (i := 8) rfl)) hK hP hD hS hA rfl (fun j hj => by rcases (show j = 0 ∨ j = 1 ∨ j = 2 ∨ j = 3 ∨ j = 4 ∨ j = 5 by omega) with rfl | rfl | rfl | rfl | rfl | rfl <;> rfl) (show 0 + 1 + 1 + 1 ≤ 8 by omega) (show 0 + 6 + 6 + 6 ≤ 200 by omega) dX6_alarm_56 (fun zq_5 Hz hP hD hS => ?_)
        have hP : va_P G.1 vwCl (w ++ ([(zq_5, .inr (1, [.int 0, .int 0, .int 0, .int 0, .int 0, .int 0]))] : va_W)) Hz := hP
        have hD : va_D Aw (w ++ ([(zq_5, .inr (1, [.int 0, .int 0, .int 0, .int 0, .int 0, .int 0]))] : va_W)) := hD
        have hhn : (w ++ ([(zq_5, .inr (1, [.int 0, .int 0, .int 0, .int 0, .int 0, .int 0]))] : va_W))[w.length]? = some (zq_5, .inr (1, [.int 0, .int 0, .int 0, .int 0, .int 0, .int 0])) := z_last
        refine lv_dup hx hb dX6_alarm_59 rfl ?_
        refine lv_iload_n hx hb dX6_alarm_60 rfl (lv_at hl 1 rfl) ?_
        refine lv_iload_n hx hb dX6_alarm_61 rfl (lv_at hl 2 rfl) ?_
        refine lv_iload_n hx hb dX6_alarm_62 rfl (lv_at hl 3 rfl) ?_
        refine lv_iload hx hb dX6_alarm_63 (lv_at hl 4 rfl) ?_
        refine lv_iload hx hb dX6_alarm_65 (lv_at hl 5 rfl) ?_
        refine z_cuv (va_runIN (As := [.int a1, .int a2, .int (zb b3), .int a4, .int (zb b5)]) (rest := [.ref zq_5, .ref (r 6)]) ⟨hx, hb, hml, hown, hts⟩ (c_X0_init l G d (w ++ ([(zq_5, .inr (1, [.int 0, .int 0, .int 0, .int 0, .int 0, .int 0]))] : va_W)) w.length zq_5 a1 a2 b3 a4 b5 Hz.size (by assumption)) ⟨va_cnB 5 hts gX6_alarm_X0_init_n214 rfl rfl rfl (hNs.1 _ (List.mem_append_left _ (List.mem_of_getElem? (i := 19) rfl))) (hts (.initialized RX0) (List.mem_of_getElem? (i := 8) rfl)) (by decide +kernel) ⟨Nat.le_of_ble_eq_true rfl, Nat.le_of_ble_eq_true rfl⟩, rfl, hts (.instanceMethod yX0_init) (List.mem_of_getElem? (i := 27) rfl)⟩ (z_ws hK hP hD hZ hS hA) rfl rfl hl.1 rfl (lv_room (Nat.le_of_ble_eq_true rfl)) dX6_alarm_67 ⟨(show 0 + 1 + 1 + 1 + 0 ≤ 8 by omega), (show 0 + 6 + 6 + 6 + 0 ≤ 200 by omega)⟩) hD hS hA (fun zw_6 Hz Lz hw hP hD hS => ?_)
        rw [z_setl] at hw
        subst hw
        have hkv := sC_len hC
        have hfr := sC_fresh hC hD.new
        have hC : sCQ G d r A mc g N T (w ++ ([(zq_5, .inr (1, [.int a1, .int a2, .int (zb b3), .int a4, .int (zb b5), .int 0]))] : va_W)) := sC_app hC _
        have hhv : (w ++ ([(zq_5, .inr (1, [.int a1, .int a2, .int (zb b3), .int a4, .int (zb b5), .int 0]))] : va_W))[w.length]? = some (zq_5, .inr (1, [.int a1, .int a2, .int (zb b3), .int a4, .int (zb b5), .int 0])) := z_last
        have h16 : T 16 (N 3) = 0 := hI.2.2.2.2.2.1 _ (Nat.le_refl _)
        have hhv : (w ++ ([(zq_5, .inr (1, [.int a1, .int a2, .int (zb b3), .int a4, .int (zb b5), .int 0]))] : va_W))[w.length]? = some (zq_5, .inr (1, [.int a1, .int a2, .int (zb b3), .int a4, .int (zb b5), .int (T 16 (N 3))])) := by rw [h16]; exact z_last
        generalize hze_6 : (w ++ ([(zq_5, .inr (1, [.int a1, .int a2, .int (zb b3), .int a4, .int (zb b5), .int 0]))] : va_W)) = zx_6 at hP hD hC hhv
        have hh6 : zx_6[6]? = some (r 6, .inr (0, [.int (mc 1), cDt d (N 3) (A 10), .int (nI (N 3))])) := hC.1.1 6 (by omega)
        refine z_cui (va_runV (As := [.ref zq_5]) (rest := []) ⟨hx, hb, hml, hown, hts⟩ (c_add_a l G d r A mc g N T zx_6 a1 a2 a4 b3 b5 w.length zq_5 Hz.size hC hN hq4 hkv hhv hfr) (cwV 1 hts gX6_alarm_Jx4a65c_add_9ea2d rfl rfl rfl (by decide +kernel) ⟨Nat.le_of_ble_eq_true rfl, Nat.le_of_ble_eq_true rfl⟩) (z_wv hK hP (ci := 0) (q0 := 6) rfl hh6 hP hD hZ hS hA) rfl rfl hl.1 rfl (lv_room (Nat.le_of_ble_eq_true rfl)) dX6_alarm_70 ⟨(show 0 + 1 + 1 + 1 + 1 ≤ 8 by omega), (show 0 + 6 + 6 + 6 + 100 ≤ 200 by omega)⟩) hD hS hA (fun zr_7 zw_7 Hz Lz hw hP hD hS => ?_)
        obtain ⟨he7, zA_7, mc, hC, hva⟩ := hw
        refine lv_pop hx hb dX6_alarm_73 rfl ?_
        refine lv_aload_n hx hb dX6_alarm_74 rfl (lv_at hl 0 rfl) ?_
        have hh0 : zw_7[0]? = some (r 0, .inr (7, [.ref (r 1), .ref (r 2), .ref (r 3), .ref (r 4), .ref (r 5), .ref (r 6), .ref (r 7), .ref (r 8), .ref (r 9), .ref (r 10), .int (nI (N 0)), .int ((T 19) 0), .int ((T 19) 1), .int (nI (N 6))])) := hC.1.1 0 (by omega)
        refine va_get (D := G.1) (ci := 7) (v := .ref (r 6)) (C := RX6) (T := TX6) (N := 14) hx hb hts hi_X6 hown hK hP 0 hh0 rfl 5 (by decide) (hts (.fieldLink RX6 33 "BoilerLog" "alarms" "Ljava/util/ArrayList;") (List.mem_of_getElem? (i := 5) rfl)) (fun _ h9 => h9) rfl dX6_alarm_75 ?_
        have hh6 : zw_7[6]? = some (r 6, .inr (0, [.int (mc 1), cDt d ((N 3 + 1)) (zA_7 10), .int (nI ((N 3 + 1)))])) := hC.1.1 6 (by omega)
        refine z_csi (va_Run.run (va_runV (As := []) (rest := []) ⟨hx, hb, hml, hown, hts⟩ (c_Jx4a65c_size_8abf5 l G zw_7 6 (r 6) (mc 1) (cDt d ((N 3 + 1)) (zA_7 10)) (nI ((N 3 + 1))) (by first | assumption | omega | exact sIx_in.mp (by assumption))) (cwV 0 hts gX6_alarm_Jx4a65c_size_8abf5 rfl rfl rfl (by decide +kernel) ⟨Nat.le_of_ble_eq_true rfl, Nat.le_of_ble_eq_true rfl⟩) (z_pv hK hP (ci := 0) (q0 := 6) rfl hh6 hP) rfl rfl hl.1 rfl (lv_room (Nat.le_of_ble_eq_true rfl)) dX6_alarm_78 ⟨(show 0 + 1 + 1 + 1 + 1 + 0 ≤ 8 by omega), (show 0 + 6 + 6 + 6 + 100 + 0 ≤ 200 by omega)⟩)) (fun zr_8 hzr_8 => ?_)
        subst hzr_8
        refine lv_iconst (v := 1) hx hb dX6_alarm_81 (by decide) ?_
        refine lv_isub hx hb dX6_alarm_82 ?_
        refine W.eq (g2 := F0 m 83 ls [.int (nI (N 3))]) (by first | (rw [nI_pred]; done) | (rw [nI_pred]; rfl)) ?_
        exact vx_ret (z_widen (k := 8) (n := 200) (show 0 + 1 + 1 + 1 + 1 ≤ 8 by omega) (show 0 + 6 + 6 + 6 + 100 ≤ 200 by omega) (W.iret (v := nI (N 3)) hx hb hr (fun t ht hW => ⟨⟨nI (N 3), zw_7, rfl, ⟨hk0, rfl, _, _, _, hC⟩, ⟨by rw [ht]; exact hP, hD⟩⟩, hS.F ht⟩) hS.2.2 dX6_alarm_83 hlocks))
      · skip
        have zd_4 := Int32.not_lt.mp zc_4
        have hq5 : N 3 = 10 := by have hz9 := Nat.le_of_not_lt (fun z => zc_4 ((nI_ltI (b := 10) (by omega) (by omega)).mpr z)); omega
        have hq6 : decide (N 3 = 10) = true := decide_eq_true hq5
        obtain ⟨sa, hsa⟩ := zText hNs (i := 9) (q := ("BoilerLog", 210, "too many alarms")) rfl
        exact vx_throwS (own := RX6) (cls := "java/lang/IllegalStateException") (names := ["java/lang/RuntimeException", "java/lang/Exception"]) (A := fun _ => False) hx hb hst hown (by decide) (by decide) (hts _ (List.mem_of_getElem? (i := 3) rfl)) (hts _ (List.mem_of_getElem? (i := 4) rfl)) hsa (zThrow_all (fun w h => hts w (List.mem_cons_of_mem _ (List.mem_append_left _ (List.mem_append_right _ h)))) zBad_99 hNs) zGood_99 (hZ.1.1.narrow (fun _ h => h.elim)) (hZ.1.2.1.narrow (fun _ h => h.elim)) hS0 (by rw [hml]; exact hl.1) dX6_alarm_42 dX6_alarm_45 dX6_alarm_46 dX6_alarm_48 dX6_alarm_51 (fun x h => (hxt x h).elim) (Nat.le_of_ble_eq_true rfl) (Nat.le_of_ble_eq_true rfl) (show 0 + 1 + 1 + 1 ≤ 8 by omega) (show 0 + 6 + 6 + 6 ≤ 200 by omega) hlocks (fun t _ hz hq => ⟨2, (show sK3 ((sIx a1 3) && (sIx a4 8)) (sIn a2 0 1000) (!decide (N 3 = 10)) = (3 : Int32) from by rw [hq6]; simp [sK1, sK2, sK3, sIn, zok_1, zok_6, zc_1, zd_1, zc_2, zd_2, zc_4, zd_4]), rfl, ⟨Nat.le_trans hS0.1 hz, fun q hq1 _ => (hq q (Nat.lt_of_lt_of_le hq1 hS0.1)).trans (hS0.2.1 q hq1 id)⟩⟩) (fun z hz => (hS0.2.2 z hz).elim) (show 0 + 1 + 1 + 1 ≤ 8 by omega) (show 0 + 6 + 6 + 6 ≤ 200 by omega)
    · skip
      have zd_2 := Int32.not_le.mp zc_2
      obtain ⟨sa, hsa⟩ := zText hNs (i := 8) (q := ("BoilerLog", 208, "no such level")) rfl
      exact vx_throwS (own := RX6) (cls := "java/lang/IllegalArgumentException") (names := ["java/lang/RuntimeException", "java/lang/Exception"]) (A := fun _ => False) hx hb hst hown (by decide) (by decide) (hts _ (List.mem_of_getElem? (i := 1) rfl)) (hts _ (List.mem_of_getElem? (i := 2) rfl)) hsa (zThrow_all (fun w h => hts w (List.mem_cons_of_mem _ (List.mem_append_left _ (List.mem_append_left _ (List.mem_append_right _ h))))) zBad_88 hNs) zGood_88 (hZ.1.1.narrow (fun _ h => h.elim)) (hZ.1.2.1.narrow (fun _ h => h.elim)) hS0 (by rw [hml]; exact hl.1) dX6_alarm_20 dX6_alarm_23 dX6_alarm_24 dX6_alarm_26 dX6_alarm_29 (fun x h => (hxt x h).elim) (Nat.le_of_ble_eq_true rfl) (Nat.le_of_ble_eq_true rfl) (show 0 + 1 + 1 + 1 ≤ 8 by omega) (show 0 + 6 + 6 + 6 ≤ 200 by omega) hlocks (fun t _ hz hq => ⟨1, (show sK3 ((sIx a1 3) && (sIx a4 8)) (sIn a2 0 1000) (!decide (N 3 = 10)) = (2 : Int32) from by simp [sK1, sK2, sK3, sIn, zok_1, zok_6, zc_1, zd_1, zc_2, zd_2]), rfl, ⟨Nat.le_trans hS0.1 hz, fun q hq1 _ => (hq q (Nat.lt_of_lt_of_le hq1 hS0.1)).trans (hS0.2.1 q hq1 id)⟩⟩) (fun z hz => (hS0.2.2 z hz).elim) (show 0 + 1 + 1 + 1 ≤ 8 by omega) (show 0 + 6 + 6 + 6 ≤ 200 by omega)

set_option maxHeartbeats 4000000 in
set_option maxRecDepth 100000 in
theorem c_X6_advance (l : Launch) (hst : l.stackTraces = false) (G : zG) (d : Nat) (r A : Nat → Nat) (mc : Nat → Int32) (g : Nat → Nat → Int32) (N : Nat → Nat) (T : Nat → Nat → Int32) (w : va_W) (K : Nat) (a1 : Int32) (sz : Nat) (hC : sCQ G d r A mc g N T w) (hI : sInv N T K 0) (hKk : K ≤ 511) : vx_Met l yX6_advance wsX6_advance ({ frames := 7, cells := (8 + zmc (sK2 (sIn a1 1 100) (decide (nI (N 0) + a1 ≤ 2000))) (N 1) ((sHours a1.toNatClampNeg N T).1 1)), slots := (200 + zms (sK2 (sIn a1 1 100) (decide (nI (N 0) + a1 ≤ 2000))) (N 1) ((sHours a1.toNatClampNeg N T).1 1)), locals := 177 }) (va_Pc [.ref (r 0), .int a1] (zCu G d w sz)) (va_Qi (fun (r1 : Int32) (w1 : va_W) => sK2 (sIn a1 1 100) (decide (nI (N 0) + a1 ≤ 2000)) = 0 ∧ r1 = nI ((sHours a1.toNatClampNeg N T).1 0) ∧ sCO G d r ((sHours a1.toNatClampNeg N T).1) ((sHours a1.toNatClampNeg N T).2) w1) (zB G (va_A w sz)) (va_A w sz)) (zXk ["java/lang/IllegalArgumentException", "java/lang/IllegalStateException"] (sK2 (sIn a1 1 100) (decide (nI (N 0) + a1 ≤ 2000)))) ((8 + zmc (sK2 (sIn a1 1 100) (decide (nI (N 0) + a1 ≤ 2000))) (N 1) ((sHours a1.toNatClampNeg N T).1 1))) ((200 + zms (sK2 (sIn a1 1 100) (decide (nI (N 0) + a1 ≤ 2000))) (N 1) ((sHours a1.toNatClampNeg N T).1 1))) (va_A w sz) := by
  refine vx_ofW (cc := cX6_advance) (maxL := 3) (ret := (some .int)) (by decide) rfl ?_
  intro p e s m args below meth c s₁ B hml hxt hv
  obtain ⟨rfl, hsz, hP, hK, hD0, hZ⟩ := hv
  have hx := B.exec
  have hb := B.bytes
  have hr := B.returns
  have hts := atoms_spec (ws := wsX6_advance) B.pre
  have hown : s.vm.findClass RX6 = some m.cls := findClass_of_methodNamed B.named
  have hlocks := B.notSynchronized
  have hi_X6 : ∀ w ∈ u_ws RX6 TX6 14, w ∈ wsX6_advance := (fun _ h => List.mem_cons_of_mem _ (List.mem_append_left _ (List.mem_append_left _ (List.mem_append_left _ (List.mem_append_left _ (List.mem_append_left _ (List.mem_append_left _ (List.mem_append_left _ (List.mem_append_right _ h)))))))))
  have hNs := hZ.1.2.2
  have hS0 : va_S (fun _ => False) s.heap s.heap [] := va_S.rf
  subst hsz
  have hD := hD0.self (sz := s.heap.size)
  generalize hAe : va_A w s.heap.size = Aw at hD hZ ⊢
  have hA : ∀ q : Nat, s.heap.size ≤ q → Aw q := fun q h => by rw [← hAe]; exact Or.inr h
  have hS : va_S Aw s.heap s.heap [] := va_S.rf
  have hl := lv_entry ([.ref (r 0), .int a1]) (n := 3) (Nat.le_of_ble_eq_true rfl)
  rw [lg_entry_eq]
  generalize (lg_sl ([.ref (r 0), .int a1]) ++ List.replicate (3 - (lg_sl ([.ref (r 0), .int a1])).length) Slot.unset).toArray = ls at hl ⊢
  have hl : lv_has ls 3 [(0, .ref (r 0)), (1, .int a1)] := hl
  have hN := hI.sm
  obtain ⟨hn2, hn3, hn4, hn5, hn6, hn0⟩ := id hN
  have h1n := sN1_c hI hKk
  refine lv_iload_n hx hb dX6_advance_0 rfl (lv_at hl 1 rfl) ?_
  refine lv_iconst (v := 1) hx hb dX6_advance_1 (by decide) ?_
  refine lv_icmp_lt (tgt := 11) hx hb dX6_advance_2 (by decide) (fun zc_1 => ?_) (fun zc_1 => ?_)
  · skip
    have zd_1 := Int32.not_le.mpr zc_1
    obtain ⟨sa, hsa⟩ := zText hNs (i := 5) (q := ("BoilerLog", 193, "too few or too many hours")) rfl
    exact vx_throwS (own := RX6) (cls := "java/lang/IllegalArgumentException") (names := ["java/lang/RuntimeException", "java/lang/Exception"]) (A := fun _ => False) hx hb hst hown (by decide) (by decide) (hts _ (List.mem_of_getElem? (i := 1) rfl)) (hts _ (List.mem_of_getElem? (i := 2) rfl)) hsa (zThrow_all (fun w h => hts w (List.mem_cons_of_mem _ (List.mem_append_left _ (List.mem_append_right _ h)))) zBad_88 hNs) zGood_88 (hZ.1.1.narrow (fun _ h => h.elim)) (hZ.1.2.1.narrow (fun _ h => h.elim)) hS0 (by rw [hml]; exact hl.1) dX6_advance_11 dX6_advance_14 dX6_advance_15 dX6_advance_17 dX6_advance_20 (fun x h => (hxt x h).elim) (Nat.le_of_ble_eq_true rfl) (Nat.le_of_ble_eq_true rfl) (show 0 + 1 ≤ (8 + zmc (sK2 (sIn a1 1 100) (decide (nI (N 0) + a1 ≤ 2000))) (N 1) ((sHours a1.toNatClampNeg N T).1 1)) by omega) (show 0 + 6 ≤ (200 + zms (sK2 (sIn a1 1 100) (decide (nI (N 0) + a1 ≤ 2000))) (N 1) ((sHours a1.toNatClampNeg N T).1 1)) by omega) hlocks (fun t _ hz hq => ⟨0, (show sK2 (sIn a1 1 100) (decide (nI (N 0) + a1 ≤ 2000)) = (1 : Int32) from by simp [sK1, sK2, sK3, sIn, zc_1, zd_1]), rfl, ⟨Nat.le_trans hS0.1 hz, fun q hq1 _ => (hq q (Nat.lt_of_lt_of_le hq1 hS0.1)).trans (hS0.2.1 q hq1 id)⟩⟩) (fun z hz => (hS0.2.2 z hz).elim) (show 0 + 1 ≤ (8 + zmc (sK2 (sIn a1 1 100) (decide (nI (N 0) + a1 ≤ 2000))) (N 1) ((sHours a1.toNatClampNeg N T).1 1)) by omega) (show 0 + 6 ≤ (200 + zms (sK2 (sIn a1 1 100) (decide (nI (N 0) + a1 ≤ 2000))) (N 1) ((sHours a1.toNatClampNeg N T).1 1)) by omega)
  · skip
    have zd_1 := Int32.not_lt.mp zc_1
    refine lv_iload_n hx hb dX6_advance_5 rfl (lv_at hl 1 rfl) ?_
    refine lv_bipush (v := 100) hx hb dX6_advance_6 (by decide) ?_
    refine lv_icmp_le (tgt := 21) hx hb dX6_advance_8 (by decide) (fun zc_2 => ?_) (fun zc_2 => ?_)
    · skip
      have zd_2 := Int32.not_lt.mpr zc_2
      refine lv_aload_n hx hb dX6_advance_21 rfl (lv_at hl 0 rfl) ?_
      have hh0 : w[0]? = some (r 0, .inr (7, [.ref (r 1), .ref (r 2), .ref (r 3), .ref (r 4), .ref (r 5), .ref (r 6), .ref (r 7), .ref (r 8), .ref (r 9), .ref (r 10), .int (nI (N 0)), .int ((T 19) 0), .int ((T 19) 1), .int (nI (N 6))])) := hC.1.1 0 (by omega)
      refine va_get (D := G.1) (ci := 7) (v := .int (nI (N 0))) (C := RX6) (T := TX6) (N := 14) hx hb hts hi_X6 hown hK hP 0 hh0 rfl 10 (by decide) (hts (.fieldLink RX6 56 "BoilerLog" "now" "I") (List.mem_of_getElem? (i := 5) rfl)) (fun _ h9 => h9) rfl dX6_advance_22 ?_
      refine lv_iload_n hx hb dX6_advance_25 rfl (lv_at hl 1 rfl) ?_
      refine lv_iadd hx hb dX6_advance_26 ?_
      refine lv_sipush (v := 2000) hx hb dX6_advance_27 (by decide) ?_
      refine lv_icmp_le (tgt := 43) hx hb dX6_advance_30 (by decide) (fun zc_3 => ?_) (fun zc_3 => ?_)
      · skip
        have zd_3 := Int32.not_lt.mpr zc_3
        have hk0 : sK2 (sIn a1 1 100) (decide (nI (N 0) + a1 ≤ 2000)) = 0 := by simp [sK1, sK2, sK3, sIn, zc_1, zd_1, zc_2, zd_2, zc_3, zd_3]
        obtain ⟨hl1, hl2, ea1⟩ := sAdv1 (a := a1) (by simp [sIn, zc_1, zd_1, zc_2, zd_2, zc_3, zd_3])
        have hl3 := sAdv2 hn0 hl2 ea1 (by assumption)
        refine lv_iconst (v := 0) hx hb dX6_advance_43 (by decide) ?_
        refine lv_istore_n (lv' := [(2, .int 0), (0, .ref (r 0)), (1, .int a1)]) hx hb dX6_advance_44 rfl hl (by decide) rfl (fun ls hl => ?_)
        have key_45 : ∀ (n i : Nat), i ≤ a1.toNatClampNeg → a1.toNatClampNeg < i + n → ∀ (w : va_W) (zA_l45 : Nat → Nat) (mc : Nat → Int32) (g : Nat → Nat → Int32) (Hz : Heap) (Lz : List Loc), (∀ q, q ≠ 8 → zA_l45 q = A q) → sCQ G d r zA_l45 mc g ((sHours i N T).1) ((sHours i N T).2) w → va_P G.1 vwCl w Hz → va_D Aw w → va_S Aw s.heap Hz Lz → ∀ ls : Array Slot, lv_has ls 3 [(0, .ref (r 0)), (1, .int a1), (2, .int (nI i))] → W p l e (headSpec wsX6_advance ({ frames := 7, cells := (8 + zmc (sK2 (sIn a1 1 100) (decide (nI (N 0) + a1 ≤ 2000))) (N 1) ((sHours a1.toNatClampNeg N T).1 1)), slots := (200 + zms (sK2 (sIn a1 1 100) (decide (nI (N 0) + a1 ≤ 2000))) (N 1) ((sHours a1.toNatClampNeg N T).1 1)), locals := 177 })).room s m ([.ref (r 0), .int a1] : List Value).toArray below meth c Hz Lz ((zpc ((sHours i N T).1 1) - zpc (N 1))) ((zps ((sHours i N T).1 1) - zps (N 1))) (vx_MQ below (va_Qi (fun (r1 : Int32) (w1 : va_W) => sK2 (sIn a1 1 100) (decide (nI (N 0) + a1 ≤ 2000)) = 0 ∧ r1 = nI ((sHours a1.toNatClampNeg N T).1 0) ∧ sCO G d r ((sHours a1.toNatClampNeg N T).1) ((sHours a1.toNatClampNeg N T).2) w1) (zB G Aw) Aw) (zXk ["java/lang/IllegalArgumentException", "java/lang/IllegalStateException"] (sK2 (sIn a1 1 100) (decide (nI (N 0) + a1 ≤ 2000)))) (([.ref (r 0), .int a1] : List Value).toArray) s ((8 + zmc (sK2 (sIn a1 1 100) (decide (nI (N 0) + a1 ≤ 2000))) (N 1) ((sHours a1.toNatClampNeg N T).1 1))) ((200 + zms (sK2 (sIn a1 1 100) (decide (nI (N 0) + a1 ≤ 2000))) (N 1) ((sHours a1.toNatClampNeg N T).1 1))) Aw) (F0 m 45 ls []) := by
          intro n
          induction n with
          | zero => intro i h1 h2; exact absurd h2 (by omega)
          | succ n ih =>
            intro i hi hn w zA_l45 mc g Hz Lz heA_l45 hC hP hD hS ls hl
            have hIi := sInv_hours hI (show N 0 + i ≤ 2000 by omega)
            have hq1 := zpc_m (sHours_n1 (N := N) (T := T) (h := i))
            have hq1b := zps_m (sHours_n1 (N := N) (T := T) (h := i))
            have hqe := zpc_m (sHours_m (N := N) (T := T) hi)
            have hqeb := zps_m (sHours_m (N := N) (T := T) hi)
            refine lv_iload_n hx hb dX6_advance_45 rfl (lv_at hl 2 rfl) ?_
            refine lv_iload_n hx hb dX6_advance_46 rfl (lv_at hl 1 rfl) ?_
            refine W.eq (congrArg (fun z : Int32 => F0 m 47 ls [.int z, .int (nI i)]) ea1) ?_
            refine lv_icmp_ge (tgt := 60) hx hb dX6_advance_47 (by decide) (fun zc_4 => ?_) (fun zc_4 => ?_)
            · skip
              have zd_4 := Int32.not_lt.mpr zc_4
              have zhc := (nI_leI (by omega) (by omega)).mp zc_4
              have zie := Nat.le_antisymm hi zhc
              subst zie
              refine lv_aload_n hx hb dX6_advance_60 rfl (lv_at hl 0 rfl) ?_
              have hh0 : w[0]? = some (r 0, .inr (7, [.ref (r 1), .ref (r 2), .ref (r 3), .ref (r 4), .ref (r 5), .ref (r 6), .ref (r 7), .ref (r 8), .ref (r 9), .ref (r 10), .int (nI (((sHours a1.toNatClampNeg N T).1) 0)), .int ((((sHours a1.toNatClampNeg N T).2) 19) 0), .int ((((sHours a1.toNatClampNeg N T).2) 19) 1), .int (nI (((sHours a1.toNatClampNeg N T).1) 6))])) := hC.1.1 0 (by omega)
              refine va_get (D := G.1) (ci := 7) (v := .int (nI (((sHours a1.toNatClampNeg N T).1) 0))) (C := RX6) (T := TX6) (N := 14) hx hb hts hi_X6 hown hK hP 0 hh0 rfl 10 (by decide) (hts (.fieldLink RX6 56 "BoilerLog" "now" "I") (List.mem_of_getElem? (i := 5) rfl)) (fun _ h9 => h9) rfl dX6_advance_61 ?_
              exact vx_ret (z_widen (k := (8 + zmc (sK2 (sIn a1 1 100) (decide (nI (N 0) + a1 ≤ 2000))) (N 1) ((sHours a1.toNatClampNeg N T).1 1))) (n := (200 + zms (sK2 (sIn a1 1 100) (decide (nI (N 0) + a1 ≤ 2000))) (N 1) ((sHours a1.toNatClampNeg N T).1 1))) (show (zpc ((sHours a1.toNatClampNeg N T).1 1) - zpc (N 1)) ≤ (8 + zmc (sK2 (sIn a1 1 100) (decide (nI (N 0) + a1 ≤ 2000))) (N 1) ((sHours a1.toNatClampNeg N T).1 1)) by first | omega | (rw [zmc_0 hk0]; omega) | (rw [zms_0 hk0]; omega)) (show (zps ((sHours a1.toNatClampNeg N T).1 1) - zps (N 1)) ≤ (200 + zms (sK2 (sIn a1 1 100) (decide (nI (N 0) + a1 ≤ 2000))) (N 1) ((sHours a1.toNatClampNeg N T).1 1)) by first | omega | (rw [zmc_0 hk0]; omega) | (rw [zms_0 hk0]; omega)) (W.iret (v := nI (((sHours a1.toNatClampNeg N T).1) 0)) hx hb hr (fun t ht hW => ⟨⟨nI (((sHours a1.toNatClampNeg N T).1) 0), w, rfl, ⟨hk0, rfl, _, _, _, hC⟩, ⟨by rw [ht]; exact hP, hD⟩⟩, hS.F ht⟩) hS.2.2 dX6_advance_64 hlocks))
            · skip
              have zd_4 := Int32.not_le.mp zc_4
              have zhc := Nat.lt_of_not_le (fun z => zc_4 ((nI_leI (by omega) (by omega)).mpr z))
              have h0i : (sHours i N T).1 0 < 2000 := by rw [hIi.2]; omega
              have hsh : sHours (i + 1) N T = sHour (sHours i N T).1 (sHours i N T).2 := rfl
              have hq2 := zpc_m (sHour_n1l (N := (sHours i N T).1) (T := (sHours i N T).2))
              have hq2b := zps_m (sHour_n1l (N := (sHours i N T).1) (T := (sHours i N T).2))
              have hq3 := zpc_m (sHours_m (N := N) (T := T) (a := i + 1) (b := a1.toNatClampNeg) (by omega))
              have hq3b := zps_m (sHours_m (N := N) (T := T) (a := i + 1) (b := a1.toNatClampNeg) (by omega))
              rw [hsh] at hq3 hq3b
              refine lv_aload_n hx hb dX6_advance_50 rfl (lv_at hl 0 rfl) ?_
              have hh0 : w[0]? = some (r 0, .inr (7, [.ref (r 1), .ref (r 2), .ref (r 3), .ref (r 4), .ref (r 5), .ref (r 6), .ref (r 7), .ref (r 8), .ref (r 9), .ref (r 10), .int (nI (((sHours i N T).1) 0)), .int ((((sHours i N T).2) 19) 0), .int ((((sHours i N T).2) 19) 1), .int (nI (((sHours i N T).1) 6))])) := hC.1.1 0 (by omega)
              refine z_cuv (va_runV (As := []) (rest := []) ⟨hx, hb, hml, hown, hts⟩ (c_X6_endHour l G d r zA_l45 mc g ((sHours i N T).1) ((sHours i N T).2) w K Hz.size hC hIi.1.sm hIi.1 hKk h0i) (cwV 0 hts gX6_advance_X6_endHour rfl rfl rfl (by decide +kernel) ⟨Nat.le_of_ble_eq_true rfl, Nat.le_of_ble_eq_true rfl⟩) (z_wv hK hP (ci := 7) (q0 := 0) rfl hh0 hP hD hZ hS hA) rfl rfl hl.1 rfl (lv_room (Nat.le_of_ble_eq_true rfl)) dX6_advance_51 ⟨(show (zpc ((sHours i N T).1 1) - zpc (N 1)) + (zpc ((sHour ((sHours i N T).1) ((sHours i N T).2)).1 1) - zpc ((((sHours i N T).1) 1))) ≤ (8 + zmc (sK2 (sIn a1 1 100) (decide (nI (N 0) + a1 ≤ 2000))) (N 1) ((sHours a1.toNatClampNeg N T).1 1)) by first | omega | (rw [zmc_0 hk0]; omega) | (rw [zms_0 hk0]; omega)), (show (zps ((sHours i N T).1 1) - zps (N 1)) + (zps ((sHour ((sHours i N T).1) ((sHours i N T).2)).1 1) - zps ((((sHours i N T).1) 1))) ≤ (200 + zms (sK2 (sIn a1 1 100) (decide (nI (N 0) + a1 ≤ 2000))) (N 1) ((sHours a1.toNatClampNeg N T).1 1)) by first | omega | (rw [zmc_0 hk0]; omega) | (rw [zms_0 hk0]; omega))⟩) hD hS hA (fun zw_5 Hz Lz hw hP hD hS => ?_)
              obtain ⟨zA_5, mc, g, hC, heA_5⟩ := hw
              have heA_5_A : ∀ i, i ≠ 8 → zA_5 i = A i := fun i h => (heA_5 i h).trans (heA_l45 i h)
              refine lv_iinc (v := (nI (i + 1))) (lv' := [(2, .int (nI (i + 1))), (0, .ref (r 0)), (1, .int a1)]) hx hb dX6_advance_54 hl (k := 2) rfl (by first | exact nI_1 _ | rfl) (by decide) rfl (fun ls hl => ?_)
              refine lv_goto (tgt := 45) hx hb dX6_advance_57 (by decide) ?_
              have hl2 := lv_sub (l' := [(0, .ref (r 0)), (1, .int a1), (2, .int (nI (i + 1)))]) hl [1, 2, 0] rfl
              exact z_widen (k := (zpc ((sHours (i + 1) N T).1 1) - zpc (N 1))) (n := (zps ((sHours (i + 1) N T).1 1) - zps (N 1))) (show (zpc ((sHours i N T).1 1) - zpc (N 1)) + (zpc ((sHour ((sHours i N T).1) ((sHours i N T).2)).1 1) - zpc ((((sHours i N T).1) 1))) ≤ (zpc ((sHours (i + 1) N T).1 1) - zpc (N 1)) by (rw [hsh]; omega)) (show (zps ((sHours i N T).1 1) - zps (N 1)) + (zps ((sHour ((sHours i N T).1) ((sHours i N T).2)).1 1) - zps ((((sHours i N T).1) 1))) ≤ (zps ((sHours (i + 1) N T).1 1) - zps (N 1)) by (rw [hsh]; omega)) (ih (i + 1) (by omega) (by omega) _ _ _ _ _ _ heA_5_A hC hP hD hS ls hl2)
        exact z_widen (k := (zpc ((sHours 0 N T).1 1) - zpc (N 1))) (n := (zps ((sHours 0 N T).1 1) - zps (N 1))) (show 0 ≤ (zpc ((sHours 0 N T).1 1) - zpc (N 1)) by omega) (show 0 ≤ (zps ((sHours 0 N T).1 1) - zps (N 1)) by omega) (key_45 (a1.toNatClampNeg + 1) 0 (Nat.zero_le _) (by omega) _ _ _ _ _ _ (fun _ _ => rfl) hC hP hD hS ls (lv_sub hl [1, 2, 0] rfl))
      · skip
        have zd_3 := Int32.not_le.mp zc_3
        obtain ⟨sa, hsa⟩ := zText hNs (i := 6) (q := ("BoilerLog", 195, "too late an hour")) rfl
        exact vx_throwS (own := RX6) (cls := "java/lang/IllegalStateException") (names := ["java/lang/RuntimeException", "java/lang/Exception"]) (A := fun _ => False) hx hb hst hown (by decide) (by decide) (hts _ (List.mem_of_getElem? (i := 3) rfl)) (hts _ (List.mem_of_getElem? (i := 4) rfl)) hsa (zThrow_all (fun w h => hts w (List.mem_cons_of_mem _ (List.mem_append_right _ h))) zBad_99 hNs) zGood_99 (hZ.1.1.narrow (fun _ h => h.elim)) (hZ.1.2.1.narrow (fun _ h => h.elim)) hS0 (by rw [hml]; exact hl.1) dX6_advance_33 dX6_advance_36 dX6_advance_37 dX6_advance_39 dX6_advance_42 (fun x h => (hxt x h).elim) (Nat.le_of_ble_eq_true rfl) (Nat.le_of_ble_eq_true rfl) (show 0 + 1 ≤ (8 + zmc (sK2 (sIn a1 1 100) (decide (nI (N 0) + a1 ≤ 2000))) (N 1) ((sHours a1.toNatClampNeg N T).1 1)) by omega) (show 0 + 6 ≤ (200 + zms (sK2 (sIn a1 1 100) (decide (nI (N 0) + a1 ≤ 2000))) (N 1) ((sHours a1.toNatClampNeg N T).1 1)) by omega) hlocks (fun t _ hz hq => ⟨1, (show sK2 (sIn a1 1 100) (decide (nI (N 0) + a1 ≤ 2000)) = (2 : Int32) from by simp [sK1, sK2, sK3, sIn, zc_1, zd_1, zc_2, zd_2, zc_3, zd_3]), rfl, ⟨Nat.le_trans hS0.1 hz, fun q hq1 _ => (hq q (Nat.lt_of_lt_of_le hq1 hS0.1)).trans (hS0.2.1 q hq1 id)⟩⟩) (fun z hz => (hS0.2.2 z hz).elim) (show 0 + 1 ≤ (8 + zmc (sK2 (sIn a1 1 100) (decide (nI (N 0) + a1 ≤ 2000))) (N 1) ((sHours a1.toNatClampNeg N T).1 1)) by omega) (show 0 + 6 ≤ (200 + zms (sK2 (sIn a1 1 100) (decide (nI (N 0) + a1 ≤ 2000))) (N 1) ((sHours a1.toNatClampNeg N T).1 1)) by omega)
    · skip
      have zd_2 := Int32.not_le.mp zc_2
      obtain ⟨sa, hsa⟩ := zText hNs (i := 5) (q := ("BoilerLog", 193, "too few or too many hours")) rfl
      exact vx_throwS (own := RX6) (cls := "java/lang/IllegalArgumentException") (names := ["java/lang/RuntimeException", "java/lang/Exception"]) (A := fun _ => False) hx hb hst hown (by decide) (by decide) (hts _ (List.mem_of_getElem? (i := 1) rfl)) (hts _ (List.mem_of_getElem? (i := 2) rfl)) hsa (zThrow_all (fun w h => hts w (List.mem_cons_of_mem _ (List.mem_append_left _ (List.mem_append_right _ h)))) zBad_88 hNs) zGood_88 (hZ.1.1.narrow (fun _ h => h.elim)) (hZ.1.2.1.narrow (fun _ h => h.elim)) hS0 (by rw [hml]; exact hl.1) dX6_advance_11 dX6_advance_14 dX6_advance_15 dX6_advance_17 dX6_advance_20 (fun x h => (hxt x h).elim) (Nat.le_of_ble_eq_true rfl) (Nat.le_of_ble_eq_true rfl) (show 0 + 1 ≤ (8 + zmc (sK2 (sIn a1 1 100) (decide (nI (N 0) + a1 ≤ 2000))) (N 1) ((sHours a1.toNatClampNeg N T).1 1)) by omega) (show 0 + 6 ≤ (200 + zms (sK2 (sIn a1 1 100) (decide (nI (N 0) + a1 ≤ 2000))) (N 1) ((sHours a1.toNatClampNeg N T).1 1)) by omega) hlocks (fun t _ hz hq => ⟨0, (show sK2 (sIn a1 1 100) (decide (nI (N 0) + a1 ≤ 2000)) = (1 : Int32) from by simp [sK1, sK2, sK3, sIn, zc_1, zd_1, zc_2, zd_2]), rfl, ⟨Nat.le_trans hS0.1 hz, fun q hq1 _ => (hq q (Nat.lt_of_lt_of_le hq1 hS0.1)).trans (hS0.2.1 q hq1 id)⟩⟩) (fun z hz => (hS0.2.2 z hz).elim) (show 0 + 1 ≤ (8 + zmc (sK2 (sIn a1 1 100) (decide (nI (N 0) + a1 ≤ 2000))) (N 1) ((sHours a1.toNatClampNeg N T).1 1)) by omega) (show 0 + 6 ≤ (200 + zms (sK2 (sIn a1 1 100) (decide (nI (N 0) + a1 ≤ 2000))) (N 1) ((sHours a1.toNatClampNeg N T).1 1)) by omega)
