set_option maxHeartbeats 4000000 in
set_option maxRecDepth 100000 in
theorem c_Jx4a65c_grow_92f84_B (l : Launch) (G : zG) (d : Nat) (w : va_W) (kl bl : Nat) (mo : Int32) (kd dd n ci : Nat) (ga : Nat → Option Nat) (sz : Nat) (hhl : w[kl]? = some (bl, .inr (0, [.int mo, .ref dd, .int (nI n)]))) (hhd : w[kd]? = some (dd, .inl (G.2 5, n, .inr (.inr (.inr (.inr ga)))))) (hkn : kl ≠ kd) (hkn2 : kd ≠ kl) (h2 : 2 ≤ n) (h9h : n < 100) (hel : ∀ (i y : Nat), ga i = some y → ∃ (k : Nat) (fs : List Value), k ≠ kl ∧ w[k]? = some (y, .inr (ci, fs))) (hci : ci = 5 ∨ ci = 1 ∨ ci = 4) : Met l yJx4a65c_grow_92f84 wsJx4a65c_grow_92f84 ({ frames := 3, cells := 1, slots := n + n / 2, locals := 84 }) (va_Pc [.ref bl, .int (nI (n + 1))] (zCu G d w sz)) (va_Qq (fun (r1 : Option Nat) (w1 : va_W) => ∃ q : Nat, r1 = some q ∧ w1 = (w ++ ([(q, .inl (G.2 5, n + n / 2, .inr (.inr (.inr (.inr (va_cpy ga (fun _ => none) 0 0 n))))))] : va_W)).set kl (bl, .inr (0, [.int mo, .ref q, .int (nI n)]))) (zB G (va_A w sz)) (va_A w sz)) (1) (n + n / 2) (va_A w sz) := by
  refine Met.ofW (cc := cJx4a65c_grow_92f84) (maxL := 4) (ret := (some (.array (.object "java/lang/Object")))) (by decide) rfl ?_
  intro p e s m args below meth c s₁ B hml hv
  obtain ⟨rfl, hsz, hP, hK, hD0, hZ⟩ := hv
  have hx := B.exec
  have hb := B.bytes
  have hr := B.returns
  have hts := atoms_spec (ws := wsJx4a65c_grow_92f84) B.pre
  have hown : s.vm.findClass RJx4a65c = some m.cls := findClass_of_methodNamed B.named
  have hlocks := B.notSynchronized
  have hi_Jx4a65c : ∀ w ∈ u_ws RJx4a65c TJx4a65c 3, w ∈ wsJx4a65c_grow_92f84 := (fun _ h => List.mem_cons_of_mem _ (List.mem_append_right _ h))
  have hNs := hZ.1.2.2
  have hS0 : va_S (fun _ => False) s.heap s.heap [] := va_S.rf
  subst hsz
  have hD := hD0.self (sz := s.heap.size)
  generalize hAe : va_A w s.heap.size = Aw at hD hZ ⊢
  have hA : ∀ q : Nat, s.heap.size ≤ q → Aw q := fun q h => by rw [← hAe]; exact Or.inr h
  have hS : va_S Aw s.heap s.heap [] := va_S.rf
  have hl := lv_entry ([.ref bl, .int (nI (n + 1))]) (n := 4) (Nat.le_of_ble_eq_true rfl)
  rw [lg_entry_eq]
  generalize (lg_sl ([.ref bl, .int (nI (n + 1))]) ++ List.replicate (4 - (lg_sl ([.ref bl, .int (nI (n + 1))])).length) Slot.unset).toArray = ls at hl ⊢
  have hl : lv_has ls 4 [(0, .ref bl), (1, .int (nI (n + 1)))] := hl
  obtain ⟨hZz, hZt, hZao, ⟨mi0, hMi0⟩, hZdc, hZca, hZav⟩ := id hZ.2
  have hll : kl < w.length := (List.getElem?_eq_some_iff.mp hhl).1
  refine lv_aload_n hx hb dJx4a65c_grow_92f84_0 rfl (lv_at hl 0 rfl) ?_
  refine va_get (D := G.1) (ci := 0) (v := .ref dd) (C := RJx4a65c) (T := TJx4a65c) (N := 3) hx hb hts hi_Jx4a65c hown hK hP kl hhl rfl 1 (by decide) (hts (.fieldLink RJx4a65c 9 "java/util/ArrayList" "elementData" "[Ljava/lang/Object;") (List.mem_of_getElem? (i := 1) rfl)) (fun _ h9 => h9) rfl dJx4a65c_grow_92f84_1 ?_
  refine va_alen hx hb hK hP kd 5 hhd rfl (v := nI (n)) rfl dJx4a65c_grow_92f84_4 ?_
  refine lv_istore_n (lv' := [(2, .int (nI (n))), (0, .ref bl), (1, .int (nI (n + 1)))]) hx hb dJx4a65c_grow_92f84_5 rfl hl (by decide) rfl (fun ls hl => ?_)
  refine lv_iload_n hx hb dJx4a65c_grow_92f84_6 rfl (lv_at hl 0 rfl) ?_
  refine lv_if_gt (tgt := 20) hx hb dJx4a65c_grow_92f84_7 (by decide) (fun zc_1 => ?_) (fun zc_1 => ?_)
  · skip
    have zd_1 := Int32.not_le.mpr zc_1
    refine lv_iload_n hx hb dJx4a65c_grow_92f84_20 rfl (lv_at hl 0 rfl) ?_
    refine lv_iload_n hx hb dJx4a65c_grow_92f84_21 rfl (lv_at hl 2 rfl) ?_
    refine lv_iload_n hx hb dJx4a65c_grow_92f84_22 rfl (lv_at hl 0 rfl) ?_
    refine lv_isub hx hb dJx4a65c_grow_92f84_23 ?_
    refine W.eq (g2 := F0 m 24 ls [.int (nI 1), .int (nI (n))]) (by first | (rw [pk_sub (by omega), Nat.add_sub_cancel_left]; done) | (rw [pk_sub (by omega), Nat.add_sub_cancel_left]; rfl)) ?_
    refine lv_iload_n hx hb dJx4a65c_grow_92f84_24 rfl (lv_at hl 0 rfl) ?_
    refine lv_iconst (v := 1) hx hb dJx4a65c_grow_92f84_25 (by decide) ?_
    refine lv_ishr hx hb dJx4a65c_grow_92f84_26 ?_
    refine W.eq (g2 := F0 m 27 ls [.int (nI (n / 2)), .int (nI 1), .int (nI (n))]) (by first | (exact congrArg (fun z : Int32 => F0 m 27 ls [.int z, .int (nI 1), .int (nI n)]) (zShr1 n h9h); done) | (exact congrArg (fun z : Int32 => F0 m 27 ls [.int z, .int (nI 1), .int (nI n)]) (zShr1 n h9h); rfl)) ?_
    refine z_csi (va_Run.run (va_runS (As := [.int (nI (n)), .int (nI 1), .int (nI (n / 2))]) (rest := []) ⟨hx, hb, hml, hown, hts⟩ (c_J8_newLength_cabcc l G w (n) h2 h9h) (va_cwS 3 hts gJx4a65c_grow_92f84_J8_newLength_cabcc rfl rfl rfl (by decide +kernel) ⟨Nat.le_of_ble_eq_true rfl, Nat.le_of_ble_eq_true rfl⟩) (z_rs hK hP hZ.1 hS) rfl rfl hl.1 rfl (lv_room (Nat.le_of_ble_eq_true rfl)) dJx4a65c_grow_92f84_27 ⟨(show 0 + 0 ≤ 1 by omega), (show 0 + 0 ≤ n + n / 2 by omega)⟩)) (fun zr_2 hzr_2 => ?_)
    subst hzr_2
    refine lv_istore_n (lv' := [(3, .int (nI ((n) + (n) / 2))), (2, .int (nI (n))), (0, .ref bl), (1, .int (nI (n + 1)))]) hx hb dJx4a65c_grow_92f84_30 rfl hl (by decide) rfl (fun ls hl => ?_)
    refine lv_aload_n hx hb dJx4a65c_grow_92f84_31 rfl (lv_at hl 2 rfl) ?_
    refine lv_aload_n hx hb dJx4a65c_grow_92f84_32 rfl (lv_at hl 2 rfl) ?_
    refine va_get (D := G.1) (ci := 0) (v := .ref dd) (C := RJx4a65c) (T := TJx4a65c) (N := 3) hx hb hts hi_Jx4a65c hown hK hP kl hhl rfl 1 (by decide) (hts (.fieldLink RJx4a65c 9 "java/util/ArrayList" "elementData" "[Ljava/lang/Object;") (List.mem_of_getElem? (i := 1) rfl)) (fun _ h9 => h9) rfl dJx4a65c_grow_92f84_33 ?_
    refine lv_iload_n hx hb dJx4a65c_grow_92f84_36 rfl (lv_at hl 0 rfl) ?_
    refine z_cuq (va_runS (As := [.ref dd, .int (nI ((n) + (n) / 2))]) (rest := [.ref bl]) ⟨hx, hb, hml, hown, hts⟩ (c_J7_copyOf_1904c_m l G d w kd dd n ((n) + (n) / 2) ci ga s.heap.size hhd (by omega) (by omega) (fun i9 y9 h9 => by obtain ⟨k9, fs9, -, h10⟩ := hel i9 y9 h9; exact ⟨k9, fs9, h10⟩) hci) (va_cwS 2 hts gJx4a65c_grow_92f84_J7_copyOf_1904c rfl rfl rfl (by decide +kernel) ⟨Nat.le_of_ble_eq_true rfl, Nat.le_of_ble_eq_true rfl⟩) (z_ws hK hP hD hZ hS hA) rfl rfl hl.1 rfl (lv_room (Nat.le_of_ble_eq_true rfl)) dJx4a65c_grow_92f84_37 ⟨(show 0 + 1 ≤ 1 by omega), (show 0 + ((n) + (n) / 2) ≤ n + n / 2 by omega)⟩) hD hS hA (fun zr_3 zw_3 Hz Lz hw hP hD hS => ?_)
    obtain ⟨zq, he3, hw⟩ := hw
    subst he3
    subst hw
    have hfr := hD.new
    have hhl : (w ++ ([(zq, .inl (G.2 5, n + n / 2, .inr (.inr (.inr (.inr (va_cpy ga (fun _ => none) 0 0 n))))))] : va_W))[kl]? = some (bl, .inr (0, [.int mo, .ref dd, .int (nI n)])) := z_app hhl
    have hhd : (w ++ ([(zq, .inl (G.2 5, n + n / 2, .inr (.inr (.inr (.inr (va_cpy ga (fun _ => none) 0 0 n))))))] : va_W))[kd]? = some (dd, .inl (G.2 5, n, .inr (.inr (.inr (.inr ga))))) := z_app hhd
    refine W.eq (g2 := F0 m 40 ls [.ref zq, .ref bl]) rfl ?_
    refine lv_dup_x1 hx hb dJx4a65c_grow_92f84_40 rfl rfl ?_
    refine va_put (D := G.1) (ci := 0) (v := .ref zq) (ty := (.array (.object "java/lang/Object"))) (C := RJx4a65c) (T := TJx4a65c) (N := 3) hx hb hts hi_Jx4a65c tyJx4a65c tyJx4a65c_ok nmJx4a65c hown hK hP hD hS kl hhl rfl 1 (by decide) (hts (.fieldLink RJx4a65c 9 "java/util/ArrayList" "elementData" "[Ljava/lang/Object;") (List.mem_of_getElem? (i := 1) rfl)) (fun _ h9 => h9) rfl (by decide +kernel) rfl rfl (Nat.le_of_ble_eq_true rfl) dJx4a65c_grow_92f84_41 (fun Hz Lz hP hD hS => ?_)
    have hP : va_P G.1 vwCl ((w ++ ([(zq, .inl (G.2 5, n + n / 2, .inr (.inr (.inr (.inr (va_cpy ga (fun _ => none) 0 0 n))))))] : va_W)).set kl (bl, .inr (0, [.int mo, .ref zq, .int (nI n)]))) Hz := hP
    have hD : va_D Aw ((w ++ ([(zq, .inl (G.2 5, n + n / 2, .inr (.inr (.inr (.inr (va_cpy ga (fun _ => none) 0 0 n))))))] : va_W)).set kl (bl, .inr (0, [.int mo, .ref zq, .int (nI n)]))) := hD
    have hhl : ((w ++ ([(zq, .inl (G.2 5, n + n / 2, .inr (.inr (.inr (.inr (va_cpy ga (fun _ => none) 0 0 n))))))] : va_W)).set kl (bl, .inr (0, [.int mo, .ref zq, .int (nI n)])))[kl]? = some (bl, .inr (0, [.int mo, .ref zq, .int (nI n)])) := z_self hhl
    have hhd : ((w ++ ([(zq, .inl (G.2 5, n + n / 2, .inr (.inr (.inr (.inr (va_cpy ga (fun _ => none) 0 0 n))))))] : va_W)).set kl (bl, .inr (0, [.int mo, .ref zq, .int (nI n)])))[kd]? = some (dd, .inl (G.2 5, n, .inr (.inr (.inr (.inr ga))))) := z_other (by first | assumption | omega) hhd
    exact z_widen (k := 1) (n := n + n / 2) (show 0 + 1 ≤ 1 by omega) (show 0 + ((n) + (n) / 2) ≤ n + n / 2 by omega) (W.aret (v := .ref zq) hx hb hr (Or.inr ⟨_, rfl⟩) (Or.inr ⟨_, rfl⟩) (fun t ht hW => ⟨⟨some zq, ((w ++ ([(zq, .inl (G.2 5, n + n / 2, .inr (.inr (.inr (.inr (va_cpy ga (fun _ => none) 0 0 n))))))] : va_W)).set kl (bl, .inr (0, [.int mo, .ref zq, .int (nI n)]))), rfl, ⟨zq, rfl, rfl⟩, ⟨by rw [ht]; exact hP, hD⟩⟩, hS.F ht⟩) hS.2.2 dJx4a65c_grow_92f84_44 hlocks)
  · skip
    have zd_1 := Int32.not_lt.mp zc_1
    exact (zc_1 (zGt0 (show 0 < n by omega) (by omega))).elim

set_option maxHeartbeats 4000000 in
set_option maxRecDepth 100000 in
theorem c_Jx4a65c_grow_92f84_C (l : Launch) (G : zG) (d : Nat) (w : va_W) (kl bl : Nat) (mo : Int32) (sz : Nat) (hhl : w[kl]? = some (bl, .inr (0, [.int mo, .ref d, .int (nI 0)]))) : Met l yJx4a65c_grow_92f84 wsJx4a65c_grow_92f84 ({ frames := 1, cells := 1, slots := 10, locals := 14 }) (va_Pc [.ref bl, .int (nI 1)] (zCu G d w sz)) (va_Qq (fun (r1 : Option Nat) (w1 : va_W) => ∃ q : Nat, r1 = some q ∧ w1 = (w ++ ([(q, .inl (G.2 5, 10, .inr (.inr (.inr (.inr (fun _ => none))))))] : va_W)).set kl (bl, .inr (0, [.int mo, .ref q, .int (nI 0)]))) (zB G (va_A w sz)) (va_A w sz)) (1) (10) (va_A w sz) := by
  refine Met.ofW (cc := cJx4a65c_grow_92f84) (maxL := 4) (ret := (some (.array (.object "java/lang/Object")))) (by decide) rfl ?_
  intro p e s m args below meth c s₁ B hml hv
  obtain ⟨rfl, hsz, hP, hK, hD0, hZ⟩ := hv
  have hx := B.exec
  have hb := B.bytes
  have hr := B.returns
  have hts := atoms_spec (ws := wsJx4a65c_grow_92f84) B.pre
  have hown : s.vm.findClass RJx4a65c = some m.cls := findClass_of_methodNamed B.named
  have hlocks := B.notSynchronized
  have hi_Jx4a65c : ∀ w ∈ u_ws RJx4a65c TJx4a65c 3, w ∈ wsJx4a65c_grow_92f84 := (fun _ h => List.mem_cons_of_mem _ (List.mem_append_right _ h))
  have hNs := hZ.1.2.2
  have hS0 : va_S (fun _ => False) s.heap s.heap [] := va_S.rf
  subst hsz
  have hD := hD0.self (sz := s.heap.size)
  generalize hAe : va_A w s.heap.size = Aw at hD hZ ⊢
  have hA : ∀ q : Nat, s.heap.size ≤ q → Aw q := fun q h => by rw [← hAe]; exact Or.inr h
  have hS : va_S Aw s.heap s.heap [] := va_S.rf
  have hl := lv_entry ([.ref bl, .int (nI 1)]) (n := 4) (Nat.le_of_ble_eq_true rfl)
  rw [lg_entry_eq]
  generalize (lg_sl ([.ref bl, .int (nI 1)]) ++ List.replicate (4 - (lg_sl ([.ref bl, .int (nI 1)])).length) Slot.unset).toArray = ls at hl ⊢
  have hl : lv_has ls 4 [(0, .ref bl), (1, .int (nI 1))] := hl
  obtain ⟨hZz, hZt, hZao, ⟨mi0, hMi0⟩, hZdc, hZca, hZav⟩ := id hZ.2
  have hll : kl < w.length := (List.getElem?_eq_some_iff.mp hhl).1
  refine lv_aload_n hx hb dJx4a65c_grow_92f84_0 rfl (lv_at hl 0 rfl) ?_
  refine va_get (D := G.1) (ci := 0) (v := .ref d) (C := RJx4a65c) (T := TJx4a65c) (N := 3) hx hb hts hi_Jx4a65c hown hK hP kl hhl rfl 1 (by decide) (hts (.fieldLink RJx4a65c 9 "java/util/ArrayList" "elementData" "[Ljava/lang/Object;") (List.mem_of_getElem? (i := 1) rfl)) (fun _ h9 => h9) rfl dJx4a65c_grow_92f84_1 ?_
  refine va_tlen hx hb hZt hS (v := 0) rfl dJx4a65c_grow_92f84_4 ?_
  refine lv_istore_n (lv' := [(2, .int 0), (0, .ref bl), (1, .int (nI 1))]) hx hb dJx4a65c_grow_92f84_5 rfl hl (by decide) rfl (fun ls hl => ?_)
  refine lv_iload_n hx hb dJx4a65c_grow_92f84_6 rfl (lv_at hl 0 rfl) ?_
  refine lv_if_gt (tgt := 20) hx hb dJx4a65c_grow_92f84_7 (by decide) (fun zc_1 => absurd zc_1 (by decide)) (fun _ => ?_)
  refine lv_aload_n hx hb dJx4a65c_grow_92f84_10 rfl (lv_at hl 1 rfl) ?_
  refine va_get (D := G.1) (ci := 0) (v := .ref d) (C := RJx4a65c) (T := TJx4a65c) (N := 3) hx hb hts hi_Jx4a65c hown hK hP kl hhl rfl 1 (by decide) (hts (.fieldLink RJx4a65c 9 "java/util/ArrayList" "elementData" "[Ljava/lang/Object;") (List.mem_of_getElem? (i := 1) rfl)) (fun _ h9 => h9) rfl dJx4a65c_grow_92f84_11 ?_
  refine va_gets hx hb hZz hS hown (hts (.fieldLink RJx4a65c 39 "java/util/ArrayList" "DEFAULTCAPACITY_EMPTY_ELEMENTDATA" "[Ljava/lang/Object;") (List.mem_of_getElem? (i := 2) rfl)) (fun _ h9 => h9) dJx4a65c_grow_92f84_14 ?_
  refine lv_acmp_eq (rx := some d) (ry := some d) (tgt := 45) hx hb dJx4a65c_grow_92f84_17 (by decide) (fun _ => ?_) (fun z9 => (z9 rfl).elim)
  refine lv_aload_n hx hb dJx4a65c_grow_92f84_45 rfl (lv_at hl 1 rfl) ?_
  refine lv_bipush (v := 10) hx hb dJx4a65c_grow_92f84_46 (by decide) ?_
  refine lv_iload_n hx hb dJx4a65c_grow_92f84_48 rfl (lv_at hl 2 rfl) ?_
  refine va_mmax hx hb (by rw [hml]; exact hl.1.symm) hown (hts _ (List.mem_of_getElem? (i := 3) rfl)) (hts _ (List.mem_of_getElem? (i := 4) rfl)) (hts _ (List.mem_of_getElem? (i := 5) rfl)) (hts _ (List.mem_of_getElem? (i := 6) rfl)) (Nat.le_of_ble_eq_true rfl) (Nat.le_of_ble_eq_true rfl) (Nat.zero_le _) (Nat.zero_le _) dJx4a65c_grow_92f84_49 ?_
  rw [show (if (10 : Int32) < nI 1 then nI 1 else 10) = 10 from by decide]
  refine z_newq (t0 := 5) (cA := G.2 5) (N' := 10) hx hb hown (hts (.classLink RJx4a65c 7 "java/lang/Object") (List.mem_of_getElem? (i := 7) rfl)) hZao rfl hK hP hD hS hA (by decide) rfl (by omega) (show 0 + 1 ≤ 1 by omega) (show 0 + 10 ≤ 10 by omega) dJx4a65c_grow_92f84_52 (fun zq Hz hP hD hS => ?_)
  have hfr := hD.new
  have hhl : (w ++ ([(zq, .inl (G.2 5, 10, .inr (.inr (.inr (.inr (fun _ => none))))))] : va_W))[kl]? = some (bl, .inr (0, [.int mo, .ref d, .int (nI 0)])) := z_app hhl
  refine lv_dup_x1 hx hb dJx4a65c_grow_92f84_55 rfl rfl ?_
  refine va_put (D := G.1) (ci := 0) (v := .ref zq) (ty := (.array (.object "java/lang/Object"))) (C := RJx4a65c) (T := TJx4a65c) (N := 3) hx hb hts hi_Jx4a65c tyJx4a65c tyJx4a65c_ok nmJx4a65c hown hK hP hD hS kl hhl rfl 1 (by decide) (hts (.fieldLink RJx4a65c 9 "java/util/ArrayList" "elementData" "[Ljava/lang/Object;") (List.mem_of_getElem? (i := 1) rfl)) (fun _ h9 => h9) rfl (by decide +kernel) rfl rfl (Nat.le_of_ble_eq_true rfl) dJx4a65c_grow_92f84_56 (fun Hz Lz hP hD hS => ?_)
  have hP : va_P G.1 vwCl ((w ++ ([(zq, .inl (G.2 5, 10, .inr (.inr (.inr (.inr (fun _ => none))))))] : va_W)).set kl (bl, .inr (0, [.int mo, .ref zq, .int (nI 0)]))) Hz := hP
  have hD : va_D Aw ((w ++ ([(zq, .inl (G.2 5, 10, .inr (.inr (.inr (.inr (fun _ => none))))))] : va_W)).set kl (bl, .inr (0, [.int mo, .ref zq, .int (nI 0)]))) := hD
  have hhl : ((w ++ ([(zq, .inl (G.2 5, 10, .inr (.inr (.inr (.inr (fun _ => none))))))] : va_W)).set kl (bl, .inr (0, [.int mo, .ref zq, .int (nI 0)])))[kl]? = some (bl, .inr (0, [.int mo, .ref zq, .int (nI 0)])) := z_self hhl
  exact z_widen (k := 1) (n := 10) (show 0 + 1 ≤ 1 by omega) (show 0 + 10 ≤ 10 by omega) (W.aret (v := .ref zq) hx hb hr (Or.inr ⟨_, rfl⟩) (Or.inr ⟨_, rfl⟩) (fun t ht hW => ⟨⟨some zq, ((w ++ ([(zq, .inl (G.2 5, 10, .inr (.inr (.inr (.inr (fun _ => none))))))] : va_W)).set kl (bl, .inr (0, [.int mo, .ref zq, .int (nI 0)]))), rfl, ⟨zq, rfl, rfl⟩, ⟨by rw [ht]; exact hP, hD⟩⟩, hS.F ht⟩) hS.2.2 dJx4a65c_grow_92f84_59 hlocks)

set_option maxHeartbeats 4000000 in
set_option maxRecDepth 100000 in
theorem c_Jx4a65c_grow_d5877_B (l : Launch) (G : zG) (d : Nat) (w : va_W) (kl bl : Nat) (mo : Int32) (kd dd n ci : Nat) (ga : Nat → Option Nat) (sz : Nat) (hhl : w[kl]? = some (bl, .inr (0, [.int mo, .ref dd, .int (nI n)]))) (hhd : w[kd]? = some (dd, .inl (G.2 5, n, .inr (.inr (.inr (.inr ga)))))) (hkn : kl ≠ kd) (hkn2 : kd ≠ kl) (h2 : 2 ≤ n) (h9h : n < 100) (hel : ∀ (i y : Nat), ga i = some y → ∃ (k : Nat) (fs : List Value), k ≠ kl ∧ w[k]? = some (y, .inr (ci, fs))) (hci : ci = 5 ∨ ci = 1 ∨ ci = 4) : Met l yJx4a65c_grow_d5877 wsJx4a65c_grow_d5877 ({ frames := 4, cells := 1, slots := n + n / 2, locals := 107 }) (va_Pc [.ref bl] (zCu G d w sz)) (va_Qq (fun (r1 : Option Nat) (w1 : va_W) => ∃ q : Nat, r1 = some q ∧ w1 = (w ++ ([(q, .inl (G.2 5, n + n / 2, .inr (.inr (.inr (.inr (va_cpy ga (fun _ => none) 0 0 n))))))] : va_W)).set kl (bl, .inr (0, [.int mo, .ref q, .int (nI n)]))) (zB G (va_A w sz)) (va_A w sz)) (1) (n + n / 2) (va_A w sz) := by
  refine Met.ofW (cc := cJx4a65c_grow_d5877) (maxL := 1) (ret := (some (.array (.object "java/lang/Object")))) (by decide) rfl ?_
  intro p e s m args below meth c s₁ B hml hv
  obtain ⟨rfl, hsz, hP, hK, hD0, hZ⟩ := hv
  have hx := B.exec
  have hb := B.bytes
  have hr := B.returns
  have hts := atoms_spec (ws := wsJx4a65c_grow_d5877) B.pre
  have hown : s.vm.findClass RJx4a65c = some m.cls := findClass_of_methodNamed B.named
  have hlocks := B.notSynchronized
  have hi_Jx4a65c : ∀ w ∈ u_ws RJx4a65c TJx4a65c 3, w ∈ wsJx4a65c_grow_d5877 := (fun _ h => List.mem_cons_of_mem _ (List.mem_append_right _ h))
  have hNs := hZ.1.2.2
  have hS0 : va_S (fun _ => False) s.heap s.heap [] := va_S.rf
  subst hsz
  have hD := hD0.self (sz := s.heap.size)
  generalize hAe : va_A w s.heap.size = Aw at hD hZ ⊢
  have hA : ∀ q : Nat, s.heap.size ≤ q → Aw q := fun q h => by rw [← hAe]; exact Or.inr h
  have hS : va_S Aw s.heap s.heap [] := va_S.rf
  have hl := lv_entry ([.ref bl]) (n := 1) (Nat.le_of_ble_eq_true rfl)
  rw [lg_entry_eq]
  generalize (lg_sl ([.ref bl]) ++ List.replicate (1 - (lg_sl ([.ref bl])).length) Slot.unset).toArray = ls at hl ⊢
  have hl : lv_has ls 1 [(0, .ref bl)] := hl
  refine lv_aload_n hx hb dJx4a65c_grow_d5877_0 rfl (lv_at hl 0 rfl) ?_
  refine lv_aload_n hx hb dJx4a65c_grow_d5877_1 rfl (lv_at hl 0 rfl) ?_
  refine va_get (D := G.1) (ci := 0) (v := .int (nI n)) (C := RJx4a65c) (T := TJx4a65c) (N := 3) hx hb hts hi_Jx4a65c hown hK hP kl hhl rfl 2 (by decide) (hts (.fieldLink RJx4a65c 48 "java/util/ArrayList" "size" "I") (List.mem_of_getElem? (i := 1) rfl)) (fun _ h9 => h9) rfl dJx4a65c_grow_d5877_2 ?_
  refine lv_iconst (v := 1) hx hb dJx4a65c_grow_d5877_5 (by decide) ?_
  refine lv_iadd hx hb dJx4a65c_grow_d5877_6 ?_
  refine W.eq (g2 := F0 m 7 ls [.int (nI (n + 1)), .ref bl]) (by first | (rw [nI_1]; done) | (rw [nI_1]; rfl)) ?_
  refine z_cuq (va_runV (As := [.int (nI (n + 1))]) (rest := []) ⟨hx, hb, hml, hown, hts⟩ (c_Jx4a65c_grow_92f84_B l G d w kl bl mo kd dd n ci ga s.heap.size hhl hhd hkn hkn2 h2 h9h hel hci) (cwV 1 hts gJx4a65c_grow_d5877_Jx4a65c_grow_92f84 rfl rfl rfl (by decide +kernel) ⟨Nat.le_of_ble_eq_true rfl, Nat.le_of_ble_eq_true rfl⟩) (z_wv hK hP (ci := 0) (q0 := kl) rfl hhl hP hD hZ hS hA) rfl rfl hl.1 rfl (lv_room (Nat.le_of_ble_eq_true rfl)) dJx4a65c_grow_d5877_7 ⟨(show 0 + 1 ≤ 1 by omega), (show 0 + (n + n / 2) ≤ n + n / 2 by omega)⟩) hD hS hA (fun zr_1 zw_1 Hz Lz hw hP hD hS => ?_)
  obtain ⟨zq, he1, hw⟩ := hw
  subst he1
  refine W.eq (g2 := F0 m 10 ls [.ref zq]) rfl ?_
  exact z_widen (k := 1) (n := n + n / 2) (show 0 + 1 ≤ 1 by omega) (show 0 + (n + n / 2) ≤ n + n / 2 by omega) (W.aret (v := .ref zq) hx hb hr (Or.inr ⟨_, rfl⟩) (Or.inr ⟨_, rfl⟩) (fun t ht hW => ⟨⟨some zq, zw_1, rfl, ⟨zq, rfl, hw⟩, ⟨by rw [ht]; exact hP, hD⟩⟩, hS.F ht⟩) hS.2.2 dJx4a65c_grow_d5877_10 hlocks)

set_option maxHeartbeats 4000000 in
set_option maxRecDepth 100000 in
theorem c_Jx4a65c_grow_d5877_C (l : Launch) (G : zG) (d : Nat) (w : va_W) (kl bl : Nat) (mo : Int32) (sz : Nat) (hhl : w[kl]? = some (bl, .inr (0, [.int mo, .ref d, .int (nI 0)]))) : Met l yJx4a65c_grow_d5877 wsJx4a65c_grow_d5877 ({ frames := 2, cells := 1, slots := 10, locals := 37 }) (va_Pc [.ref bl] (zCu G d w sz)) (va_Qq (fun (r1 : Option Nat) (w1 : va_W) => ∃ q : Nat, r1 = some q ∧ w1 = (w ++ ([(q, .inl (G.2 5, 10, .inr (.inr (.inr (.inr (fun _ => none))))))] : va_W)).set kl (bl, .inr (0, [.int mo, .ref q, .int (nI 0)]))) (zB G (va_A w sz)) (va_A w sz)) (1) (10) (va_A w sz) := by
  refine Met.ofW (cc := cJx4a65c_grow_d5877) (maxL := 1) (ret := (some (.array (.object "java/lang/Object")))) (by decide) rfl ?_
  intro p e s m args below meth c s₁ B hml hv
  obtain ⟨rfl, hsz, hP, hK, hD0, hZ⟩ := hv
  have hx := B.exec
  have hb := B.bytes
  have hr := B.returns
  have hts := atoms_spec (ws := wsJx4a65c_grow_d5877) B.pre
  have hown : s.vm.findClass RJx4a65c = some m.cls := findClass_of_methodNamed B.named
  have hlocks := B.notSynchronized
  have hi_Jx4a65c : ∀ w ∈ u_ws RJx4a65c TJx4a65c 3, w ∈ wsJx4a65c_grow_d5877 := (fun _ h => List.mem_cons_of_mem _ (List.mem_append_right _ h))
  have hNs := hZ.1.2.2
  have hS0 : va_S (fun _ => False) s.heap s.heap [] := va_S.rf
  subst hsz
  have hD := hD0.self (sz := s.heap.size)
  generalize hAe : va_A w s.heap.size = Aw at hD hZ ⊢
  have hA : ∀ q : Nat, s.heap.size ≤ q → Aw q := fun q h => by rw [← hAe]; exact Or.inr h
  have hS : va_S Aw s.heap s.heap [] := va_S.rf
  have hl := lv_entry ([.ref bl]) (n := 1) (Nat.le_of_ble_eq_true rfl)
  rw [lg_entry_eq]
  generalize (lg_sl ([.ref bl]) ++ List.replicate (1 - (lg_sl ([.ref bl])).length) Slot.unset).toArray = ls at hl ⊢
  have hl : lv_has ls 1 [(0, .ref bl)] := hl
  refine lv_aload_n hx hb dJx4a65c_grow_d5877_0 rfl (lv_at hl 0 rfl) ?_
  refine lv_aload_n hx hb dJx4a65c_grow_d5877_1 rfl (lv_at hl 0 rfl) ?_
  refine va_get (D := G.1) (ci := 0) (v := .int (nI 0)) (C := RJx4a65c) (T := TJx4a65c) (N := 3) hx hb hts hi_Jx4a65c hown hK hP kl hhl rfl 2 (by decide) (hts (.fieldLink RJx4a65c 48 "java/util/ArrayList" "size" "I") (List.mem_of_getElem? (i := 1) rfl)) (fun _ h9 => h9) rfl dJx4a65c_grow_d5877_2 ?_
  refine lv_iconst (v := 1) hx hb dJx4a65c_grow_d5877_5 (by decide) ?_
  refine lv_iadd hx hb dJx4a65c_grow_d5877_6 ?_
  refine W.eq (g2 := F0 m 7 ls [.int (nI 1), .ref bl]) (by first | (rfl; done) | (rfl; rfl)) ?_
  refine z_cuq (va_runV (As := [.int (nI 1)]) (rest := []) ⟨hx, hb, hml, hown, hts⟩ (c_Jx4a65c_grow_92f84_C l G d w kl bl mo s.heap.size hhl) (cwV 1 hts gJx4a65c_grow_d5877_Jx4a65c_grow_92f84 rfl rfl rfl (by decide +kernel) ⟨Nat.le_of_ble_eq_true rfl, Nat.le_of_ble_eq_true rfl⟩) (z_wv hK hP (ci := 0) (q0 := kl) rfl hhl hP hD hZ hS hA) rfl rfl hl.1 rfl (lv_room (Nat.le_of_ble_eq_true rfl)) dJx4a65c_grow_d5877_7 ⟨(show 0 + 1 ≤ 1 by omega), (show 0 + 10 ≤ 10 by omega)⟩) hD hS hA (fun zr_1 zw_1 Hz Lz hw hP hD hS => ?_)
  obtain ⟨zq, he1, hw⟩ := hw
  subst he1
  refine W.eq (g2 := F0 m 10 ls [.ref zq]) rfl ?_
  exact z_widen (k := 1) (n := 10) (show 0 + 1 ≤ 1 by omega) (show 0 + 10 ≤ 10 by omega) (W.aret (v := .ref zq) hx hb hr (Or.inr ⟨_, rfl⟩) (Or.inr ⟨_, rfl⟩) (fun t ht hW => ⟨⟨some zq, zw_1, rfl, ⟨zq, rfl, hw⟩, ⟨by rw [ht]; exact hP, hD⟩⟩, hS.F ht⟩) hS.2.2 dJx4a65c_grow_d5877_10 hlocks)

set_option maxHeartbeats 4000000 in
set_option maxRecDepth 100000 in
theorem c_Jx4a65c_add_72be8_A (l : Launch) (G : zG) (d : Nat) (w : va_W) (kl bl : Nat) (mo : Int32) (kd dd cap n : Nat) (ga : Nat → Option Nat) (kv v ci : Nat) (fs : List Value) (sz : Nat) (hhl : w[kl]? = some (bl, .inr (0, [.int mo, .ref dd, .int (nI n)]))) (hhd : w[kd]? = some (dd, .inl (G.2 5, cap, .inr (.inr (.inr (.inr ga)))))) (hhv : w[kv]? = some (v, .inr (ci, fs))) (hkv : kv ≠ kl) (hkv2 : kl ≠ kv) (hkn : kl ≠ kd) (hkn2 : kd ≠ kl) (hkv3 : kv ≠ kd) (hkv4 : kd ≠ kv) (hn : n < cap) (h9h : cap < 1000) (hci : ci = 5 ∨ ci = 1 ∨ ci = 4) : Met l yJx4a65c_add_72be8 wsJx4a65c_add_72be8 ({ frames := 0, cells := 0, slots := 0, locals := 0 }) (va_Pc [.ref bl, .ref v, .ref dd, .int (nI n)] (zCu G d w sz)) (va_Qv (fun w1 : va_W => w1 = (w.set kd (dd, .inl (G.2 5, cap, .inr (.inr (.inr (.inr (va_up ga n (some v)))))))).set kl (bl, .inr (0, [.int mo, .ref dd, .int (nI (n + 1))]))) (zB G (va_A w sz)) (va_A w sz)) (0) (0) (va_A w sz) := by
  refine Met.ofW (cc := cJx4a65c_add_72be8) (maxL := 4) (ret := none) (by decide) rfl ?_
  intro p e s m args below meth c s₁ B hml hv
  obtain ⟨rfl, hsz, hP, hK, hD0, hZ⟩ := hv
  have hx := B.exec
  have hb := B.bytes
  have hr := B.returns
  have hts := atoms_spec (ws := wsJx4a65c_add_72be8) B.pre
  have hown : s.vm.findClass RJx4a65c = some m.cls := findClass_of_methodNamed B.named
  have hlocks := B.notSynchronized
  have hi_Jx4a65c : ∀ w ∈ u_ws RJx4a65c TJx4a65c 3, w ∈ wsJx4a65c_add_72be8 := (fun _ h => List.mem_cons_of_mem _ (List.mem_append_right _ h))
  have hNs := hZ.1.2.2
  have hS0 : va_S (fun _ => False) s.heap s.heap [] := va_S.rf
  subst hsz
  have hD := hD0.self (sz := s.heap.size)
  generalize hAe : va_A w s.heap.size = Aw at hD hZ ⊢
  have hA : ∀ q : Nat, s.heap.size ≤ q → Aw q := fun q h => by rw [← hAe]; exact Or.inr h
  have hS : va_S Aw s.heap s.heap [] := va_S.rf
  have hl := lv_entry ([.ref bl, .ref v, .ref dd, .int (nI n)]) (n := 4) (Nat.le_of_ble_eq_true rfl)
  rw [lg_entry_eq]
  generalize (lg_sl ([.ref bl, .ref v, .ref dd, .int (nI n)]) ++ List.replicate (4 - (lg_sl ([.ref bl, .ref v, .ref dd, .int (nI n)])).length) Slot.unset).toArray = ls at hl ⊢
  have hl : lv_has ls 4 [(0, .ref bl), (1, .ref v), (2, .ref dd), (3, .int (nI n))] := hl
  obtain ⟨hZz, hZt, hZao, ⟨mi0, hMi0⟩, hZdc, hZca, hZav⟩ := id hZ.2
  refine lv_iload_n hx hb dJx4a65c_add_72be8_0 rfl (lv_at hl 3 rfl) ?_
  refine lv_aload_n hx hb dJx4a65c_add_72be8_1 rfl (lv_at hl 2 rfl) ?_
  refine va_alen hx hb hK hP kd 5 hhd rfl (v := nI (cap)) rfl dJx4a65c_add_72be8_2 ?_
  refine lv_icmp_ne (tgt := 11) hx hb dJx4a65c_add_72be8_3 (by decide) (fun zc_1 => ?_) (fun zc_1 => ?_)
  · skip
    refine lv_aload_n hx hb dJx4a65c_add_72be8_11 rfl (lv_at hl 2 rfl) ?_
    refine lv_iload_n hx hb dJx4a65c_add_72be8_12 rfl (lv_at hl 3 rfl) ?_
    refine lv_aload_n hx hb dJx4a65c_add_72be8_13 rfl (lv_at hl 1 rfl) ?_
    refine vb_astq (E := "java/lang/Object") (C := zcn ci) hx hb hK hP hD hS kd 5 hhd rfl (zrecvE hci hK hP hhv) (vb_asgC (hZca ci hci)) (vp_in_nI hn (by omega)) dJx4a65c_add_72be8_14 (fun Hz Lz hP hD hS => ?_)
    rw [nI_clamp (by omega)] at hP hD
    have hP : va_P G.1 vwCl (w.set kd (dd, .inl (G.2 5, cap, .inr (.inr (.inr (.inr (va_up ga n (some v)))))))) Hz := hP
    have hD : va_D Aw (w.set kd (dd, .inl (G.2 5, cap, .inr (.inr (.inr (.inr (va_up ga n (some v)))))))) := hD
    have hhl : (w.set kd (dd, .inl (G.2 5, cap, .inr (.inr (.inr (.inr (va_up ga n (some v))))))))[kl]? = some (bl, .inr (0, [.int mo, .ref dd, .int (nI n)])) := z_other (by first | assumption | omega) hhl
    have hhd : (w.set kd (dd, .inl (G.2 5, cap, .inr (.inr (.inr (.inr (va_up ga n (some v))))))))[kd]? = some (dd, .inl (G.2 5, cap, .inr (.inr (.inr (.inr (va_up ga n (some v))))))) := z_self hhd
    have hhv : (w.set kd (dd, .inl (G.2 5, cap, .inr (.inr (.inr (.inr (va_up ga n (some v))))))))[kv]? = some (v, .inr (ci, fs)) := z_other (by first | assumption | omega) hhv
    refine lv_aload_n hx hb dJx4a65c_add_72be8_15 rfl (lv_at hl 0 rfl) ?_
    refine lv_iload_n hx hb dJx4a65c_add_72be8_16 rfl (lv_at hl 3 rfl) ?_
    refine lv_iconst (v := 1) hx hb dJx4a65c_add_72be8_17 (by decide) ?_
    refine lv_iadd hx hb dJx4a65c_add_72be8_18 ?_
    refine W.eq (g2 := F0 m 19 ls [.int (nI (n + 1)), .ref bl]) (by first | (rw [nI_1]; done) | (rw [nI_1]; rfl)) ?_
    refine va_put (D := G.1) (ci := 0) (v := .int (nI (n + 1))) (ty := .int) (C := RJx4a65c) (T := TJx4a65c) (N := 3) hx hb hts hi_Jx4a65c tyJx4a65c tyJx4a65c_ok nmJx4a65c hown hK hP hD hS kl hhl rfl 2 (by decide) (hts (.fieldLink RJx4a65c 48 "java/util/ArrayList" "size" "I") (List.mem_of_getElem? (i := 1) rfl)) (fun _ h9 => h9) rfl (by decide +kernel) rfl rfl (Nat.le_of_ble_eq_true rfl) dJx4a65c_add_72be8_19 (fun Hz Lz hP hD hS => ?_)
    have hP : va_P G.1 vwCl ((w.set kd (dd, .inl (G.2 5, cap, .inr (.inr (.inr (.inr (va_up ga n (some v)))))))).set kl (bl, .inr (0, [.int mo, .ref dd, .int (nI (n + 1))]))) Hz := hP
    have hD : va_D Aw ((w.set kd (dd, .inl (G.2 5, cap, .inr (.inr (.inr (.inr (va_up ga n (some v)))))))).set kl (bl, .inr (0, [.int mo, .ref dd, .int (nI (n + 1))]))) := hD
    have hhl : ((w.set kd (dd, .inl (G.2 5, cap, .inr (.inr (.inr (.inr (va_up ga n (some v)))))))).set kl (bl, .inr (0, [.int mo, .ref dd, .int (nI (n + 1))])))[kl]? = some (bl, .inr (0, [.int mo, .ref dd, .int (nI (n + 1))])) := z_self hhl
    have hhd : ((w.set kd (dd, .inl (G.2 5, cap, .inr (.inr (.inr (.inr (va_up ga n (some v)))))))).set kl (bl, .inr (0, [.int mo, .ref dd, .int (nI (n + 1))])))[kd]? = some (dd, .inl (G.2 5, cap, .inr (.inr (.inr (.inr (va_up ga n (some v))))))) := z_other (by first | assumption | omega) hhd
    have hhv : ((w.set kd (dd, .inl (G.2 5, cap, .inr (.inr (.inr (.inr (va_up ga n (some v)))))))).set kl (bl, .inr (0, [.int mo, .ref dd, .int (nI (n + 1))])))[kv]? = some (v, .inr (ci, fs)) := z_other (by first | assumption | omega) hhv
    exact z_widen (k := 0) (n := 0) (show 0 ≤ 0 by omega) (show 0 ≤ 0 by omega) (W.vret hx hb hr (fun t ht hW => ⟨⟨((w.set kd (dd, .inl (G.2 5, cap, .inr (.inr (.inr (.inr (va_up ga n (some v)))))))).set kl (bl, .inr (0, [.int mo, .ref dd, .int (nI (n + 1))]))), rfl, rfl, ⟨by rw [ht]; exact hP, hD⟩⟩, hS.F ht⟩) hS.2.2 dJx4a65c_add_72be8_22 hlocks)
  · skip
    exact absurd ((nI_eq (by omega) (by omega)).mp zc_1) (by omega)

set_option maxHeartbeats 4000000 in
set_option maxRecDepth 100000 in
theorem c_Jx4a65c_add_72be8_B (l : Launch) (G : zG) (d : Nat) (w : va_W) (kl bl : Nat) (mo : Int32) (kd dd n : Nat) (ga : Nat → Option Nat) (kv v ci : Nat) (fs : List Value) (sz : Nat) (hhl : w[kl]? = some (bl, .inr (0, [.int mo, .ref dd, .int (nI n)]))) (hhd : w[kd]? = some (dd, .inl (G.2 5, n, .inr (.inr (.inr (.inr ga)))))) (hhv : w[kv]? = some (v, .inr (ci, fs))) (hkv : kv ≠ kl) (hkv2 : kl ≠ kv) (hkn : kl ≠ kd) (hkn2 : kd ≠ kl) (h2 : 2 ≤ n) (h9h : n < 100) (hel : ∀ (i y : Nat), ga i = some y → ∃ (k : Nat) (fs : List Value), k ≠ kl ∧ w[k]? = some (y, .inr (ci, fs))) (hci : ci = 5 ∨ ci = 1 ∨ ci = 4) : Met l yJx4a65c_add_72be8 wsJx4a65c_add_72be8 ({ frames := 5, cells := 1, slots := n + n / 2, locals := 127 }) (va_Pc [.ref bl, .ref v, .ref dd, .int (nI n)] (zCu G d w sz)) (va_Qv (fun w1 : va_W => ∃ q : Nat, w1 = ((((w ++ ([(q, .inl (G.2 5, n + n / 2, .inr (.inr (.inr (.inr (va_cpy ga (fun _ => none) 0 0 n))))))] : va_W)).set kl (bl, .inr (0, [.int mo, .ref q, .int (nI n)]))).set w.length (q, .inl (G.2 5, n + n / 2, .inr (.inr (.inr (.inr (va_up (va_cpy ga (fun _ => none) 0 0 n) n (some v)))))))).set kl (bl, .inr (0, [.int mo, .ref q, .int (nI (n + 1))]))) ∧ ∀ (k : Nat) (y : va_E), w[k]? = some (q, y) → False) (zB G (va_A w sz)) (va_A w sz)) (1) (n + n / 2) (va_A w sz) := by
  refine Met.ofW (cc := cJx4a65c_add_72be8) (maxL := 4) (ret := none) (by decide) rfl ?_
  intro p e s m args below meth c s₁ B hml hv
  obtain ⟨rfl, hsz, hP, hK, hD0, hZ⟩ := hv
  have hx := B.exec
  have hb := B.bytes
  have hr := B.returns
  have hts := atoms_spec (ws := wsJx4a65c_add_72be8) B.pre
  have hown : s.vm.findClass RJx4a65c = some m.cls := findClass_of_methodNamed B.named
  have hlocks := B.notSynchronized
  have hi_Jx4a65c : ∀ w ∈ u_ws RJx4a65c TJx4a65c 3, w ∈ wsJx4a65c_add_72be8 := (fun _ h => List.mem_cons_of_mem _ (List.mem_append_right _ h))
  have hNs := hZ.1.2.2
  have hS0 : va_S (fun _ => False) s.heap s.heap [] := va_S.rf
  subst hsz
  have hD := hD0.self (sz := s.heap.size)
  generalize hAe : va_A w s.heap.size = Aw at hD hZ ⊢
  have hA : ∀ q : Nat, s.heap.size ≤ q → Aw q := fun q h => by rw [← hAe]; exact Or.inr h
  have hS : va_S Aw s.heap s.heap [] := va_S.rf
  have hl := lv_entry ([.ref bl, .ref v, .ref dd, .int (nI n)]) (n := 4) (Nat.le_of_ble_eq_true rfl)
  rw [lg_entry_eq]
  generalize (lg_sl ([.ref bl, .ref v, .ref dd, .int (nI n)]) ++ List.replicate (4 - (lg_sl ([.ref bl, .ref v, .ref dd, .int (nI n)])).length) Slot.unset).toArray = ls at hl ⊢
  have hl : lv_has ls 4 [(0, .ref bl), (1, .ref v), (2, .ref dd), (3, .int (nI n))] := hl
  obtain ⟨hZz, hZt, hZao, ⟨mi0, hMi0⟩, hZdc, hZca, hZav⟩ := id hZ.2
  have hll : kl < w.length := (List.getElem?_eq_some_iff.mp hhl).1
  have hhv0 := hhv
  refine lv_iload_n hx hb dJx4a65c_add_72be8_0 rfl (lv_at hl 3 rfl) ?_
  refine lv_aload_n hx hb dJx4a65c_add_72be8_1 rfl (lv_at hl 2 rfl) ?_
  refine va_alen hx hb hK hP kd 5 hhd rfl (v := nI (n)) rfl dJx4a65c_add_72be8_2 ?_
  refine lv_icmp_ne (tgt := 11) hx hb dJx4a65c_add_72be8_3 (by decide) (fun zc_1 => ?_) (fun zc_1 => ?_)
  · skip
    exact absurd rfl zc_1
  · skip
    refine lv_aload_n hx hb dJx4a65c_add_72be8_6 rfl (lv_at hl 0 rfl) ?_
    refine z_cuq (va_runV (As := []) (rest := []) ⟨hx, hb, hml, hown, hts⟩ (c_Jx4a65c_grow_d5877_B l G d w kl bl mo kd dd n ci ga s.heap.size hhl hhd hkn hkn2 h2 h9h hel hci) (cwV 0 hts gJx4a65c_add_72be8_Jx4a65c_grow_d5877 rfl rfl rfl (by decide +kernel) ⟨Nat.le_of_ble_eq_true rfl, Nat.le_of_ble_eq_true rfl⟩) (z_wv hK hP (ci := 0) (q0 := kl) rfl hhl hP hD hZ hS hA) rfl rfl hl.1 rfl (lv_room (Nat.le_of_ble_eq_true rfl)) dJx4a65c_add_72be8_7 ⟨(show 0 + 1 ≤ 1 by omega), (show 0 + (n + n / 2) ≤ n + n / 2 by omega)⟩) hD hS hA (fun zr_2 zw_2 Hz Lz hw hP hD hS => ?_)
    obtain ⟨zq, he2, hw⟩ := hw
    subst he2
    subst hw
    have hhl0 := hhl
    have hfq := zfr hD hhl0
    have hhl : ((w ++ ([(zq, .inl (G.2 5, n + n / 2, .inr (.inr (.inr (.inr (va_cpy ga (fun _ => none) 0 0 n))))))] : va_W)).set kl (bl, .inr (0, [.int mo, .ref zq, .int (nI n)])))[kl]? = some (bl, .inr (0, [.int mo, .ref zq, .int (nI n)])) := z_self (z_app hhl)
    have hhv : ((w ++ ([(zq, .inl (G.2 5, n + n / 2, .inr (.inr (.inr (.inr (va_cpy ga (fun _ => none) 0 0 n))))))] : va_W)).set kl (bl, .inr (0, [.int mo, .ref zq, .int (nI n)])))[kv]? = some (v, .inr (ci, fs)) := z_other (by omega) (z_app hhv)
    have hh9 : ((w ++ ([(zq, .inl (G.2 5, n + n / 2, .inr (.inr (.inr (.inr (va_cpy ga (fun _ => none) 0 0 n))))))] : va_W)).set kl (bl, .inr (0, [.int mo, .ref zq, .int (nI n)])))[w.length]? = some (zq, .inl (G.2 5, n + n / 2, .inr (.inr (.inr (.inr (va_cpy ga (fun _ => none) 0 0 n)))))) := z_other (by omega) z_last
    have hvl : kv < w.length := (List.getElem?_eq_some_iff.mp hhv0).1
    refine W.eq (g2 := F0 m 10 ls [.ref zq]) rfl ?_
    refine lv_astore_n (lv' := [(2, .ref zq), (0, .ref bl), (1, .ref v), (3, .int (nI n))]) hx hb dJx4a65c_add_72be8_10 rfl hl (by decide) rfl (fun ls hl => ?_)
    refine lv_aload_n hx hb dJx4a65c_add_72be8_11 rfl (lv_at hl 0 rfl) ?_
    refine lv_iload_n hx hb dJx4a65c_add_72be8_12 rfl (lv_at hl 3 rfl) ?_
    refine lv_aload_n hx hb dJx4a65c_add_72be8_13 rfl (lv_at hl 2 rfl) ?_
    refine vb_astq (E := "java/lang/Object") (C := zcn ci) hx hb hK hP hD hS w.length 5 hh9 rfl (zrecvE hci hK hP hhv) (vb_asgC (hZca ci hci)) (vp_in_nI (show n < n + n / 2 by omega) (by omega)) dJx4a65c_add_72be8_14 (fun Hz Lz hP hD hS => ?_)
    rw [nI_clamp (by omega)] at hP hD
    have hP : va_P G.1 vwCl (((w ++ ([(zq, .inl (G.2 5, n + n / 2, .inr (.inr (.inr (.inr (va_cpy ga (fun _ => none) 0 0 n))))))] : va_W)).set kl (bl, .inr (0, [.int mo, .ref zq, .int (nI n)]))).set w.length (zq, .inl (G.2 5, (n + n / 2), .inr (.inr (.inr (.inr (va_up (va_cpy ga (fun _ => none) 0 0 n) n (some v)))))))) Hz := hP
    have hD : va_D Aw (((w ++ ([(zq, .inl (G.2 5, n + n / 2, .inr (.inr (.inr (.inr (va_cpy ga (fun _ => none) 0 0 n))))))] : va_W)).set kl (bl, .inr (0, [.int mo, .ref zq, .int (nI n)]))).set w.length (zq, .inl (G.2 5, (n + n / 2), .inr (.inr (.inr (.inr (va_up (va_cpy ga (fun _ => none) 0 0 n) n (some v)))))))) := hD
    have hhl : (((w ++ ([(zq, .inl (G.2 5, n + n / 2, .inr (.inr (.inr (.inr (va_cpy ga (fun _ => none) 0 0 n))))))] : va_W)).set kl (bl, .inr (0, [.int mo, .ref zq, .int (nI n)]))).set w.length (zq, .inl (G.2 5, (n + n / 2), .inr (.inr (.inr (.inr (va_up (va_cpy ga (fun _ => none) 0 0 n) n (some v))))))))[kl]? = some (bl, .inr (0, [.int mo, .ref zq, .int (nI n)])) := z_other (by first | assumption | omega) hhl
    have hhv : (((w ++ ([(zq, .inl (G.2 5, n + n / 2, .inr (.inr (.inr (.inr (va_cpy ga (fun _ => none) 0 0 n))))))] : va_W)).set kl (bl, .inr (0, [.int mo, .ref zq, .int (nI n)]))).set w.length (zq, .inl (G.2 5, (n + n / 2), .inr (.inr (.inr (.inr (va_up (va_cpy ga (fun _ => none) 0 0 n) n (some v))))))))[kv]? = some (v, .inr (ci, fs)) := z_other (by first | assumption | omega) hhv
    have hh9 : (((w ++ ([(zq, .inl (G.2 5, n + n / 2, .inr (.inr (.inr (.inr (va_cpy ga (fun _ => none) 0 0 n))))))] : va_W)).set kl (bl, .inr (0, [.int mo, .ref zq, .int (nI n)]))).set w.length (zq, .inl (G.2 5, (n + n / 2), .inr (.inr (.inr (.inr (va_up (va_cpy ga (fun _ => none) 0 0 n) n (some v))))))))[w.length]? = some (zq, .inl (G.2 5, (n + n / 2), .inr (.inr (.inr (.inr (va_up (va_cpy ga (fun _ => none) 0 0 n) n (some v))))))) := z_self hh9
    refine lv_aload_n hx hb dJx4a65c_add_72be8_15 rfl (lv_at hl 1 rfl) ?_
    refine lv_iload_n hx hb dJx4a65c_add_72be8_16 rfl (lv_at hl 3 rfl) ?_
    refine lv_iconst (v := 1) hx hb dJx4a65c_add_72be8_17 (by decide) ?_
    refine lv_iadd hx hb dJx4a65c_add_72be8_18 ?_
    refine W.eq (g2 := F0 m 19 ls [.int (nI (n + 1)), .ref bl]) (by first | (rw [nI_1]; done) | (rw [nI_1]; rfl)) ?_
    refine va_put (D := G.1) (ci := 0) (v := .int (nI (n + 1))) (ty := .int) (C := RJx4a65c) (T := TJx4a65c) (N := 3) hx hb hts hi_Jx4a65c tyJx4a65c tyJx4a65c_ok nmJx4a65c hown hK hP hD hS kl hhl rfl 2 (by decide) (hts (.fieldLink RJx4a65c 48 "java/util/ArrayList" "size" "I") (List.mem_of_getElem? (i := 1) rfl)) (fun _ h9 => h9) rfl (by decide +kernel) rfl rfl (Nat.le_of_ble_eq_true rfl) dJx4a65c_add_72be8_19 (fun Hz Lz hP hD hS => ?_)
    have hP : va_P G.1 vwCl ((((w ++ ([(zq, .inl (G.2 5, n + n / 2, .inr (.inr (.inr (.inr (va_cpy ga (fun _ => none) 0 0 n))))))] : va_W)).set kl (bl, .inr (0, [.int mo, .ref zq, .int (nI n)]))).set w.length (zq, .inl (G.2 5, (n + n / 2), .inr (.inr (.inr (.inr (va_up (va_cpy ga (fun _ => none) 0 0 n) n (some v)))))))).set kl (bl, .inr (0, [.int mo, .ref zq, .int (nI (n + 1))]))) Hz := hP
    have hD : va_D Aw ((((w ++ ([(zq, .inl (G.2 5, n + n / 2, .inr (.inr (.inr (.inr (va_cpy ga (fun _ => none) 0 0 n))))))] : va_W)).set kl (bl, .inr (0, [.int mo, .ref zq, .int (nI n)]))).set w.length (zq, .inl (G.2 5, (n + n / 2), .inr (.inr (.inr (.inr (va_up (va_cpy ga (fun _ => none) 0 0 n) n (some v)))))))).set kl (bl, .inr (0, [.int mo, .ref zq, .int (nI (n + 1))]))) := hD
    have hhl : ((((w ++ ([(zq, .inl (G.2 5, n + n / 2, .inr (.inr (.inr (.inr (va_cpy ga (fun _ => none) 0 0 n))))))] : va_W)).set kl (bl, .inr (0, [.int mo, .ref zq, .int (nI n)]))).set w.length (zq, .inl (G.2 5, (n + n / 2), .inr (.inr (.inr (.inr (va_up (va_cpy ga (fun _ => none) 0 0 n) n (some v)))))))).set kl (bl, .inr (0, [.int mo, .ref zq, .int (nI (n + 1))])))[kl]? = some (bl, .inr (0, [.int mo, .ref zq, .int (nI (n + 1))])) := z_self hhl
    have hhv : ((((w ++ ([(zq, .inl (G.2 5, n + n / 2, .inr (.inr (.inr (.inr (va_cpy ga (fun _ => none) 0 0 n))))))] : va_W)).set kl (bl, .inr (0, [.int mo, .ref zq, .int (nI n)]))).set w.length (zq, .inl (G.2 5, (n + n / 2), .inr (.inr (.inr (.inr (va_up (va_cpy ga (fun _ => none) 0 0 n) n (some v)))))))).set kl (bl, .inr (0, [.int mo, .ref zq, .int (nI (n + 1))])))[kv]? = some (v, .inr (ci, fs)) := z_other (by first | assumption | omega) hhv
    have hh9 : ((((w ++ ([(zq, .inl (G.2 5, n + n / 2, .inr (.inr (.inr (.inr (va_cpy ga (fun _ => none) 0 0 n))))))] : va_W)).set kl (bl, .inr (0, [.int mo, .ref zq, .int (nI n)]))).set w.length (zq, .inl (G.2 5, (n + n / 2), .inr (.inr (.inr (.inr (va_up (va_cpy ga (fun _ => none) 0 0 n) n (some v)))))))).set kl (bl, .inr (0, [.int mo, .ref zq, .int (nI (n + 1))])))[w.length]? = some (zq, .inl (G.2 5, (n + n / 2), .inr (.inr (.inr (.inr (va_up (va_cpy ga (fun _ => none) 0 0 n) n (some v))))))) := z_other (by first | assumption | omega) hh9
    exact z_widen (k := 1) (n := n + n / 2) (show 0 + 1 ≤ 1 by omega) (show 0 + (n + n / 2) ≤ n + n / 2 by omega) (W.vret hx hb hr (fun t ht hW => ⟨⟨((((w ++ ([(zq, .inl (G.2 5, n + n / 2, .inr (.inr (.inr (.inr (va_cpy ga (fun _ => none) 0 0 n))))))] : va_W)).set kl (bl, .inr (0, [.int mo, .ref zq, .int (nI n)]))).set w.length (zq, .inl (G.2 5, (n + n / 2), .inr (.inr (.inr (.inr (va_up (va_cpy ga (fun _ => none) 0 0 n) n (some v)))))))).set kl (bl, .inr (0, [.int mo, .ref zq, .int (nI (n + 1))]))), rfl, ⟨zq, rfl, hfq⟩, ⟨by rw [ht]; exact hP, hD⟩⟩, hS.F ht⟩) hS.2.2 dJx4a65c_add_72be8_22 hlocks)

set_option maxHeartbeats 4000000 in
set_option maxRecDepth 100000 in
theorem c_Jx4a65c_add_72be8_C (l : Launch) (G : zG) (d : Nat) (w : va_W) (kl bl : Nat) (mo : Int32) (kv v ci : Nat) (fs : List Value) (sz : Nat) (hhl : w[kl]? = some (bl, .inr (0, [.int mo, .ref d, .int (nI 0)]))) (hhv : w[kv]? = some (v, .inr (ci, fs))) (hkv : kv ≠ kl) (hkv2 : kl ≠ kv) (hci : ci = 5 ∨ ci = 1 ∨ ci = 4) : Met l yJx4a65c_add_72be8 wsJx4a65c_add_72be8 ({ frames := 3, cells := 1, slots := 10, locals := 57 }) (va_Pc [.ref bl, .ref v, .ref d, .int (nI 0)] (zCu G d w sz)) (va_Qv (fun w1 : va_W => ∃ q : Nat, w1 = ((((w ++ ([(q, .inl (G.2 5, 10, .inr (.inr (.inr (.inr (fun _ => none))))))] : va_W)).set kl (bl, .inr (0, [.int mo, .ref q, .int (nI 0)]))).set w.length (q, .inl (G.2 5, 10, .inr (.inr (.inr (.inr (va_up (fun _ => none) 0 (some v)))))))).set kl (bl, .inr (0, [.int mo, .ref q, .int (nI (0 + 1))]))) ∧ ∀ (k : Nat) (y : va_E), w[k]? = some (q, y) → False) (zB G (va_A w sz)) (va_A w sz)) (1) (10) (va_A w sz) := by
  refine Met.ofW (cc := cJx4a65c_add_72be8) (maxL := 4) (ret := none) (by decide) rfl ?_
  intro p e s m args below meth c s₁ B hml hv
  obtain ⟨rfl, hsz, hP, hK, hD0, hZ⟩ := hv
  have hx := B.exec
  have hb := B.bytes
  have hr := B.returns
  have hts := atoms_spec (ws := wsJx4a65c_add_72be8) B.pre
  have hown : s.vm.findClass RJx4a65c = some m.cls := findClass_of_methodNamed B.named
  have hlocks := B.notSynchronized
  have hi_Jx4a65c : ∀ w ∈ u_ws RJx4a65c TJx4a65c 3, w ∈ wsJx4a65c_add_72be8 := (fun _ h => List.mem_cons_of_mem _ (List.mem_append_right _ h))
  have hNs := hZ.1.2.2
  have hS0 : va_S (fun _ => False) s.heap s.heap [] := va_S.rf
  subst hsz
  have hD := hD0.self (sz := s.heap.size)
  generalize hAe : va_A w s.heap.size = Aw at hD hZ ⊢
  have hA : ∀ q : Nat, s.heap.size ≤ q → Aw q := fun q h => by rw [← hAe]; exact Or.inr h
  have hS : va_S Aw s.heap s.heap [] := va_S.rf
  have hl := lv_entry ([.ref bl, .ref v, .ref d, .int (nI 0)]) (n := 4) (Nat.le_of_ble_eq_true rfl)
  rw [lg_entry_eq]
  generalize (lg_sl ([.ref bl, .ref v, .ref d, .int (nI 0)]) ++ List.replicate (4 - (lg_sl ([.ref bl, .ref v, .ref d, .int (nI 0)])).length) Slot.unset).toArray = ls at hl ⊢
  have hl : lv_has ls 4 [(0, .ref bl), (1, .ref v), (2, .ref d), (3, .int (nI 0))] := hl
  obtain ⟨hZz, hZt, hZao, ⟨mi0, hMi0⟩, hZdc, hZca, hZav⟩ := id hZ.2
  have hll : kl < w.length := (List.getElem?_eq_some_iff.mp hhl).1
  have hhv0 := hhv
  refine lv_iload_n hx hb dJx4a65c_add_72be8_0 rfl (lv_at hl 3 rfl) ?_
  refine lv_aload_n hx hb dJx4a65c_add_72be8_1 rfl (lv_at hl 2 rfl) ?_
  refine va_tlen hx hb hZt hS (v := nI 0) rfl dJx4a65c_add_72be8_2 ?_
  refine lv_icmp_ne (tgt := 11) hx hb dJx4a65c_add_72be8_3 (by decide) (fun zc_1 => ?_) (fun zc_1 => ?_)
  · skip
    exact absurd rfl zc_1
  · skip
    refine lv_aload_n hx hb dJx4a65c_add_72be8_6 rfl (lv_at hl 0 rfl) ?_
    refine z_cuq (va_runV (As := []) (rest := []) ⟨hx, hb, hml, hown, hts⟩ (c_Jx4a65c_grow_d5877_C l G d w kl bl mo s.heap.size hhl) (cwV 0 hts gJx4a65c_add_72be8_Jx4a65c_grow_d5877 rfl rfl rfl (by decide +kernel) ⟨Nat.le_of_ble_eq_true rfl, Nat.le_of_ble_eq_true rfl⟩) (z_wv hK hP (ci := 0) (q0 := kl) rfl hhl hP hD hZ hS hA) rfl rfl hl.1 rfl (lv_room (Nat.le_of_ble_eq_true rfl)) dJx4a65c_add_72be8_7 ⟨(show 0 + 1 ≤ 1 by omega), (show 0 + 10 ≤ 10 by omega)⟩) hD hS hA (fun zr_2 zw_2 Hz Lz hw hP hD hS => ?_)
    obtain ⟨zq, he2, hw⟩ := hw
    subst he2
    subst hw
    have hhl0 := hhl
    have hfq := zfr hD hhl0
    have hhl : ((w ++ ([(zq, .inl (G.2 5, 10, .inr (.inr (.inr (.inr (fun _ => none))))))] : va_W)).set kl (bl, .inr (0, [.int mo, .ref zq, .int (nI 0)])))[kl]? = some (bl, .inr (0, [.int mo, .ref zq, .int (nI 0)])) := z_self (z_app hhl)
    have hhv : ((w ++ ([(zq, .inl (G.2 5, 10, .inr (.inr (.inr (.inr (fun _ => none))))))] : va_W)).set kl (bl, .inr (0, [.int mo, .ref zq, .int (nI 0)])))[kv]? = some (v, .inr (ci, fs)) := z_other (by omega) (z_app hhv)
    have hh9 : ((w ++ ([(zq, .inl (G.2 5, 10, .inr (.inr (.inr (.inr (fun _ => none))))))] : va_W)).set kl (bl, .inr (0, [.int mo, .ref zq, .int (nI 0)])))[w.length]? = some (zq, .inl (G.2 5, 10, .inr (.inr (.inr (.inr (fun _ => none)))))) := z_other (by omega) z_last
    have hvl : kv < w.length := (List.getElem?_eq_some_iff.mp hhv0).1
    refine W.eq (g2 := F0 m 10 ls [.ref zq]) rfl ?_
    refine lv_astore_n (lv' := [(2, .ref zq), (0, .ref bl), (1, .ref v), (3, .int (nI 0))]) hx hb dJx4a65c_add_72be8_10 rfl hl (by decide) rfl (fun ls hl => ?_)
    refine lv_aload_n hx hb dJx4a65c_add_72be8_11 rfl (lv_at hl 0 rfl) ?_
    refine lv_iload_n hx hb dJx4a65c_add_72be8_12 rfl (lv_at hl 3 rfl) ?_
    refine lv_aload_n hx hb dJx4a65c_add_72be8_13 rfl (lv_at hl 2 rfl) ?_
    refine vb_astq (E := "java/lang/Object") (C := zcn ci) hx hb hK hP hD hS w.length 5 hh9 rfl (zrecvE hci hK hP hhv) (vb_asgC (hZca ci hci)) (vp_in_nI (show 0 < 10 by omega) (by omega)) dJx4a65c_add_72be8_14 (fun Hz Lz hP hD hS => ?_)
    rw [nI_clamp (by omega)] at hP hD
    have hP : va_P G.1 vwCl (((w ++ ([(zq, .inl (G.2 5, 10, .inr (.inr (.inr (.inr (fun _ => none))))))] : va_W)).set kl (bl, .inr (0, [.int mo, .ref zq, .int (nI 0)]))).set w.length (zq, .inl (G.2 5, 10, .inr (.inr (.inr (.inr (va_up (fun _ => none) 0 (some v)))))))) Hz := hP
    have hD : va_D Aw (((w ++ ([(zq, .inl (G.2 5, 10, .inr (.inr (.inr (.inr (fun _ => none))))))] : va_W)).set kl (bl, .inr (0, [.int mo, .ref zq, .int (nI 0)]))).set w.length (zq, .inl (G.2 5, 10, .inr (.inr (.inr (.inr (va_up (fun _ => none) 0 (some v)))))))) := hD
    have hhl : (((w ++ ([(zq, .inl (G.2 5, 10, .inr (.inr (.inr (.inr (fun _ => none))))))] : va_W)).set kl (bl, .inr (0, [.int mo, .ref zq, .int (nI 0)]))).set w.length (zq, .inl (G.2 5, 10, .inr (.inr (.inr (.inr (va_up (fun _ => none) 0 (some v))))))))[kl]? = some (bl, .inr (0, [.int mo, .ref zq, .int (nI 0)])) := z_other (by first | assumption | omega) hhl
    have hhv : (((w ++ ([(zq, .inl (G.2 5, 10, .inr (.inr (.inr (.inr (fun _ => none))))))] : va_W)).set kl (bl, .inr (0, [.int mo, .ref zq, .int (nI 0)]))).set w.length (zq, .inl (G.2 5, 10, .inr (.inr (.inr (.inr (va_up (fun _ => none) 0 (some v))))))))[kv]? = some (v, .inr (ci, fs)) := z_other (by first | assumption | omega) hhv
    have hh9 : (((w ++ ([(zq, .inl (G.2 5, 10, .inr (.inr (.inr (.inr (fun _ => none))))))] : va_W)).set kl (bl, .inr (0, [.int mo, .ref zq, .int (nI 0)]))).set w.length (zq, .inl (G.2 5, 10, .inr (.inr (.inr (.inr (va_up (fun _ => none) 0 (some v))))))))[w.length]? = some (zq, .inl (G.2 5, 10, .inr (.inr (.inr (.inr (va_up (fun _ => none) 0 (some v))))))) := z_self hh9
    refine lv_aload_n hx hb dJx4a65c_add_72be8_15 rfl (lv_at hl 1 rfl) ?_
    refine lv_iload_n hx hb dJx4a65c_add_72be8_16 rfl (lv_at hl 3 rfl) ?_
    refine lv_iconst (v := 1) hx hb dJx4a65c_add_72be8_17 (by decide) ?_
    refine lv_iadd hx hb dJx4a65c_add_72be8_18 ?_
    refine W.eq (g2 := F0 m 19 ls [.int (nI (0 + 1)), .ref bl]) (by first | (rfl; done) | (rfl; rfl)) ?_
    refine va_put (D := G.1) (ci := 0) (v := .int (nI (0 + 1))) (ty := .int) (C := RJx4a65c) (T := TJx4a65c) (N := 3) hx hb hts hi_Jx4a65c tyJx4a65c tyJx4a65c_ok nmJx4a65c hown hK hP hD hS kl hhl rfl 2 (by decide) (hts (.fieldLink RJx4a65c 48 "java/util/ArrayList" "size" "I") (List.mem_of_getElem? (i := 1) rfl)) (fun _ h9 => h9) rfl (by decide +kernel) rfl rfl (Nat.le_of_ble_eq_true rfl) dJx4a65c_add_72be8_19 (fun Hz Lz hP hD hS => ?_)
    have hP : va_P G.1 vwCl ((((w ++ ([(zq, .inl (G.2 5, 10, .inr (.inr (.inr (.inr (fun _ => none))))))] : va_W)).set kl (bl, .inr (0, [.int mo, .ref zq, .int (nI 0)]))).set w.length (zq, .inl (G.2 5, 10, .inr (.inr (.inr (.inr (va_up (fun _ => none) 0 (some v)))))))).set kl (bl, .inr (0, [.int mo, .ref zq, .int (nI (0 + 1))]))) Hz := hP
    have hD : va_D Aw ((((w ++ ([(zq, .inl (G.2 5, 10, .inr (.inr (.inr (.inr (fun _ => none))))))] : va_W)).set kl (bl, .inr (0, [.int mo, .ref zq, .int (nI 0)]))).set w.length (zq, .inl (G.2 5, 10, .inr (.inr (.inr (.inr (va_up (fun _ => none) 0 (some v)))))))).set kl (bl, .inr (0, [.int mo, .ref zq, .int (nI (0 + 1))]))) := hD
    have hhl : ((((w ++ ([(zq, .inl (G.2 5, 10, .inr (.inr (.inr (.inr (fun _ => none))))))] : va_W)).set kl (bl, .inr (0, [.int mo, .ref zq, .int (nI 0)]))).set w.length (zq, .inl (G.2 5, 10, .inr (.inr (.inr (.inr (va_up (fun _ => none) 0 (some v)))))))).set kl (bl, .inr (0, [.int mo, .ref zq, .int (nI (0 + 1))])))[kl]? = some (bl, .inr (0, [.int mo, .ref zq, .int (nI (0 + 1))])) := z_self hhl
    have hhv : ((((w ++ ([(zq, .inl (G.2 5, 10, .inr (.inr (.inr (.inr (fun _ => none))))))] : va_W)).set kl (bl, .inr (0, [.int mo, .ref zq, .int (nI 0)]))).set w.length (zq, .inl (G.2 5, 10, .inr (.inr (.inr (.inr (va_up (fun _ => none) 0 (some v)))))))).set kl (bl, .inr (0, [.int mo, .ref zq, .int (nI (0 + 1))])))[kv]? = some (v, .inr (ci, fs)) := z_other (by first | assumption | omega) hhv
    have hh9 : ((((w ++ ([(zq, .inl (G.2 5, 10, .inr (.inr (.inr (.inr (fun _ => none))))))] : va_W)).set kl (bl, .inr (0, [.int mo, .ref zq, .int (nI 0)]))).set w.length (zq, .inl (G.2 5, 10, .inr (.inr (.inr (.inr (va_up (fun _ => none) 0 (some v)))))))).set kl (bl, .inr (0, [.int mo, .ref zq, .int (nI (0 + 1))])))[w.length]? = some (zq, .inl (G.2 5, 10, .inr (.inr (.inr (.inr (va_up (fun _ => none) 0 (some v))))))) := z_other (by first | assumption | omega) hh9
    exact z_widen (k := 1) (n := 10) (show 0 + 1 ≤ 1 by omega) (show 0 + 10 ≤ 10 by omega) (W.vret hx hb hr (fun t ht hW => ⟨⟨((((w ++ ([(zq, .inl (G.2 5, 10, .inr (.inr (.inr (.inr (fun _ => none))))))] : va_W)).set kl (bl, .inr (0, [.int mo, .ref zq, .int (nI 0)]))).set w.length (zq, .inl (G.2 5, 10, .inr (.inr (.inr (.inr (va_up (fun _ => none) 0 (some v)))))))).set kl (bl, .inr (0, [.int mo, .ref zq, .int (nI (0 + 1))]))), rfl, ⟨zq, rfl, hfq⟩, ⟨by rw [ht]; exact hP, hD⟩⟩, hS.F ht⟩) hS.2.2 dJx4a65c_add_72be8_22 hlocks)

set_option maxHeartbeats 4000000 in
set_option maxRecDepth 100000 in
theorem c_Jx4a65c_add_9ea2d_A (l : Launch) (G : zG) (d : Nat) (w : va_W) (kl bl : Nat) (mo : Int32) (kd dd n : Nat) (ga : Nat → Option Nat) (kv v ci : Nat) (fs : List Value) (sz : Nat) (hhl : w[kl]? = some (bl, .inr (0, [.int mo, .ref dd, .int (nI n)]))) (hhd : w[kd]? = some (dd, .inl (G.2 5, (lcap n), .inr (.inr (.inr (.inr ga)))))) (hhv : w[kv]? = some (v, .inr (ci, fs))) (hkv : kv ≠ kl) (hkv2 : kl ≠ kv) (hkn : kl ≠ kd) (hkn2 : kd ≠ kl) (hkv3 : kv ≠ kd) (hkv4 : kd ≠ kv) (h0n : 0 < n) (hn : n < lcap n) (h9h : lcap n < 1000) (hci : ci = 5 ∨ ci = 1 ∨ ci = 4) (hkl : kl < 12) (hlen : 12 ≤ w.length) (hkd : 12 ≤ kd) : Met l yJx4a65c_add_9ea2d wsJx4a65c_add_9ea2d ({ frames := 1, cells := 0, slots := 0, locals := 23 }) (va_Pc [.ref bl, .ref v] (zCu G d w sz)) (va_Qi (fun (r1 : Int32) (w1 : va_W) => r1 = 1 ∧ ∃ q : Nat, zAd G w w1 kl bl dd n v q ga) (zB G (va_A w sz)) (va_A w sz)) (0) (0) (va_A w sz) := by
  refine Met.ofW (cc := cJx4a65c_add_9ea2d) (maxL := 2) (ret := (some .boolean)) (by decide) rfl ?_
  intro p e s m args below meth c s₁ B hml hv
  obtain ⟨rfl, hsz, hP, hK, hD0, hZ⟩ := hv
  have hx := B.exec
  have hb := B.bytes
  have hr := B.returns
  have hts := atoms_spec (ws := wsJx4a65c_add_9ea2d) B.pre
  have hown : s.vm.findClass RJx4a65c = some m.cls := findClass_of_methodNamed B.named
  have hlocks := B.notSynchronized
  have hi_Jx4a65c : ∀ w ∈ u_ws RJx4a65c TJx4a65c 3, w ∈ wsJx4a65c_add_9ea2d := (fun _ h => List.mem_cons_of_mem _ (List.mem_append_right _ h))
  have hNs := hZ.1.2.2
  have hS0 : va_S (fun _ => False) s.heap s.heap [] := va_S.rf
  subst hsz
  have hD := hD0.self (sz := s.heap.size)
  generalize hAe : va_A w s.heap.size = Aw at hD hZ ⊢
  have hA : ∀ q : Nat, s.heap.size ≤ q → Aw q := fun q h => by rw [← hAe]; exact Or.inr h
  have hS : va_S Aw s.heap s.heap [] := va_S.rf
  have hl := lv_entry ([.ref bl, .ref v]) (n := 2) (Nat.le_of_ble_eq_true rfl)
  rw [lg_entry_eq]
  generalize (lg_sl ([.ref bl, .ref v]) ++ List.replicate (2 - (lg_sl ([.ref bl, .ref v])).length) Slot.unset).toArray = ls at hl ⊢
  have hl : lv_has ls 2 [(0, .ref bl), (1, .ref v)] := hl
  have hhl0 := hhl
  have hhd0 := hhd
  refine lv_aload_n hx hb dJx4a65c_add_9ea2d_0 rfl (lv_at hl 0 rfl) ?_
  refine lv_dup hx hb dJx4a65c_add_9ea2d_1 rfl ?_
  refine va_get (D := G.1) (ci := 0) (v := .int mo) (C := RJx4a65c) (T := TJx4a65c) (N := 3) hx hb hts hi_Jx4a65c hown hK hP kl hhl rfl 0 (by decide) (hts (.fieldLink RJx4a65c 63 "java/util/ArrayList" "modCount" "I") (List.mem_of_getElem? (i := 1) rfl)) (u_same (hts (.sameField "java/util/ArrayList" "java/util/AbstractList" "modCount" "I") (List.mem_of_getElem? (i := 2) rfl))) rfl dJx4a65c_add_9ea2d_2 ?_
  refine lv_iconst (v := 1) hx hb dJx4a65c_add_9ea2d_5 (by decide) ?_
  refine lv_iadd hx hb dJx4a65c_add_9ea2d_6 ?_
  refine va_put (D := G.1) (ci := 0) (v := .int (mo + 1)) (ty := .int) (C := RJx4a65c) (T := TJx4a65c) (N := 3) hx hb hts hi_Jx4a65c tyJx4a65c tyJx4a65c_ok nmJx4a65c hown hK hP hD hS kl hhl rfl 0 (by decide) (hts (.fieldLink RJx4a65c 63 "java/util/ArrayList" "modCount" "I") (List.mem_of_getElem? (i := 1) rfl)) (u_same (hts (.sameField "java/util/ArrayList" "java/util/AbstractList" "modCount" "I") (List.mem_of_getElem? (i := 2) rfl))) rfl (by decide +kernel) rfl rfl (Nat.le_of_ble_eq_true rfl) dJx4a65c_add_9ea2d_7 (fun Hz Lz hP hD hS => ?_)
  have hP : va_P G.1 vwCl (w.set kl (bl, .inr (0, [.int (mo + 1), .ref dd, .int (nI n)]))) Hz := hP
  have hD : va_D Aw (w.set kl (bl, .inr (0, [.int (mo + 1), .ref dd, .int (nI n)]))) := hD
  have hhl : (w.set kl (bl, .inr (0, [.int (mo + 1), .ref dd, .int (nI n)])))[kl]? = some (bl, .inr (0, [.int (mo + 1), .ref dd, .int (nI n)])) := z_self hhl
  have hhd : (w.set kl (bl, .inr (0, [.int (mo + 1), .ref dd, .int (nI n)])))[kd]? = some (dd, .inl (G.2 5, (lcap n), .inr (.inr (.inr (.inr ga))))) := z_other (by first | assumption | omega) hhd
  have hhv : (w.set kl (bl, .inr (0, [.int (mo + 1), .ref dd, .int (nI n)])))[kv]? = some (v, .inr (ci, fs)) := z_other (by first | assumption | omega) hhv
  refine lv_aload_n hx hb dJx4a65c_add_9ea2d_10 rfl (lv_at hl 0 rfl) ?_
  refine lv_aload_n hx hb dJx4a65c_add_9ea2d_11 rfl (lv_at hl 1 rfl) ?_
  refine lv_aload_n hx hb dJx4a65c_add_9ea2d_12 rfl (lv_at hl 0 rfl) ?_
  refine va_get (D := G.1) (ci := 0) (v := .ref dd) (C := RJx4a65c) (T := TJx4a65c) (N := 3) hx hb hts hi_Jx4a65c hown hK hP kl hhl rfl 1 (by decide) (hts (.fieldLink RJx4a65c 9 "java/util/ArrayList" "elementData" "[Ljava/lang/Object;") (List.mem_of_getElem? (i := 3) rfl)) (fun _ h9 => h9) rfl dJx4a65c_add_9ea2d_13 ?_
  refine lv_aload_n hx hb dJx4a65c_add_9ea2d_16 rfl (lv_at hl 0 rfl) ?_
  refine va_get (D := G.1) (ci := 0) (v := .int (nI n)) (C := RJx4a65c) (T := TJx4a65c) (N := 3) hx hb hts hi_Jx4a65c hown hK hP kl hhl rfl 2 (by decide) (hts (.fieldLink RJx4a65c 48 "java/util/ArrayList" "size" "I") (List.mem_of_getElem? (i := 4) rfl)) (fun _ h9 => h9) rfl dJx4a65c_add_9ea2d_17 ?_
  refine z_cuv (va_runV (As := [.ref v, .ref dd, .int (nI n)]) (rest := []) ⟨hx, hb, hml, hown, hts⟩ (c_Jx4a65c_add_72be8_A l G d (w.set kl (bl, .inr (0, [.int (mo + 1), .ref dd, .int (nI n)]))) kl bl (mo + 1) kd dd (lcap n) n ga kv v ci fs Hz.size hhl hhd hhv hkv hkv2 hkn hkn2 hkv3 hkv4 hn h9h hci) (cwV 3 hts gJx4a65c_add_9ea2d_Jx4a65c_add_72be8 rfl rfl rfl (by decide +kernel) ⟨Nat.le_of_ble_eq_true rfl, Nat.le_of_ble_eq_true rfl⟩) (z_wv hK hP (ci := 0) (q0 := kl) rfl hhl hP hD hZ hS hA) rfl rfl hl.1 rfl (lv_room (Nat.le_of_ble_eq_true rfl)) dJx4a65c_add_9ea2d_20 ⟨(show 0 + 0 ≤ 0 by omega), (show 0 + 0 ≤ 0 by omega)⟩) hD hS hA (fun zw_1 Hz Lz hw hP hD hS => ?_)
  subst hw
  refine lv_iconst (v := 1) hx hb dJx4a65c_add_9ea2d_23 (by decide) ?_
  exact z_widen (k := 0) (n := 0) (show 0 ≤ 0 by omega) (show 0 ≤ 0 by omega) (W.zret (v := 1) hx hb hr rfl (fun t ht hW => ⟨⟨1, _, rfl, ⟨rfl, ⟨dd, zAd_a (c := .inr (0, [])) hkl hkd hhl0 hhd0 h0n hn⟩⟩, ⟨by rw [ht]; exact hP, hD⟩⟩, hS.F ht⟩) hS.2.2 dJx4a65c_add_9ea2d_24 hlocks)

set_option maxHeartbeats 4000000 in
set_option maxRecDepth 100000 in
theorem c_Jx4a65c_add_9ea2d_B (l : Launch) (G : zG) (d : Nat) (w : va_W) (kl bl : Nat) (mo : Int32) (kd dd n : Nat) (ga : Nat → Option Nat) (kv v ci : Nat) (fs : List Value) (sz : Nat) (hhl : w[kl]? = some (bl, .inr (0, [.int mo, .ref dd, .int (nI n)]))) (hhd : w[kd]? = some (dd, .inl (G.2 5, n, .inr (.inr (.inr (.inr ga)))))) (hhv : w[kv]? = some (v, .inr (ci, fs))) (hkv : kv ≠ kl) (hkv2 : kl ≠ kv) (hkn : kl ≠ kd) (hkn2 : kd ≠ kl) (h2 : 2 ≤ n) (h9h : n < 100) (hel : ∀ (i y : Nat), ga i = some y → ∃ (k : Nat) (fs : List Value), k ≠ kl ∧ w[k]? = some (y, .inr (ci, fs))) (hci : ci = 5 ∨ ci = 1 ∨ ci = 4) (hkl : kl < 12) (hlen : 12 ≤ w.length) (hcap : lcap n = n) (hgn : ∀ k, n ≤ k → ga k = none) : Met l yJx4a65c_add_9ea2d wsJx4a65c_add_9ea2d ({ frames := 6, cells := 1, slots := n + n / 2, locals := 150 }) (va_Pc [.ref bl, .ref v] (zCu G d w sz)) (va_Qi (fun (r1 : Int32) (w1 : va_W) => r1 = 1 ∧ ∃ q : Nat, zAd G w w1 kl bl dd n v q ga) (zB G (va_A w sz)) (va_A w sz)) (1) (n + n / 2) (va_A w sz) := by
  refine Met.ofW (cc := cJx4a65c_add_9ea2d) (maxL := 2) (ret := (some .boolean)) (by decide) rfl ?_
  intro p e s m args below meth c s₁ B hml hv
  obtain ⟨rfl, hsz, hP, hK, hD0, hZ⟩ := hv
  have hx := B.exec
  have hb := B.bytes
  have hr := B.returns
  have hts := atoms_spec (ws := wsJx4a65c_add_9ea2d) B.pre
  have hown : s.vm.findClass RJx4a65c = some m.cls := findClass_of_methodNamed B.named
  have hlocks := B.notSynchronized
  have hi_Jx4a65c : ∀ w ∈ u_ws RJx4a65c TJx4a65c 3, w ∈ wsJx4a65c_add_9ea2d := (fun _ h => List.mem_cons_of_mem _ (List.mem_append_right _ h))
  have hNs := hZ.1.2.2
  have hS0 : va_S (fun _ => False) s.heap s.heap [] := va_S.rf
  subst hsz
  have hD := hD0.self (sz := s.heap.size)
  generalize hAe : va_A w s.heap.size = Aw at hD hZ ⊢
  have hA : ∀ q : Nat, s.heap.size ≤ q → Aw q := fun q h => by rw [← hAe]; exact Or.inr h
  have hS : va_S Aw s.heap s.heap [] := va_S.rf
  have hl := lv_entry ([.ref bl, .ref v]) (n := 2) (Nat.le_of_ble_eq_true rfl)
  rw [lg_entry_eq]
  generalize (lg_sl ([.ref bl, .ref v]) ++ List.replicate (2 - (lg_sl ([.ref bl, .ref v])).length) Slot.unset).toArray = ls at hl ⊢
  have hl : lv_has ls 2 [(0, .ref bl), (1, .ref v)] := hl
  have hhl0 := hhl
  refine lv_aload_n hx hb dJx4a65c_add_9ea2d_0 rfl (lv_at hl 0 rfl) ?_
  refine lv_dup hx hb dJx4a65c_add_9ea2d_1 rfl ?_
  refine va_get (D := G.1) (ci := 0) (v := .int mo) (C := RJx4a65c) (T := TJx4a65c) (N := 3) hx hb hts hi_Jx4a65c hown hK hP kl hhl rfl 0 (by decide) (hts (.fieldLink RJx4a65c 63 "java/util/ArrayList" "modCount" "I") (List.mem_of_getElem? (i := 1) rfl)) (u_same (hts (.sameField "java/util/ArrayList" "java/util/AbstractList" "modCount" "I") (List.mem_of_getElem? (i := 2) rfl))) rfl dJx4a65c_add_9ea2d_2 ?_
  refine lv_iconst (v := 1) hx hb dJx4a65c_add_9ea2d_5 (by decide) ?_
  refine lv_iadd hx hb dJx4a65c_add_9ea2d_6 ?_
  refine va_put (D := G.1) (ci := 0) (v := .int (mo + 1)) (ty := .int) (C := RJx4a65c) (T := TJx4a65c) (N := 3) hx hb hts hi_Jx4a65c tyJx4a65c tyJx4a65c_ok nmJx4a65c hown hK hP hD hS kl hhl rfl 0 (by decide) (hts (.fieldLink RJx4a65c 63 "java/util/ArrayList" "modCount" "I") (List.mem_of_getElem? (i := 1) rfl)) (u_same (hts (.sameField "java/util/ArrayList" "java/util/AbstractList" "modCount" "I") (List.mem_of_getElem? (i := 2) rfl))) rfl (by decide +kernel) rfl rfl (Nat.le_of_ble_eq_true rfl) dJx4a65c_add_9ea2d_7 (fun Hz Lz hP hD hS => ?_)
  have hP : va_P G.1 vwCl (w.set kl (bl, .inr (0, [.int (mo + 1), .ref dd, .int (nI n)]))) Hz := hP
  have hD : va_D Aw (w.set kl (bl, .inr (0, [.int (mo + 1), .ref dd, .int (nI n)]))) := hD
  have hhl : (w.set kl (bl, .inr (0, [.int (mo + 1), .ref dd, .int (nI n)])))[kl]? = some (bl, .inr (0, [.int (mo + 1), .ref dd, .int (nI n)])) := z_self hhl
  have hhd : (w.set kl (bl, .inr (0, [.int (mo + 1), .ref dd, .int (nI n)])))[kd]? = some (dd, .inl (G.2 5, n, .inr (.inr (.inr (.inr ga))))) := z_other (by first | assumption | omega) hhd
  have hhv : (w.set kl (bl, .inr (0, [.int (mo + 1), .ref dd, .int (nI n)])))[kv]? = some (v, .inr (ci, fs)) := z_other (by first | assumption | omega) hhv
  refine lv_aload_n hx hb dJx4a65c_add_9ea2d_10 rfl (lv_at hl 0 rfl) ?_
  refine lv_aload_n hx hb dJx4a65c_add_9ea2d_11 rfl (lv_at hl 1 rfl) ?_
  refine lv_aload_n hx hb dJx4a65c_add_9ea2d_12 rfl (lv_at hl 0 rfl) ?_
  refine va_get (D := G.1) (ci := 0) (v := .ref dd) (C := RJx4a65c) (T := TJx4a65c) (N := 3) hx hb hts hi_Jx4a65c hown hK hP kl hhl rfl 1 (by decide) (hts (.fieldLink RJx4a65c 9 "java/util/ArrayList" "elementData" "[Ljava/lang/Object;") (List.mem_of_getElem? (i := 3) rfl)) (fun _ h9 => h9) rfl dJx4a65c_add_9ea2d_13 ?_
  refine lv_aload_n hx hb dJx4a65c_add_9ea2d_16 rfl (lv_at hl 0 rfl) ?_
  refine va_get (D := G.1) (ci := 0) (v := .int (nI n)) (C := RJx4a65c) (T := TJx4a65c) (N := 3) hx hb hts hi_Jx4a65c hown hK hP kl hhl rfl 2 (by decide) (hts (.fieldLink RJx4a65c 48 "java/util/ArrayList" "size" "I") (List.mem_of_getElem? (i := 4) rfl)) (fun _ h9 => h9) rfl dJx4a65c_add_9ea2d_17 ?_
  refine z_cuv (va_runV (As := [.ref v, .ref dd, .int (nI n)]) (rest := []) ⟨hx, hb, hml, hown, hts⟩ (c_Jx4a65c_add_72be8_B l G d (w.set kl (bl, .inr (0, [.int (mo + 1), .ref dd, .int (nI n)]))) kl bl (mo + 1) kd dd n ga kv v ci fs Hz.size hhl hhd hhv hkv hkv2 hkn hkn2 h2 h9h (fun i9 y9 h9 => by obtain ⟨k9, fs9, h10, h11⟩ := hel i9 y9 h9; exact ⟨k9, fs9, h10, z_other (Ne.symm h10) h11⟩) hci) (cwV 3 hts gJx4a65c_add_9ea2d_Jx4a65c_add_72be8 rfl rfl rfl (by decide +kernel) ⟨Nat.le_of_ble_eq_true rfl, Nat.le_of_ble_eq_true rfl⟩) (z_wv hK hP (ci := 0) (q0 := kl) rfl hhl hP hD hZ hS hA) rfl rfl hl.1 rfl (lv_room (Nat.le_of_ble_eq_true rfl)) dJx4a65c_add_9ea2d_20 ⟨(show 0 + 1 ≤ 1 by omega), (show 0 + (n + n / 2) ≤ n + n / 2 by omega)⟩) hD hS hA (fun zw_1 Hz Lz hw hP hD hS => ?_)
  obtain ⟨zq, hw, hfq⟩ := hw
  subst hw
  refine lv_iconst (v := 1) hx hb dJx4a65c_add_9ea2d_23 (by decide) ?_
  exact z_widen (k := 1) (n := n + n / 2) (show 0 + 1 ≤ 1 by omega) (show 0 + (n + n / 2) ≤ n + n / 2 by omega) (W.zret (v := 1) hx hb hr rfl (fun t ht hW => ⟨⟨1, _, rfl, ⟨rfl, ⟨zq, by rw [List.length_set]; exact zAd_b (G := G) (cap := n + n / 2) (v := v) (dd := dd) (a := .inr (0, [.int (mo + 1), .ref dd, .int (nI n)])) (b := .inr (0, [.int (mo + 1), .ref zq, .int (nI n)])) (c := .inl (G.2 5, n + n / 2, .inr (.inr (.inr (.inr (va_cpy ga (fun _ => none) 0 0 n)))))) (mc := mo + 1) hlen hkl hhl0 (by rw [lcap_s1 (by omega) (by omega), hcap]) (zcpyn hgn v) (zfr_s hhl0 hfq)⟩⟩, ⟨by rw [ht]; exact hP, hD⟩⟩, hS.F ht⟩) hS.2.2 dJx4a65c_add_9ea2d_24 hlocks)

set_option maxHeartbeats 4000000 in
set_option maxRecDepth 100000 in
theorem c_Jx4a65c_add_9ea2d_C (l : Launch) (G : zG) (d : Nat) (w : va_W) (kl bl : Nat) (mo : Int32) (kv v ci : Nat) (fs : List Value) (sz : Nat) (hhl : w[kl]? = some (bl, .inr (0, [.int mo, .ref d, .int (nI 0)]))) (hhv : w[kv]? = some (v, .inr (ci, fs))) (hkv : kv ≠ kl) (hkv2 : kl ≠ kv) (hci : ci = 5 ∨ ci = 1 ∨ ci = 4) (hkl : kl < 12) (hlen : 12 ≤ w.length) : Met l yJx4a65c_add_9ea2d wsJx4a65c_add_9ea2d ({ frames := 4, cells := 1, slots := 10, locals := 80 }) (va_Pc [.ref bl, .ref v] (zCu G d w sz)) (va_Qi (fun (r1 : Int32) (w1 : va_W) => r1 = 1 ∧ ∃ q : Nat, zAd G w w1 kl bl d 0 v q (fun _ => none)) (zB G (va_A w sz)) (va_A w sz)) (1) (10) (va_A w sz) := by
  refine Met.ofW (cc := cJx4a65c_add_9ea2d) (maxL := 2) (ret := (some .boolean)) (by decide) rfl ?_
  intro p e s m args below meth c s₁ B hml hv
  obtain ⟨rfl, hsz, hP, hK, hD0, hZ⟩ := hv
  have hx := B.exec
  have hb := B.bytes
  have hr := B.returns
  have hts := atoms_spec (ws := wsJx4a65c_add_9ea2d) B.pre
  have hown : s.vm.findClass RJx4a65c = some m.cls := findClass_of_methodNamed B.named
  have hlocks := B.notSynchronized
  have hi_Jx4a65c : ∀ w ∈ u_ws RJx4a65c TJx4a65c 3, w ∈ wsJx4a65c_add_9ea2d := (fun _ h => List.mem_cons_of_mem _ (List.mem_append_right _ h))
  have hNs := hZ.1.2.2
  have hS0 : va_S (fun _ => False) s.heap s.heap [] := va_S.rf
  subst hsz
  have hD := hD0.self (sz := s.heap.size)
  generalize hAe : va_A w s.heap.size = Aw at hD hZ ⊢
  have hA : ∀ q : Nat, s.heap.size ≤ q → Aw q := fun q h => by rw [← hAe]; exact Or.inr h
  have hS : va_S Aw s.heap s.heap [] := va_S.rf
  have hl := lv_entry ([.ref bl, .ref v]) (n := 2) (Nat.le_of_ble_eq_true rfl)
  rw [lg_entry_eq]
  generalize (lg_sl ([.ref bl, .ref v]) ++ List.replicate (2 - (lg_sl ([.ref bl, .ref v])).length) Slot.unset).toArray = ls at hl ⊢
  have hl : lv_has ls 2 [(0, .ref bl), (1, .ref v)] := hl
  have hhl0 := hhl
  refine lv_aload_n hx hb dJx4a65c_add_9ea2d_0 rfl (lv_at hl 0 rfl) ?_
  refine lv_dup hx hb dJx4a65c_add_9ea2d_1 rfl ?_
  refine va_get (D := G.1) (ci := 0) (v := .int mo) (C := RJx4a65c) (T := TJx4a65c) (N := 3) hx hb hts hi_Jx4a65c hown hK hP kl hhl rfl 0 (by decide) (hts (.fieldLink RJx4a65c 63 "java/util/ArrayList" "modCount" "I") (List.mem_of_getElem? (i := 1) rfl)) (u_same (hts (.sameField "java/util/ArrayList" "java/util/AbstractList" "modCount" "I") (List.mem_of_getElem? (i := 2) rfl))) rfl dJx4a65c_add_9ea2d_2 ?_
  refine lv_iconst (v := 1) hx hb dJx4a65c_add_9ea2d_5 (by decide) ?_
  refine lv_iadd hx hb dJx4a65c_add_9ea2d_6 ?_
  refine va_put (D := G.1) (ci := 0) (v := .int (mo + 1)) (ty := .int) (C := RJx4a65c) (T := TJx4a65c) (N := 3) hx hb hts hi_Jx4a65c tyJx4a65c tyJx4a65c_ok nmJx4a65c hown hK hP hD hS kl hhl rfl 0 (by decide) (hts (.fieldLink RJx4a65c 63 "java/util/ArrayList" "modCount" "I") (List.mem_of_getElem? (i := 1) rfl)) (u_same (hts (.sameField "java/util/ArrayList" "java/util/AbstractList" "modCount" "I") (List.mem_of_getElem? (i := 2) rfl))) rfl (by decide +kernel) rfl rfl (Nat.le_of_ble_eq_true rfl) dJx4a65c_add_9ea2d_7 (fun Hz Lz hP hD hS => ?_)
  have hP : va_P G.1 vwCl (w.set kl (bl, .inr (0, [.int (mo + 1), .ref d, .int (nI 0)]))) Hz := hP
  have hD : va_D Aw (w.set kl (bl, .inr (0, [.int (mo + 1), .ref d, .int (nI 0)]))) := hD
  have hhl : (w.set kl (bl, .inr (0, [.int (mo + 1), .ref d, .int (nI 0)])))[kl]? = some (bl, .inr (0, [.int (mo + 1), .ref d, .int (nI 0)])) := z_self hhl
  have hhv : (w.set kl (bl, .inr (0, [.int (mo + 1), .ref d, .int (nI 0)])))[kv]? = some (v, .inr (ci, fs)) := z_other (by first | assumption | omega) hhv
  refine lv_aload_n hx hb dJx4a65c_add_9ea2d_10 rfl (lv_at hl 0 rfl) ?_
  refine lv_aload_n hx hb dJx4a65c_add_9ea2d_11 rfl (lv_at hl 1 rfl) ?_
  refine lv_aload_n hx hb dJx4a65c_add_9ea2d_12 rfl (lv_at hl 0 rfl) ?_
  refine va_get (D := G.1) (ci := 0) (v := .ref d) (C := RJx4a65c) (T := TJx4a65c) (N := 3) hx hb hts hi_Jx4a65c hown hK hP kl hhl rfl 1 (by decide) (hts (.fieldLink RJx4a65c 9 "java/util/ArrayList" "elementData" "[Ljava/lang/Object;") (List.mem_of_getElem? (i := 3) rfl)) (fun _ h9 => h9) rfl dJx4a65c_add_9ea2d_13 ?_
  refine lv_aload_n hx hb dJx4a65c_add_9ea2d_16 rfl (lv_at hl 0 rfl) ?_
  refine va_get (D := G.1) (ci := 0) (v := .int (nI 0)) (C := RJx4a65c) (T := TJx4a65c) (N := 3) hx hb hts hi_Jx4a65c hown hK hP kl hhl rfl 2 (by decide) (hts (.fieldLink RJx4a65c 48 "java/util/ArrayList" "size" "I") (List.mem_of_getElem? (i := 4) rfl)) (fun _ h9 => h9) rfl dJx4a65c_add_9ea2d_17 ?_
  refine z_cuv (va_runV (As := [.ref v, .ref d, .int (nI 0)]) (rest := []) ⟨hx, hb, hml, hown, hts⟩ (c_Jx4a65c_add_72be8_C l G d (w.set kl (bl, .inr (0, [.int (mo + 1), .ref d, .int (nI 0)]))) kl bl (mo + 1) kv v ci fs Hz.size hhl hhv hkv hkv2 hci) (cwV 3 hts gJx4a65c_add_9ea2d_Jx4a65c_add_72be8 rfl rfl rfl (by decide +kernel) ⟨Nat.le_of_ble_eq_true rfl, Nat.le_of_ble_eq_true rfl⟩) (z_wv hK hP (ci := 0) (q0 := kl) rfl hhl hP hD hZ hS hA) rfl rfl hl.1 rfl (lv_room (Nat.le_of_ble_eq_true rfl)) dJx4a65c_add_9ea2d_20 ⟨(show 0 + 1 ≤ 1 by omega), (show 0 + 10 ≤ 10 by omega)⟩) hD hS hA (fun zw_1 Hz Lz hw hP hD hS => ?_)
  obtain ⟨zq, hw, hfq⟩ := hw
  subst hw
  refine lv_iconst (v := 1) hx hb dJx4a65c_add_9ea2d_23 (by decide) ?_
  exact z_widen (k := 1) (n := 10) (show 0 + 1 ≤ 1 by omega) (show 0 + 10 ≤ 10 by omega) (W.zret (v := 1) hx hb hr rfl (fun t ht hW => ⟨⟨1, _, rfl, ⟨rfl, ⟨zq, by rw [List.length_set]; exact zAd_b (G := G) (cap := 10) (v := v) (n := 0) (ga := fun _ => none) (f := fun _ => none) (dd := d) (a := .inr (0, [.int (mo + 1), .ref d, .int (nI 0)])) (b := .inr (0, [.int (mo + 1), .ref zq, .int (nI 0)])) (c := .inl (G.2 5, 10, .inr (.inr (.inr (.inr (fun _ => none)))))) (mc := mo + 1) hlen hkl hhl0 rfl rfl (zfr_s hhl0 hfq)⟩⟩, ⟨by rw [ht]; exact hP, hD⟩⟩, hS.F ht⟩) hS.2.2 dJx4a65c_add_9ea2d_24 hlocks)
