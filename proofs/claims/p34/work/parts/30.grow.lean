set_option maxHeartbeats 4000000 in
set_option maxRecDepth 100000 in
theorem c_J8_newLength_cabcc (l : Launch) (G : zG) (w : va_W) (n : Nat) (h2 : 2 ≤ n) (h1h : n < 100) : Met l yJ8_newLength_cabcc wsJ8_newLength_cabcc ({ frames := 1, cells := 0, slots := 0, locals := 14 }) (va_Pc [.int (nI n), .int (nI 1), .int (nI (n / 2))] (zPx G w)) (zQi (fun r : Int32 => r = nI (n + n / 2))) 0 0 (fun _ => False) := by
  refine Met.ofW (cc := cJ8_newLength_cabcc) (maxL := 4) (ret := (some .int)) (by decide) rfl ?_
  intro p e s m args below meth c s₁ B hml hv
  obtain ⟨rfl, hP, hK, hZ⟩ := hv
  have hx := B.exec
  have hb := B.bytes
  have hr := B.returns
  have hts := atoms_spec (ws := wsJ8_newLength_cabcc) B.pre
  have hown : s.vm.findClass RJ8 = some m.cls := findClass_of_methodNamed B.named
  have hlocks := B.notSynchronized
  have hNs := hZ.2.2
  have hS0 : va_S (fun _ => False) s.heap s.heap [] := va_S.rf
  have hl := lv_entry ([.int (nI n), .int (nI 1), .int (nI (n / 2))]) (n := 4) (Nat.le_of_ble_eq_true rfl)
  rw [lg_entry_eq]
  generalize (lg_sl ([.int (nI n), .int (nI 1), .int (nI (n / 2))]) ++ List.replicate (4 - (lg_sl ([.int (nI n), .int (nI 1), .int (nI (n / 2))])).length) Slot.unset).toArray = ls at hl ⊢
  have hl : lv_has ls 4 [(0, .int (nI n)), (1, .int (nI 1)), (2, .int (nI (n / 2)))] := hl
  refine lv_iload_n hx hb dJ8_newLength_cabcc_0 rfl (lv_at hl 0 rfl) ?_
  refine lv_iload_n hx hb dJ8_newLength_cabcc_1 rfl (lv_at hl 1 rfl) ?_
  refine lv_iload_n hx hb dJ8_newLength_cabcc_2 rfl (lv_at hl 2 rfl) ?_
  refine va_mmax hx hb (by rw [hml]; exact hl.1.symm) hown (hts _ (List.mem_of_getElem? (i := 1) rfl)) (hts _ (List.mem_of_getElem? (i := 2) rfl)) (hts _ (List.mem_of_getElem? (i := 3) rfl)) (hts _ (List.mem_of_getElem? (i := 4) rfl)) (Nat.le_of_ble_eq_true rfl) (Nat.le_of_ble_eq_true rfl) (Nat.le_refl _) (Nat.le_refl _) dJ8_newLength_cabcc_3 ?_
  rw [zmax1 n h1h h2]
  refine lv_iadd hx hb dJ8_newLength_cabcc_6 ?_
  refine W.eq (g2 := F0 m 7 ls [.int (nI (n + n / 2))]) (by first | (rw [nI_add]; done) | (rw [nI_add]; rfl)) ?_
  refine lv_istore_n (lv' := [(3, .int (nI (n + n / 2))), (0, .int (nI n)), (1, .int (nI 1)), (2, .int (nI (n / 2)))]) hx hb dJ8_newLength_cabcc_7 rfl hl (by decide) rfl (fun ls hl => ?_)
  refine lv_iconst (v := 0) hx hb dJ8_newLength_cabcc_8 (by decide) ?_
  refine lv_iload_n hx hb dJ8_newLength_cabcc_9 rfl (lv_at hl 0 rfl) ?_
  refine lv_icmp_ge (tgt := 21) hx hb dJ8_newLength_cabcc_10 (by decide) (fun zc_1 => ?_) (fun zc_1 => ?_)
  · skip
    have zd_1 := Int32.not_lt.mpr zc_1
    exact absurd (zGt0 (show 0 < n + n / 2 by omega) (by omega)) (Int32.not_lt.mpr zc_1)
  · skip
    have zd_1 := Int32.not_le.mp zc_1
    refine lv_iload_n hx hb dJ8_newLength_cabcc_13 rfl (lv_at hl 0 rfl) ?_
    refine lv_ldc (v := 2147483639) hx hb hown (hts _ (List.mem_of_getElem? (i := 5) rfl)) dJ8_newLength_cabcc_14 ?_
    refine lv_icmp_gt (tgt := 21) hx hb dJ8_newLength_cabcc_16 (by decide) (fun zc_2 => ?_) (fun zc_2 => ?_)
    · skip
      have zd_2 := Int32.not_le.mpr zc_2
      exact absurd zc_2 (by rw [show (2147483639 : Int32) = nI 2147483639 from rfl]; intro z; have := (nI_ltI (by omega) (by omega)).mp z; omega)
    · skip
      have zd_2 := Int32.not_lt.mp zc_2
      refine lv_iload_n hx hb dJ8_newLength_cabcc_19 rfl (lv_at hl 0 rfl) ?_
      exact W.iret (v := nI (n + n / 2)) hx hb hr (fun t ht hW => ⟨nI (n + n / 2), rfl, rfl, ht⟩) (fun _ h => nomatch h) dJ8_newLength_cabcc_20 hlocks

set_option maxHeartbeats 4000000 in
set_option maxRecDepth 100000 in
theorem c_J7_copyOf_6403c_m (l : Launch) (G : zG) (d mi : Nat) (w : va_W) (kd dd n mm ci : Nat) (ga : Nat → Option Nat) (sz : Nat) (hhd : w[kd]? = some (dd, .inl (G.2 5, n, .inr (.inr (.inr (.inr ga)))))) (hnm : n ≤ mm) (hm : mm ≤ 1000) (hel : ∀ (i y : Nat), ga i = some y → ∃ (k : Nat) (fs : List Value), w[k]? = some (y, .inr (ci, fs))) (hci : ci = 5 ∨ ci = 1 ∨ ci = 4) : Met l yJ7_copyOf_6403c wsJ7_copyOf_6403c ({ frames := 1, cells := 1, slots := mm, locals := 40 }) (va_Pc [.ref dd, .int (nI mm), .ref mi] (zCm G d mi w sz)) (va_Qq (fun (r1 : Option Nat) (w1 : va_W) => ∃ q : Nat, r1 = some q ∧ w1 = w ++ ([(q, .inl (G.2 5, mm, .inr (.inr (.inr (.inr (va_cpy ga (fun _ => none) 0 0 n))))))] : va_W)) (zB G (va_A w sz)) (va_A w sz)) (1) (mm) (va_A w sz) := by
  refine Met.ofW (cc := cJ7_copyOf_6403c) (maxL := 4) (ret := (some (.array (.object "java/lang/Object")))) (by decide) rfl ?_
  intro p e s m args below meth c s₁ B hml hv
  obtain ⟨rfl, ⟨hsz, hP, hK, hD0, hZ⟩, hMi⟩ := hv
  have hx := B.exec
  have hb := B.bytes
  have hr := B.returns
  have hts := atoms_spec (ws := wsJ7_copyOf_6403c) B.pre
  have hown : s.vm.findClass RJ7 = some m.cls := findClass_of_methodNamed B.named
  have hlocks := B.notSynchronized
  have hNs := hZ.1.2.2
  have hS0 : va_S (fun _ => False) s.heap s.heap [] := va_S.rf
  subst hsz
  have hD := hD0.self (sz := s.heap.size)
  generalize hAe : va_A w s.heap.size = Aw at hD hZ ⊢
  have hA : ∀ q : Nat, s.heap.size ≤ q → Aw q := fun q h => by rw [← hAe]; exact Or.inr h
  have hS : va_S Aw s.heap s.heap [] := va_S.rf
  have hl := lv_entry ([.ref dd, .int (nI mm), .ref mi]) (n := 4) (Nat.le_of_ble_eq_true rfl)
  rw [lg_entry_eq]
  generalize (lg_sl ([.ref dd, .int (nI mm), .ref mi]) ++ List.replicate (4 - (lg_sl ([.ref dd, .int (nI mm), .ref mi])).length) Slot.unset).toArray = ls at hl ⊢
  have hl : lv_has ls 4 [(0, .ref dd), (1, .int (nI mm)), (2, .ref mi)] := hl
  obtain ⟨hZz, hZt, hZao, ⟨mi0, hMi0⟩, hZdc, hZca, hZav⟩ := id hZ.2
  refine lv_aload_n hx hb dJ7_copyOf_6403c_0 rfl (lv_at hl 2 rfl) ?_
  refine va_ldcM hx hb hown (hts (.classLink RJ7 110 "[Ljava/lang/Object;") (List.mem_of_getElem? (i := 1) rfl)) hMi dJ7_copyOf_6403c_1 ?_
  refine lv_acmp_ne (rx := some mi) (ry := some mi) (tgt := 13) hx hb dJ7_copyOf_6403c_3 (by decide) (fun z9 => (z9 rfl).elim) (fun _ => ?_)
  refine lv_iload_n hx hb dJ7_copyOf_6403c_6 rfl (lv_at hl 1 rfl) ?_
  refine z_newq (t0 := 5) (cA := G.2 5) (N' := mm) hx hb hown (hts (.classLink RJ7 2 "java/lang/Object") (List.mem_of_getElem? (i := 2) rfl)) hZao rfl hK hP hD hS hA (zNn (by omega)) (nI_clamp (by omega)) (show mm * 4 ≤ 536870912 by omega) (show 0 + 1 ≤ 1 by omega) (show 0 + mm ≤ mm by omega) dJ7_copyOf_6403c_7 (fun zq Hz hP hD hS => ?_)
  have hhd : (w ++ ([(zq, .inl (G.2 5, mm, .inr (.inr (.inr (.inr (fun _ => none))))))] : va_W))[kd]? = some (dd, .inl (G.2 5, n, .inr (.inr (.inr (.inr ga))))) := z_app hhd
  have hh9 : (w ++ ([(zq, .inl (G.2 5, mm, .inr (.inr (.inr (.inr (fun _ => none))))))] : va_W))[w.length]? = some (zq, .inl (G.2 5, mm, .inr (.inr (.inr (.inr (fun _ => none)))))) := z_last
  refine lv_goto (tgt := 24) hx hb dJ7_copyOf_6403c_10 (by decide) ?_
  refine lv_astore_n (lv' := [(3, .ref zq), (0, .ref dd), (1, .int (nI mm)), (2, .ref mi)]) hx hb dJ7_copyOf_6403c_24 rfl hl (by decide) rfl (fun ls hl => ?_)
  refine lv_aload_n hx hb dJ7_copyOf_6403c_25 rfl (lv_at hl 1 rfl) ?_
  refine lv_iconst (v := 0) hx hb dJ7_copyOf_6403c_26 (by decide) ?_
  refine lv_aload_n hx hb dJ7_copyOf_6403c_27 rfl (lv_at hl 0 rfl) ?_
  refine lv_iconst (v := 0) hx hb dJ7_copyOf_6403c_28 (by decide) ?_
  refine lv_aload_n hx hb dJ7_copyOf_6403c_29 rfl (lv_at hl 1 rfl) ?_
  refine va_alen hx hb hK hP kd 5 hhd rfl (v := nI (n)) rfl dJ7_copyOf_6403c_30 ?_
  refine lv_iload_n hx hb dJ7_copyOf_6403c_31 rfl (lv_at hl 2 rfl) ?_
  refine va_mmin hx hb (by rw [hml]; exact hl.1.symm) hown (hts _ (List.mem_of_getElem? (i := 3) rfl)) (hts _ (List.mem_of_getElem? (i := 4) rfl)) (hts _ (List.mem_of_getElem? (i := 5) rfl)) (hts _ (List.mem_of_getElem? (i := 6) rfl)) (Nat.le_of_ble_eq_true rfl) (Nat.le_of_ble_eq_true rfl) (show 0 + 1 ≤ 1 by omega) (show 0 + mm ≤ mm by omega) dJ7_copyOf_6403c_32 ?_
  rw [zminm hnm (by omega)]
  refine va_copyq (C := zcn ci) hx hb (by rw [hml]; exact hl.1.symm) hown (hts _ (List.mem_of_getElem? (i := 7) rfl)) (hts _ (List.mem_of_getElem? (i := 8) rfl)) (hts _ (List.mem_of_getElem? (i := 9) rfl)) (hts _ (List.mem_of_getElem? (i := 10) rfl)) hK hP hD hS kd w.length 5 5 hhd hh9 rfl rfl (by decide) (by decide) (zNn (by omega)) (by rw [nI_clamp (by omega)]; exact Nat.le_of_eq (Nat.zero_add n)) (by rw [nI_clamp (by omega)]; show 0 + n ≤ mm; omega) (fun i9 _ y9 h9 => by obtain ⟨k9, fs9, h10⟩ := hel _ y9 h9; exact zrecvE hci hK hP (z_app h10)) (vb_asgC (hZca ci hci)) (Nat.le_of_ble_eq_true rfl) (Nat.le_of_ble_eq_true rfl) dJ7_copyOf_6403c_35 (fun Hz Lz hP hD hS => ?_)
  rw [nI_clamp (by omega), z_setl] at hP hD
  have hP : va_P G.1 vwCl (w ++ ([(zq, .inl (G.2 5, mm, .inr (.inr (.inr (.inr (va_cpy ga (fun _ => none) 0 0 n))))))] : va_W)) Hz := hP
  have hD : va_D Aw (w ++ ([(zq, .inl (G.2 5, mm, .inr (.inr (.inr (.inr (va_cpy ga (fun _ => none) 0 0 n))))))] : va_W)) := hD
  refine lv_aload_n hx hb dJ7_copyOf_6403c_38 rfl (lv_at hl 0 rfl) ?_
  exact z_widen (k := 1) (n := mm) (show 0 + 1 ≤ 1 by omega) (show 0 + mm ≤ mm by omega) (W.aret (v := .ref zq) hx hb hr (Or.inr ⟨_, rfl⟩) (Or.inr ⟨_, rfl⟩) (fun t ht hW => ⟨⟨some zq, (w ++ ([(zq, .inl (G.2 5, mm, .inr (.inr (.inr (.inr (va_cpy ga (fun _ => none) 0 0 n))))))] : va_W)), rfl, ⟨zq, rfl, rfl⟩, ⟨by rw [ht]; exact hP, hD⟩⟩, hS.F ht⟩) hS.2.2 dJ7_copyOf_6403c_39 hlocks)

set_option maxHeartbeats 4000000 in
set_option maxRecDepth 100000 in
theorem c_J7_copyOf_1904c_m (l : Launch) (G : zG) (d : Nat) (w : va_W) (kd dd n mm ci : Nat) (ga : Nat → Option Nat) (sz : Nat) (hhd : w[kd]? = some (dd, .inl (G.2 5, n, .inr (.inr (.inr (.inr ga)))))) (hnm : n ≤ mm) (hm : mm ≤ 1000) (hel : ∀ (i y : Nat), ga i = some y → ∃ (k : Nat) (fs : List Value), w[k]? = some (y, .inr (ci, fs))) (hci : ci = 5 ∨ ci = 1 ∨ ci = 4) : Met l yJ7_copyOf_1904c wsJ7_copyOf_1904c ({ frames := 2, cells := 1, slots := mm, locals := 63 }) (va_Pc [.ref dd, .int (nI mm)] (zCu G d w sz)) (va_Qq (fun (r1 : Option Nat) (w1 : va_W) => ∃ q : Nat, r1 = some q ∧ w1 = w ++ ([(q, .inl (G.2 5, mm, .inr (.inr (.inr (.inr (va_cpy ga (fun _ => none) 0 0 n))))))] : va_W)) (zB G (va_A w sz)) (va_A w sz)) (1) (mm) (va_A w sz) := by
  refine Met.ofW (cc := cJ7_copyOf_1904c) (maxL := 2) (ret := (some (.array (.object "java/lang/Object")))) (by decide) rfl ?_
  intro p e s m args below meth c s₁ B hml hv
  obtain ⟨rfl, hsz, hP, hK, hD0, hZ⟩ := hv
  have hx := B.exec
  have hb := B.bytes
  have hr := B.returns
  have hts := atoms_spec (ws := wsJ7_copyOf_1904c) B.pre
  have hown : s.vm.findClass RJ7 = some m.cls := findClass_of_methodNamed B.named
  have hlocks := B.notSynchronized
  have hNs := hZ.1.2.2
  have hS0 : va_S (fun _ => False) s.heap s.heap [] := va_S.rf
  subst hsz
  have hD := hD0.self (sz := s.heap.size)
  generalize hAe : va_A w s.heap.size = Aw at hD hZ ⊢
  have hA : ∀ q : Nat, s.heap.size ≤ q → Aw q := fun q h => by rw [← hAe]; exact Or.inr h
  have hS : va_S Aw s.heap s.heap [] := va_S.rf
  have hl := lv_entry ([.ref dd, .int (nI mm)]) (n := 2) (Nat.le_of_ble_eq_true rfl)
  rw [lg_entry_eq]
  generalize (lg_sl ([.ref dd, .int (nI mm)]) ++ List.replicate (2 - (lg_sl ([.ref dd, .int (nI mm)])).length) Slot.unset).toArray = ls at hl ⊢
  have hl : lv_has ls 2 [(0, .ref dd), (1, .int (nI mm))] := hl
  obtain ⟨hZz, hZt, hZao, ⟨mi0, hMi0⟩, hZdc, hZca, hZav⟩ := id hZ.2
  refine lv_aload_n hx hb dJ7_copyOf_1904c_0 rfl (lv_at hl 0 rfl) ?_
  refine lv_iload_n hx hb dJ7_copyOf_1904c_1 rfl (lv_at hl 1 rfl) ?_
  refine lv_aload_n hx hb dJ7_copyOf_1904c_2 rfl (lv_at hl 0 rfl) ?_
  refine va_getC (C := "[Ljava/lang/Object;") hx hb (by rw [hml]; exact hl.1.symm) hown (hts _ (List.mem_of_getElem? (i := 1) rfl)) (va_Dc.use hZdc) (hts _ (List.mem_of_getElem? (i := 2) rfl)) (hts _ (List.mem_of_getElem? (i := 3) rfl)) (hts _ (List.mem_of_getElem? (i := 4) rfl)) hMi0 ⟨_, hP kd _ hhd, rfl, va_nmO (hK.2 5 _ rfl).2 rfl⟩ (Nat.le_of_ble_eq_true rfl) (Nat.le_of_ble_eq_true rfl) dJ7_copyOf_1904c_3 ?_
  refine z_cuq (va_runS (As := [.ref dd, .int (nI mm), .ref mi0]) (rest := []) ⟨hx, hb, hml, hown, hts⟩ (c_J7_copyOf_6403c_m l G d mi0 w kd dd n mm ci ga s.heap.size hhd hnm hm hel hci) (va_cwS 3 hts gJ7_copyOf_1904c_J7_copyOf_6403c rfl rfl rfl (by decide +kernel) ⟨Nat.le_of_ble_eq_true rfl, Nat.le_of_ble_eq_true rfl⟩) (z_wsm hMi0 hK hP hD hZ hS hA) rfl rfl hl.1 rfl (lv_room (Nat.le_of_ble_eq_true rfl)) dJ7_copyOf_1904c_6 ⟨(show 0 + 1 ≤ 1 by omega), (show 0 + mm ≤ mm by omega)⟩) hD hS hA (fun zr zw Hz Lz hw hP hD hS => ?_)
  obtain ⟨zq, he, hw⟩ := hw
  subst he
  refine W.eq (g2 := F0 m 9 ls [.ref zq]) rfl ?_
  exact z_widen (k := 1) (n := mm) (show 0 + 1 ≤ 1 by omega) (show 0 + mm ≤ mm by omega) (W.aret (v := .ref zq) hx hb hr (Or.inr ⟨_, rfl⟩) (Or.inr ⟨_, rfl⟩) (fun t ht hW => ⟨⟨some zq, zw, rfl, ⟨zq, rfl, hw⟩, ⟨by rw [ht]; exact hP, hD⟩⟩, hS.F ht⟩) hS.2.2 dJ7_copyOf_1904c_9 hlocks)
