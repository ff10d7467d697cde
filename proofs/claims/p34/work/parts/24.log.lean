set_option maxHeartbeats 4000000 in
set_option maxRecDepth 100000 in
theorem c_J7_copyOf_59c91 (l : Launch) (G : zG) (d : Nat) (w : va_W) (k8 b n : Nat) (f : Nat → Int32) (sz : Nat) (hh8 : w[k8]? = some (b, .inl (G.2 0, n, .inl f))) (hn : 0 < n) (hn2 : n ≤ 50000) : Met l yJ7_copyOf_59c91 wsJ7_copyOf_59c91 ({ frames := 1, cells := 1, slots := 2 * n, locals := 40 }) (va_Pc [.ref b, .int (nI (2 * n))] (zCu G d w sz)) (va_Qq (fun (r1 : Option Nat) (w1 : va_W) => ∃ q : Nat, r1 = some q ∧ w1 = w ++ ([(q, .inl (G.2 0, 2 * n, .inl (va_cpy f (fun _ => 0) 0 0 n)))] : va_W)) (zB G (va_A w sz)) (va_A w sz)) (1) (2 * n) (va_A w sz) := by
  refine Met.ofW (cc := cJ7_copyOf_59c91) (maxL := 3) (ret := (some (.array .int))) (by decide) rfl ?_
  intro p e s m args below meth c s₁ B hml hv
  obtain ⟨rfl, hsz, hP, hK, hD0, hZ⟩ := hv
  have hx := B.exec
  have hb := B.bytes
  have hr := B.returns
  have hts := atoms_spec (ws := wsJ7_copyOf_59c91) B.pre
  have hown : s.vm.findClass RJ7 = some m.cls := findClass_of_methodNamed B.named
  have hlocks := B.notSynchronized
  have hNs := hZ.1.2.2
  have hS0 : va_S (fun _ => False) s.heap s.heap [] := va_S.rf
  subst hsz
  have hD := hD0.self (sz := s.heap.size)
  generalize hAe : va_A w s.heap.size = Aw at hD hZ ⊢
  have hA : ∀ q : Nat, s.heap.size ≤ q → Aw q := fun q h => by rw [← hAe]; exact Or.inr h
  have hS : va_S Aw s.heap s.heap [] := va_S.rf
  have hl := lv_entry ([.ref b, .int (nI (2 * n))]) (n := 3) (Nat.le_of_ble_eq_true rfl)
  rw [lg_entry_eq]
  generalize (lg_sl ([.ref b, .int (nI (2 * n))]) ++ List.replicate (3 - (lg_sl ([.ref b, .int (nI (2 * n))])).length) Slot.unset).toArray = ls at hl ⊢
  have hl : lv_has ls 3 [(0, .ref b), (1, .int (nI (2 * n)))] := hl
  refine lv_iload_n hx hb dJ7_copyOf_59c91_0 rfl (lv_at hl 1 rfl) ?_
  refine lv_aload_n hx hb dJ7_copyOf_59c91_1 rfl (lv_at hl 0 rfl) ?_
  refine va_alen hx hb hK hP k8 0 hh8 rfl (v := nI (n)) rfl dJ7_copyOf_59c91_2 ?_
  refine lv_icmp_ne (tgt := 14) hx hb dJ7_copyOf_59c91_3 (by decide) (fun zc_1 => ?_) (fun zc_1 => ?_)
  · skip
    refine lv_iload_n hx hb dJ7_copyOf_59c91_14 rfl (lv_at hl 1 rfl) ?_
    refine z_newa (t0 := 0) (cA := G.2 0) (ty := .int) (N' := 2 * n) (a0 := (2 * n, .inl (fun _ => 0))) hx hb (hts _ (List.mem_of_getElem? (i := 7) rfl)) rfl rfl hK hP hD hS hA (fun _ => rfl) (zNn (by omega)) (nI_clamp (by omega)) (show 2 * n * 4 ≤ 536870912 by omega) (show 0 + 1 ≤ 1 by omega) (show 0 + 2 * n ≤ 2 * n by omega) dJ7_copyOf_59c91_15 (fun zq Hz Lz hP hD hS => ?_)
    have hh8 : (w ++ ([(zq, .inl (G.2 0, 2 * n, .inl (fun _ => 0)))] : va_W))[k8]? = some (b, .inl (G.2 0, n, .inl f)) := z_app hh8
    have hh9 : (w ++ ([(zq, .inl (G.2 0, 2 * n, .inl (fun _ => 0)))] : va_W))[w.length]? = some (zq, .inl (G.2 0, 2 * n, .inl (fun _ => 0))) := z_last
    refine lv_astore_n (lv' := [(2, .ref zq), (0, .ref b), (1, .int (nI (2 * n)))]) hx hb dJ7_copyOf_59c91_17 rfl hl (by decide) rfl (fun ls hl => ?_)
    refine lv_aload_n hx hb dJ7_copyOf_59c91_18 rfl (lv_at hl 1 rfl) ?_
    refine lv_iconst (v := 0) hx hb dJ7_copyOf_59c91_19 (by decide) ?_
    refine lv_aload_n hx hb dJ7_copyOf_59c91_20 rfl (lv_at hl 0 rfl) ?_
    refine lv_iconst (v := 0) hx hb dJ7_copyOf_59c91_21 (by decide) ?_
    refine lv_aload_n hx hb dJ7_copyOf_59c91_22 rfl (lv_at hl 1 rfl) ?_
    refine va_alen hx hb hK hP k8 0 hh8 rfl (v := nI (n)) rfl dJ7_copyOf_59c91_23 ?_
    refine lv_iload_n hx hb dJ7_copyOf_59c91_24 rfl (lv_at hl 2 rfl) ?_
    refine va_mmin hx hb (by rw [hml]; exact hl.1.symm) hown (hts _ (List.mem_of_getElem? (i := 8) rfl)) (hts _ (List.mem_of_getElem? (i := 9) rfl)) (hts _ (List.mem_of_getElem? (i := 10) rfl)) (hts _ (List.mem_of_getElem? (i := 11) rfl)) (Nat.le_of_ble_eq_true rfl) (Nat.le_of_ble_eq_true rfl) (show 0 + 1 ≤ 1 by omega) (show 0 + 2 * n ≤ 2 * n by omega) dJ7_copyOf_59c91_25 ?_
    rw [zmin (by omega)]
    refine va_copyi hx hb (by rw [hml]; exact hl.1.symm) hown (hts _ (List.mem_of_getElem? (i := 12) rfl)) (hts _ (List.mem_of_getElem? (i := 13) rfl)) (hts _ (List.mem_of_getElem? (i := 14) rfl)) (hts _ (List.mem_of_getElem? (i := 15) rfl)) hK hP hD hS k8 w.length 0 0 hh8 hh9 rfl rfl rfl (by decide) (by decide) (zNn (by omega)) (by rw [nI_clamp (by omega)]; exact Nat.le_of_eq (Nat.zero_add n)) (by rw [nI_clamp (by omega)]; show 0 + n ≤ 2 * n; omega) (fun _ _ => rfl) (Nat.le_of_ble_eq_true rfl) (Nat.le_of_ble_eq_true rfl) dJ7_copyOf_59c91_28 (fun Hz Lz hP hD hS => ?_)
    rw [nI_clamp (by omega), z_setl] at hP hD
    have hP : va_P G.1 vwCl (w ++ ([(zq, .inl (G.2 0, 2 * n, .inl (va_cpy f (fun _ => 0) 0 0 n)))] : va_W)) Hz := hP
    have hD : va_D Aw (w ++ ([(zq, .inl (G.2 0, 2 * n, .inl (va_cpy f (fun _ => 0) 0 0 n)))] : va_W)) := hD
    refine lv_aload_n hx hb dJ7_copyOf_59c91_31 rfl (lv_at hl 0 rfl) ?_
    exact z_widen (k := 1) (n := 2 * n) (show 0 + 1 ≤ 1 by omega) (show 0 + 2 * n ≤ 2 * n by omega) (W.aret (v := .ref zq) hx hb hr (Or.inr ⟨_, rfl⟩) (Or.inr ⟨_, rfl⟩) (fun t ht hW => ⟨⟨some zq, (w ++ ([(zq, .inl (G.2 0, 2 * n, .inl (va_cpy f (fun _ => 0) 0 0 n)))] : va_W)), rfl, ⟨zq, rfl, rfl⟩, ⟨by rw [ht]; exact hP, hD⟩⟩, hS.F ht⟩) hS.2.2 dJ7_copyOf_59c91_32 hlocks)
  · skip
    exact absurd zc_1 (by rw [nI_eq (by omega) (by omega)]; omega)

set_option maxHeartbeats 4000000 in
set_option maxRecDepth 100000 in
theorem c_X2_note (l : Launch) (G : zG) (d : Nat) (r A : Nat → Nat) (mc : Nat → Int32) (g : Nat → Nat → Int32) (N : Nat → Nat) (T : Nat → Nat → Int32) (w : va_W) (a2 a3 a4 : Int32) (sz : Nat) (hC : sCQ G d r A mc g N T w) (hN : sSm N) (h1n : N 1 < 20512) : Met l yX2_note wsX2_note ({ frames := 2, cells := (zpc (N 1 + 1) - zpc (N 1)), slots := (zps (N 1 + 1) - zps (N 1)), locals := 62 }) (va_Pc [.ref (r 9), .int (nI (N 0)), .int a2, .int a3, .int a4] (zCu G d w sz)) (va_Qv (fun w1 : va_W => sCN G d r A ((sNote N T a2 a3 a4).1) ((sNote N T a2 a3 a4).2) w1) (zB G (va_A w sz)) (va_A w sz)) ((zpc (N 1 + 1) - zpc (N 1))) ((zps (N 1 + 1) - zps (N 1))) (va_A w sz) := by
  refine Met.ofW (cc := cX2_note) (maxL := 5) (ret := none) (by decide) rfl ?_
  intro p e s m args below meth c s₁ B hml hv
  obtain ⟨rfl, hsz, hP, hK, hD0, hZ⟩ := hv
  have hx := B.exec
  have hb := B.bytes
  have hr := B.returns
  have hts := atoms_spec (ws := wsX2_note) B.pre
  have hown : s.vm.findClass RX2 = some m.cls := findClass_of_methodNamed B.named
  have hlocks := B.notSynchronized
  have hi_X2 : ∀ w ∈ u_ws RX2 TX2 2, w ∈ wsX2_note := (fun _ h => List.mem_cons_of_mem _ (List.mem_append_right _ h))
  have hNs := hZ.1.2.2
  have hS0 : va_S (fun _ => False) s.heap s.heap [] := va_S.rf
  subst hsz
  have hD := hD0.self (sz := s.heap.size)
  generalize hAe : va_A w s.heap.size = Aw at hD hZ ⊢
  have hA : ∀ q : Nat, s.heap.size ≤ q → Aw q := fun q h => by rw [← hAe]; exact Or.inr h
  have hS : va_S Aw s.heap s.heap [] := va_S.rf
  have hl := lv_entry ([.ref (r 9), .int (nI (N 0)), .int a2, .int a3, .int a4]) (n := 5) (Nat.le_of_ble_eq_true rfl)
  rw [lg_entry_eq]
  generalize (lg_sl ([.ref (r 9), .int (nI (N 0)), .int a2, .int a3, .int a4]) ++ List.replicate (5 - (lg_sl ([.ref (r 9), .int (nI (N 0)), .int a2, .int a3, .int a4])).length) Slot.unset).toArray = ls at hl ⊢
  have hl : lv_has ls 5 [(0, .ref (r 9)), (1, .int (nI (N 0))), (2, .int a2), (3, .int a3), (4, .int a4)] := hl
  refine lv_aload_n hx hb dX2_note_0 rfl (lv_at hl 0 rfl) ?_
  have hh9 : w[9]? = some (r 9, .inr (3, [.ref (A 8), .int (nI (N 1))])) := hC.1.1 9 (by omega)
  refine va_get (D := G.1) (ci := 3) (v := .int (nI (N 1))) (C := RX2) (T := TX2) (N := 2) hx hb hts hi_X2 hown hK hP 9 hh9 rfl 1 (by decide) (hts (.fieldLink RX2 15 "BoilerLog$Log" "count" "I") (List.mem_of_getElem? (i := 1) rfl)) (fun _ h9 => h9) rfl dX2_note_1 ?_
  refine lv_sipush (v := 20512) hx hb dX2_note_4 (by decide) ?_
  refine lv_icmp_lt (tgt := 11) hx hb dX2_note_7 (by decide) (fun zc_1 => ?_) (fun zc_1 => ?_)
  · skip
    have zd_1 := Int32.not_le.mpr zc_1
    refine lv_aload_n hx hb dX2_note_11 rfl (lv_at hl 0 rfl) ?_
    refine va_get (D := G.1) (ci := 3) (v := .int (nI (N 1))) (C := RX2) (T := TX2) (N := 2) hx hb hts hi_X2 hown hK hP 9 hh9 rfl 1 (by decide) (hts (.fieldLink RX2 15 "BoilerLog$Log" "count" "I") (List.mem_of_getElem? (i := 1) rfl)) (fun _ h9 => h9) rfl dX2_note_12 ?_
    refine lv_aload_n hx hb dX2_note_15 rfl (lv_at hl 0 rfl) ?_
    refine va_get (D := G.1) (ci := 3) (v := .ref (A 8)) (C := RX2) (T := TX2) (N := 2) hx hb hts hi_X2 hown hK hP 9 hh9 rfl 0 (by decide) (hts (.fieldLink RX2 11 "BoilerLog$Log" "codes" "[I") (List.mem_of_getElem? (i := 2) rfl)) (fun _ h9 => h9) rfl dX2_note_16 ?_
    obtain ⟨kz2, zk2, hz2⟩ := hC.1.2.1 8 (Or.inr (Or.inl rfl))
    have hz2 : w[kz2]? = some (A 8, .inl (G.2 0, (zcap (N 1)), .inl (g 8))) := hz2
    refine va_alen hx hb hK hP kz2 0 hz2 rfl (v := nI ((zcap (N 1)))) rfl dX2_note_19 ?_
    refine lv_icmp_lt (tgt := 41) hx hb dX2_note_20 (by decide) (fun zc_3 => ?_) (fun zc_3 => ?_)
    · skip
      have zd_3 := Int32.not_le.mpr zc_3
      have zc_g := (nI_ltI (by have := zcap_top (N 1); omega) (by have := zcap_top (N 1); omega)).mp zc_3
      have zrm : zpc (N 1 + 1) = zpc (N 1) ∧ zps (N 1 + 1) = zps (N 1) := ⟨by rw [zpc, if_pos zc_g]; rfl, by rw [zps, if_pos zc_g]; rfl⟩
      refine lv_aload_n hx hb dX2_note_41 rfl (lv_at hl 0 rfl) ?_
      refine va_get (D := G.1) (ci := 3) (v := .ref (A 8)) (C := RX2) (T := TX2) (N := 2) hx hb hts hi_X2 hown hK hP 9 hh9 rfl 0 (by decide) (hts (.fieldLink RX2 11 "BoilerLog$Log" "codes" "[I") (List.mem_of_getElem? (i := 2) rfl)) (fun _ h9 => h9) rfl dX2_note_42 ?_
      refine lv_aload_n hx hb dX2_note_45 rfl (lv_at hl 0 rfl) ?_
      refine va_get (D := G.1) (ci := 3) (v := .int (nI (N 1))) (C := RX2) (T := TX2) (N := 2) hx hb hts hi_X2 hown hK hP 9 hh9 rfl 1 (by decide) (hts (.fieldLink RX2 15 "BoilerLog$Log" "count" "I") (List.mem_of_getElem? (i := 1) rfl)) (fun _ h9 => h9) rfl dX2_note_46 ?_
      refine lv_sipush (v := 10000) hx hb dX2_note_49 (by decide) ?_
      refine lv_iload_n hx hb dX2_note_52 rfl (lv_at hl 1 rfl) ?_
      refine lv_imul hx hb dX2_note_53 ?_
      refine lv_sipush (v := 1000) hx hb dX2_note_54 (by decide) ?_
      refine lv_iload_n hx hb dX2_note_57 rfl (lv_at hl 2 rfl) ?_
      refine lv_imul hx hb dX2_note_58 ?_
      refine lv_iadd hx hb dX2_note_59 ?_
      refine lv_bipush (v := 100) hx hb dX2_note_60 (by decide) ?_
      refine lv_iload_n hx hb dX2_note_62 rfl (lv_at hl 3 rfl) ?_
      refine lv_iconst (v := 1) hx hb dX2_note_63 (by decide) ?_
      refine lv_iadd hx hb dX2_note_64 ?_
      refine lv_imul hx hb dX2_note_65 ?_
      refine lv_iadd hx hb dX2_note_66 ?_
      refine lv_iload hx hb dX2_note_67 (lv_at hl 4 rfl) ?_
      refine lv_iadd hx hb dX2_note_69 ?_
      refine W.eq (g2 := F0 m 70 ls [.int (sCode (N 0) a2 a3 a4), .int (nI (N 1)), .ref (A 8)]) (by first | (rfl; done) | (rfl; rfl)) ?_
      refine va_iast hx hb hK hP hD hS kz2 0 hz2 rfl (vp_in_nI (by omega) (by have := zcap_top (N 1); omega)) dX2_note_70 (fun Hz Lz hP hD hS => ?_)
      rw [nI_clamp (by omega)] at hP hD
      have hP : va_P G.1 vwCl (w.set kz2 (A 8, .inl (G.2 0, (zcap (N 1)), .inl (upd (g 8) (N 1) (sCode (N 0) a2 a3 a4))))) Hz := hP
      have hD : va_D Aw (w.set kz2 (A 8, .inl (G.2 0, (zcap (N 1)), .inl (upd (g 8) (N 1) (sCode (N 0) a2 a3 a4))))) := hD
      have hh9 : (w.set kz2 (A 8, .inl (G.2 0, (zcap (N 1)), .inl (upd (g 8) (N 1) (sCode (N 0) a2 a3 a4)))))[9]? = some (r 9, .inr (3, [.ref (A 8), .int (nI (N 1))])) := z_other (by first | assumption | omega) hh9
      have hz2 : (w.set kz2 (A 8, .inl (G.2 0, (zcap (N 1)), .inl (upd (g 8) (N 1) (sCode (N 0) a2 a3 a4)))))[kz2]? = some (A 8, .inl (G.2 0, (zcap (N 1)), .inl (upd (g 8) (N 1) (sCode (N 0) a2 a3 a4)))) := z_self hz2
      refine lv_aload_n hx hb dX2_note_71 rfl (lv_at hl 0 rfl) ?_
      refine lv_dup hx hb dX2_note_72 rfl ?_
      refine va_get (D := G.1) (ci := 3) (v := .int (nI (N 1))) (C := RX2) (T := TX2) (N := 2) hx hb hts hi_X2 hown hK hP 9 hh9 rfl 1 (by decide) (hts (.fieldLink RX2 15 "BoilerLog$Log" "count" "I") (List.mem_of_getElem? (i := 1) rfl)) (fun _ h9 => h9) rfl dX2_note_73 ?_
      refine lv_iconst (v := 1) hx hb dX2_note_76 (by decide) ?_
      refine lv_iadd hx hb dX2_note_77 ?_
      refine W.eq (g2 := F0 m 78 ls [.int (nI (N 1 + 1)), .ref (r 9)]) (by first | (rw [nI_1]; done) | (rw [nI_1]; rfl)) ?_
      refine va_put (D := G.1) (ci := 3) (v := .int (nI (N 1 + 1))) (ty := .int) (C := RX2) (T := TX2) (N := 2) hx hb hts hi_X2 tyX2 tyX2_ok nmX2 hown hK hP hD hS 9 hh9 rfl 1 (by decide) (hts (.fieldLink RX2 15 "BoilerLog$Log" "count" "I") (List.mem_of_getElem? (i := 1) rfl)) (fun _ h9 => h9) rfl (by decide +kernel) rfl rfl (Nat.le_of_ble_eq_true rfl) dX2_note_78 (fun Hz Lz hP hD hS => ?_)
      have hP : va_P G.1 vwCl ((w.set kz2 (A 8, .inl (G.2 0, (zcap (N 1)), .inl (upd (g 8) (N 1) (sCode (N 0) a2 a3 a4))))).set 9 (r 9, .inr (3, [.ref (A 8), .int (nI (N 1 + 1))]))) Hz := hP
      have hD : va_D Aw ((w.set kz2 (A 8, .inl (G.2 0, (zcap (N 1)), .inl (upd (g 8) (N 1) (sCode (N 0) a2 a3 a4))))).set 9 (r 9, .inr (3, [.ref (A 8), .int (nI (N 1 + 1))]))) := hD
      have hh9 : ((w.set kz2 (A 8, .inl (G.2 0, (zcap (N 1)), .inl (upd (g 8) (N 1) (sCode (N 0) a2 a3 a4))))).set 9 (r 9, .inr (3, [.ref (A 8), .int (nI (N 1 + 1))])))[9]? = some (r 9, .inr (3, [.ref (A 8), .int (nI (N 1 + 1))])) := z_self hh9
      have hz2 : ((w.set kz2 (A 8, .inl (G.2 0, (zcap (N 1)), .inl (upd (g 8) (N 1) (sCode (N 0) a2 a3 a4))))).set 9 (r 9, .inr (3, [.ref (A 8), .int (nI (N 1 + 1))])))[kz2]? = some (A 8, .inl (G.2 0, (zcap (N 1)), .inl (upd (g 8) (N 1) (sCode (N 0) a2 a3 a4)))) := z_other (by first | assumption | omega) hz2
      exact z_widen (k := (zpc (N 1 + 1) - zpc (N 1))) (n := (zps (N 1 + 1) - zps (N 1))) (show 0 ≤ (zpc (N 1 + 1) - zpc (N 1)) by omega) (show 0 ≤ (zps (N 1 + 1) - zps (N 1)) by omega) (W.vret hx hb hr (fun t ht hW => ⟨⟨((w.set kz2 (A 8, .inl (G.2 0, (zcap (N 1)), .inl (upd (g 8) (N 1) (sCode (N 0) a2 a3 a4))))).set 9 (r 9, .inr (3, [.ref (A 8), .int (nI (N 1 + 1))]))), rfl, ⟨_, _, _, sC_note1 hC hN zk2 (by assumption) zc_g, fun _ _ => rfl⟩, ⟨by rw [ht]; exact hP, hD⟩⟩, hS.F ht⟩) hS.2.2 dX2_note_81 hlocks)
    · skip
      have zd_3 := Int32.not_lt.mp zc_3
      have zc_g := fun z => zc_3 ((nI_ltI (by have := zcap_top (N 1); omega) (by have := zcap_top (N 1); omega)).mpr z)
      have hzt := zcap_top (N 1)
      have hz16 := zcap_16 (N 1)
      have hzl := zcap_le (N 1)
      have zrm : zpc (N 1 + 1) = zpc (N 1) + 1 ∧ zps (N 1 + 1) = zps (N 1) + 2 * zcap (N 1) := ⟨by rw [zpc, if_neg zc_g], by rw [zps, if_neg zc_g]⟩
      refine lv_aload_n hx hb dX2_note_23 rfl (lv_at hl 0 rfl) ?_
      refine lv_aload_n hx hb dX2_note_24 rfl (lv_at hl 0 rfl) ?_
      refine va_get (D := G.1) (ci := 3) (v := .ref (A 8)) (C := RX2) (T := TX2) (N := 2) hx hb hts hi_X2 hown hK hP 9 hh9 rfl 0 (by decide) (hts (.fieldLink RX2 11 "BoilerLog$Log" "codes" "[I") (List.mem_of_getElem? (i := 2) rfl)) (fun _ h9 => h9) rfl dX2_note_25 ?_
      refine lv_iconst (v := 2) hx hb dX2_note_28 (by decide) ?_
      refine lv_aload_n hx hb dX2_note_29 rfl (lv_at hl 0 rfl) ?_
      refine va_get (D := G.1) (ci := 3) (v := .ref (A 8)) (C := RX2) (T := TX2) (N := 2) hx hb hts hi_X2 hown hK hP 9 hh9 rfl 0 (by decide) (hts (.fieldLink RX2 11 "BoilerLog$Log" "codes" "[I") (List.mem_of_getElem? (i := 2) rfl)) (fun _ h9 => h9) rfl dX2_note_30 ?_
      refine va_alen hx hb hK hP kz2 0 hz2 rfl (v := nI ((zcap (N 1)))) rfl dX2_note_33 ?_
      refine lv_imul hx hb dX2_note_34 ?_
      refine W.eq (g2 := F0 m 35 ls [.int (nI (2 * zcap (N 1))), .ref (A 8), .ref (r 9)]) (by first | (rw [show (2 : Int32) = nI 2 from rfl, pk_mul]; done) | (rw [show (2 : Int32) = nI 2 from rfl, pk_mul]; rfl)) ?_
      refine z_cuq (va_runS (As := [.ref (A 8), .int (nI (2 * zcap (N 1)))]) (rest := [.ref (r 9)]) ⟨hx, hb, hml, hown, hts⟩ (c_J7_copyOf_59c91 l G d w kz2 (A 8) (zcap (N 1)) (g 8) s.heap.size (by assumption) (by omega) (by omega)) (va_cwS 2 hts gX2_note_J7_copyOf_59c91 rfl rfl rfl (by decide +kernel) ⟨Nat.le_of_ble_eq_true rfl, Nat.le_of_ble_eq_true rfl⟩) (z_ws hK hP hD hZ hS hA) rfl rfl hl.1 rfl (lv_room (Nat.le_of_ble_eq_true rfl)) dX2_note_35 ⟨(show 0 + 1 ≤ (zpc (N 1 + 1) - zpc (N 1)) by omega), (show 0 + (2 * (zcap (N 1))) ≤ (zps (N 1 + 1) - zps (N 1)) by omega)⟩) hD hS hA (fun zr_4 zw_4 Hz Lz hw hP hD hS => ?_)
      obtain ⟨zq, he4, hw⟩ := hw
      subst he4
      subst hw
      have hlen := sC_len hC
      have hfr := hD.new
      have hh9 : (w ++ ([(zq, .inl (G.2 0, 2 * zcap (N 1), .inl (va_cpy (g 8) (fun _ => 0) 0 0 (zcap (N 1)))))] : va_W))[9]? = some (r 9, .inr (3, [.ref (A 8), .int (nI (N 1))])) := z_app (hC.1.1 9 (by omega))
      have hzq : (w ++ ([(zq, .inl (G.2 0, 2 * zcap (N 1), .inl (va_cpy (g 8) (fun _ => 0) 0 0 (zcap (N 1)))))] : va_W))[w.length]? = some (zq, .inl (G.2 0, 2 * zcap (N 1), .inl (va_cpy (g 8) (fun _ => 0) 0 0 (zcap (N 1))))) := z_last
      refine W.eq (g2 := F0 m 38 ls [.ref zq, .ref (r 9)]) rfl ?_
      refine va_put (D := G.1) (ci := 3) (v := .ref zq) (ty := (.array .int)) (C := RX2) (T := TX2) (N := 2) hx hb hts hi_X2 tyX2 tyX2_ok nmX2 hown hK hP hD hS 9 hh9 rfl 0 (by decide) (hts (.fieldLink RX2 11 "BoilerLog$Log" "codes" "[I") (List.mem_of_getElem? (i := 2) rfl)) (fun _ h9 => h9) rfl (by decide +kernel) rfl rfl (Nat.le_of_ble_eq_true rfl) dX2_note_38 (fun Hz Lz hP hD hS => ?_)
      have hP : va_P G.1 vwCl ((w ++ ([(zq, .inl (G.2 0, 2 * zcap (N 1), .inl (va_cpy (g 8) (fun _ => 0) 0 0 (zcap (N 1)))))] : va_W)).set 9 (r 9, .inr (3, [.ref zq, .int (nI (N 1))]))) Hz := hP
      have hD : va_D Aw ((w ++ ([(zq, .inl (G.2 0, 2 * zcap (N 1), .inl (va_cpy (g 8) (fun _ => 0) 0 0 (zcap (N 1)))))] : va_W)).set 9 (r 9, .inr (3, [.ref zq, .int (nI (N 1))]))) := hD
      have hh9 : ((w ++ ([(zq, .inl (G.2 0, 2 * zcap (N 1), .inl (va_cpy (g 8) (fun _ => 0) 0 0 (zcap (N 1)))))] : va_W)).set 9 (r 9, .inr (3, [.ref zq, .int (nI (N 1))])))[9]? = some (r 9, .inr (3, [.ref zq, .int (nI (N 1))])) := z_self hh9
      have hzq : ((w ++ ([(zq, .inl (G.2 0, 2 * zcap (N 1), .inl (va_cpy (g 8) (fun _ => 0) 0 0 (zcap (N 1)))))] : va_W)).set 9 (r 9, .inr (3, [.ref zq, .int (nI (N 1))])))[w.length]? = some (zq, .inl (G.2 0, (2 * zcap (N 1)), .inl (va_cpy (g 8) (fun _ => 0) 0 0 (zcap (N 1))))) := z_other (by first | assumption | omega) hzq
      refine lv_aload_n hx hb dX2_note_41 rfl (lv_at hl 0 rfl) ?_
      refine va_get (D := G.1) (ci := 3) (v := .ref zq) (C := RX2) (T := TX2) (N := 2) hx hb hts hi_X2 hown hK hP 9 hh9 rfl 0 (by decide) (hts (.fieldLink RX2 11 "BoilerLog$Log" "codes" "[I") (List.mem_of_getElem? (i := 2) rfl)) (fun _ h9 => h9) rfl dX2_note_42 ?_
      refine lv_aload_n hx hb dX2_note_45 rfl (lv_at hl 0 rfl) ?_
      refine va_get (D := G.1) (ci := 3) (v := .int (nI (N 1))) (C := RX2) (T := TX2) (N := 2) hx hb hts hi_X2 hown hK hP 9 hh9 rfl 1 (by decide) (hts (.fieldLink RX2 15 "BoilerLog$Log" "count" "I") (List.mem_of_getElem? (i := 1) rfl)) (fun _ h9 => h9) rfl dX2_note_46 ?_
      refine lv_sipush (v := 10000) hx hb dX2_note_49 (by decide) ?_
      refine lv_iload_n hx hb dX2_note_52 rfl (lv_at hl 1 rfl) ?_
      refine lv_imul hx hb dX2_note_53 ?_
      refine lv_sipush (v := 1000) hx hb dX2_note_54 (by decide) ?_
      refine lv_iload_n hx hb dX2_note_57 rfl (lv_at hl 2 rfl) ?_
      refine lv_imul hx hb dX2_note_58 ?_
      refine lv_iadd hx hb dX2_note_59 ?_
      refine lv_bipush (v := 100) hx hb dX2_note_60 (by decide) ?_
      refine lv_iload_n hx hb dX2_note_62 rfl (lv_at hl 3 rfl) ?_
      refine lv_iconst (v := 1) hx hb dX2_note_63 (by decide) ?_
      refine lv_iadd hx hb dX2_note_64 ?_
      refine lv_imul hx hb dX2_note_65 ?_
      refine lv_iadd hx hb dX2_note_66 ?_
      refine lv_iload hx hb dX2_note_67 (lv_at hl 4 rfl) ?_
      refine lv_iadd hx hb dX2_note_69 ?_
      refine W.eq (g2 := F0 m 70 ls [.int (sCode (N 0) a2 a3 a4), .int (nI (N 1)), .ref zq]) (by first | (rfl; done) | (rfl; rfl)) ?_
      refine va_iast hx hb hK hP hD hS w.length 0 hzq rfl (vp_in_nI (by omega) (by have := zcap_top (N 1); omega)) dX2_note_70 (fun Hz Lz hP hD hS => ?_)
      rw [nI_clamp (by omega)] at hP hD
      have hP : va_P G.1 vwCl (((w ++ ([(zq, .inl (G.2 0, 2 * zcap (N 1), .inl (va_cpy (g 8) (fun _ => 0) 0 0 (zcap (N 1)))))] : va_W)).set 9 (r 9, .inr (3, [.ref zq, .int (nI (N 1))]))).set w.length (zq, .inl (G.2 0, (2 * zcap (N 1)), .inl (upd (va_cpy (g 8) (fun _ => 0) 0 0 (zcap (N 1))) (N 1) (sCode (N 0) a2 a3 a4))))) Hz := hP
      have hD : va_D Aw (((w ++ ([(zq, .inl (G.2 0, 2 * zcap (N 1), .inl (va_cpy (g 8) (fun _ => 0) 0 0 (zcap (N 1)))))] : va_W)).set 9 (r 9, .inr (3, [.ref zq, .int (nI (N 1))]))).set w.length (zq, .inl (G.2 0, (2 * zcap (N 1)), .inl (upd (va_cpy (g 8) (fun _ => 0) 0 0 (zcap (N 1))) (N 1) (sCode (N 0) a2 a3 a4))))) := hD
      have hh9 : (((w ++ ([(zq, .inl (G.2 0, 2 * zcap (N 1), .inl (va_cpy (g 8) (fun _ => 0) 0 0 (zcap (N 1)))))] : va_W)).set 9 (r 9, .inr (3, [.ref zq, .int (nI (N 1))]))).set w.length (zq, .inl (G.2 0, (2 * zcap (N 1)), .inl (upd (va_cpy (g 8) (fun _ => 0) 0 0 (zcap (N 1))) (N 1) (sCode (N 0) a2 a3 a4)))))[9]? = some (r 9, .inr (3, [.ref zq, .int (nI (N 1))])) := z_other (by first | assumption | omega) hh9
      have hzq : (((w ++ ([(zq, .inl (G.2 0, 2 * zcap (N 1), .inl (va_cpy (g 8) (fun _ => 0) 0 0 (zcap (N 1)))))] : va_W)).set 9 (r 9, .inr (3, [.ref zq, .int (nI (N 1))]))).set w.length (zq, .inl (G.2 0, (2 * zcap (N 1)), .inl (upd (va_cpy (g 8) (fun _ => 0) 0 0 (zcap (N 1))) (N 1) (sCode (N 0) a2 a3 a4)))))[w.length]? = some (zq, .inl (G.2 0, (2 * zcap (N 1)), .inl (upd (va_cpy (g 8) (fun _ => 0) 0 0 (zcap (N 1))) (N 1) (sCode (N 0) a2 a3 a4)))) := z_self hzq
      refine lv_aload_n hx hb dX2_note_71 rfl (lv_at hl 0 rfl) ?_
      refine lv_dup hx hb dX2_note_72 rfl ?_
      refine va_get (D := G.1) (ci := 3) (v := .int (nI (N 1))) (C := RX2) (T := TX2) (N := 2) hx hb hts hi_X2 hown hK hP 9 hh9 rfl 1 (by decide) (hts (.fieldLink RX2 15 "BoilerLog$Log" "count" "I") (List.mem_of_getElem? (i := 1) rfl)) (fun _ h9 => h9) rfl dX2_note_73 ?_
      refine lv_iconst (v := 1) hx hb dX2_note_76 (by decide) ?_
      refine lv_iadd hx hb dX2_note_77 ?_
      refine W.eq (g2 := F0 m 78 ls [.int (nI (N 1 + 1)), .ref (r 9)]) (by first | (rw [nI_1]; done) | (rw [nI_1]; rfl)) ?_
      refine va_put (D := G.1) (ci := 3) (v := .int (nI (N 1 + 1))) (ty := .int) (C := RX2) (T := TX2) (N := 2) hx hb hts hi_X2 tyX2 tyX2_ok nmX2 hown hK hP hD hS 9 hh9 rfl 1 (by decide) (hts (.fieldLink RX2 15 "BoilerLog$Log" "count" "I") (List.mem_of_getElem? (i := 1) rfl)) (fun _ h9 => h9) rfl (by decide +kernel) rfl rfl (Nat.le_of_ble_eq_true rfl) dX2_note_78 (fun Hz Lz hP hD hS => ?_)
      have hP : va_P G.1 vwCl ((((w ++ ([(zq, .inl (G.2 0, 2 * zcap (N 1), .inl (va_cpy (g 8) (fun _ => 0) 0 0 (zcap (N 1)))))] : va_W)).set 9 (r 9, .inr (3, [.ref zq, .int (nI (N 1))]))).set w.length (zq, .inl (G.2 0, (2 * zcap (N 1)), .inl (upd (va_cpy (g 8) (fun _ => 0) 0 0 (zcap (N 1))) (N 1) (sCode (N 0) a2 a3 a4))))).set 9 (r 9, .inr (3, [.ref zq, .int (nI (N 1 + 1))]))) Hz := hP
      have hD : va_D Aw ((((w ++ ([(zq, .inl (G.2 0, 2 * zcap (N 1), .inl (va_cpy (g 8) (fun _ => 0) 0 0 (zcap (N 1)))))] : va_W)).set 9 (r 9, .inr (3, [.ref zq, .int (nI (N 1))]))).set w.length (zq, .inl (G.2 0, (2 * zcap (N 1)), .inl (upd (va_cpy (g 8) (fun _ => 0) 0 0 (zcap (N 1))) (N 1) (sCode (N 0) a2 a3 a4))))).set 9 (r 9, .inr (3, [.ref zq, .int (nI (N 1 + 1))]))) := hD
      have hh9 : ((((w ++ ([(zq, .inl (G.2 0, 2 * zcap (N 1), .inl (va_cpy (g 8) (fun _ => 0) 0 0 (zcap (N 1)))))] : va_W)).set 9 (r 9, .inr (3, [.ref zq, .int (nI (N 1))]))).set w.length (zq, .inl (G.2 0, (2 * zcap (N 1)), .inl (upd (va_cpy (g 8) (fun _ => 0) 0 0 (zcap (N 1))) (N 1) (sCode (N 0) a2 a3 a4))))).set 9 (r 9, .inr (3, [.ref zq, .int (nI (N 1 + 1))])))[9]? = some (r 9, .inr (3, [.ref zq, .int (nI (N 1 + 1))])) := z_self hh9
      have hzq : ((((w ++ ([(zq, .inl (G.2 0, 2 * zcap (N 1), .inl (va_cpy (g 8) (fun _ => 0) 0 0 (zcap (N 1)))))] : va_W)).set 9 (r 9, .inr (3, [.ref zq, .int (nI (N 1))]))).set w.length (zq, .inl (G.2 0, (2 * zcap (N 1)), .inl (upd (va_cpy (g 8) (fun _ => 0) 0 0 (zcap (N 1))) (N 1) (sCode (N 0) a2 a3 a4))))).set 9 (r 9, .inr (3, [.ref zq, .int (nI (N 1 + 1))])))[w.length]? = some (zq, .inl (G.2 0, (2 * zcap (N 1)), .inl (upd (va_cpy (g 8) (fun _ => 0) 0 0 (zcap (N 1))) (N 1) (sCode (N 0) a2 a3 a4)))) := z_other (by first | assumption | omega) hzq
      exact z_widen (k := (zpc (N 1 + 1) - zpc (N 1))) (n := (zps (N 1 + 1) - zps (N 1))) (show 0 + 1 ≤ (zpc (N 1 + 1) - zpc (N 1)) by omega) (show 0 + (2 * (zcap (N 1))) ≤ (zps (N 1 + 1) - zps (N 1)) by omega) (W.vret hx hb hr (fun t ht hW => ⟨⟨((((w ++ ([(zq, .inl (G.2 0, 2 * zcap (N 1), .inl (va_cpy (g 8) (fun _ => 0) 0 0 (zcap (N 1)))))] : va_W)).set 9 (r 9, .inr (3, [.ref zq, .int (nI (N 1))]))).set w.length (zq, .inl (G.2 0, (2 * zcap (N 1)), .inl (upd (va_cpy (g 8) (fun _ => 0) 0 0 (zcap (N 1))) (N 1) (sCode (N 0) a2 a3 a4))))).set 9 (r 9, .inr (3, [.ref zq, .int (nI (N 1 + 1))]))), rfl, ⟨_, _, _, sC_note2 hC hN zc_g (fun q hq => zcpy0 (by omega)) hfr, fun _ h => va_up_ne _ _ h⟩, ⟨by rw [ht]; exact hP, hD⟩⟩, hS.F ht⟩) hS.2.2 dX2_note_81 hlocks)
  · skip
    have zd_1 := Int32.not_lt.mp zc_1
    exact (zc_1 (nI_lt (a := N 1) (b := 20512) h1n (by omega))).elim
