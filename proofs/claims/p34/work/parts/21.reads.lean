set_option maxHeartbeats 4000000 in
set_option maxRecDepth 100000 in
theorem c_X6_hasTagOfAnother (l : Launch) (G : zG) (d : Nat) (r A : Nat → Nat) (mc : Nat → Int32) (g : Nat → Nat → Int32) (N : Nat → Nat) (T : Nat → Nat → Int32) (w : va_W) (a1 a2 : Int32) (hC : sCQ G d r A mc g N T w) (hn2 : N 2 ≤ 40) : Met l yX6_hasTagOfAnother wsX6_hasTagOfAnother ({ frames := 3, cells := 0, slots := 0, locals := 64 }) (va_Pc [.ref (r 0), .int a1, .int a2] (zPx G w)) (zQi (fun r : Int32 => r = zb (sBar N T a2 a1))) 0 0 (fun _ => False) := by
  refine Met.ofW (cc := cX6_hasTagOfAnother) (maxL := 5) (ret := (some .boolean)) (by decide) rfl ?_
  intro p e s m args below meth c s₁ B hml hv
  obtain ⟨rfl, hP, hK, hZ⟩ := hv
  have hx := B.exec
  have hb := B.bytes
  have hr := B.returns
  have hts := atoms_spec (ws := wsX6_hasTagOfAnother) B.pre
  have hown : s.vm.findClass RX6 = some m.cls := findClass_of_methodNamed B.named
  have hlocks := B.notSynchronized
  have hi_X4 : ∀ w ∈ u_ws RX4 TX4 4, w ∈ wsX6_hasTagOfAnother := (fun _ h => List.mem_cons_of_mem _ (List.mem_append_left _ (List.mem_append_right _ h)))
  have hi_X6 : ∀ w ∈ u_ws RX6 TX6 14, w ∈ wsX6_hasTagOfAnother := (fun _ h => List.mem_cons_of_mem _ (List.mem_append_left _ (List.mem_append_left _ (List.mem_append_right _ h))))
  have hNs := hZ.2.2
  have hS0 : va_S (fun _ => False) s.heap s.heap [] := va_S.rf
  have hl := lv_entry ([.ref (r 0), .int a1, .int a2]) (n := 5) (Nat.le_of_ble_eq_true rfl)
  rw [lg_entry_eq]
  generalize (lg_sl ([.ref (r 0), .int a1, .int a2]) ++ List.replicate (5 - (lg_sl ([.ref (r 0), .int a1, .int a2])).length) Slot.unset).toArray = ls at hl ⊢
  have hl : lv_has ls 5 [(0, .ref (r 0)), (1, .int a1), (2, .int a2)] := hl
  refine lv_iconst (v := 0) hx hb dX6_hasTagOfAnother_0 (by decide) ?_
  refine lv_istore_n (lv' := [(3, .int 0), (0, .ref (r 0)), (1, .int a1), (2, .int a2)]) hx hb dX6_hasTagOfAnother_1 rfl hl (by decide) rfl (fun ls hl => ?_)
  have key_2 : ∀ (n i : Nat), i ≤ N 2 → N 2 < i + n → (sAny (fun t => decide (T 10 t = 0) && decide (T 8 t = a1) && !decide (T 7 t = a2)) i = false) → ∀ ls : Array Slot, lv_has ls 5 [(0, .ref (r 0)), (1, .int a1), (2, .int a2), (3, .int (nI i))] → W p l e (headSpec wsX6_hasTagOfAnother ({ frames := 3, cells := 0, slots := 0, locals := 64 })).room s m ([.ref (r 0), .int a1, .int a2] : List Value).toArray below meth c s.heap [] (0) (0) (MQ below (zQi (fun r : Int32 => r = zb (sBar N T a2 a1))) (([.ref (r 0), .int a1, .int a2] : List Value).toArray) s 0 0 (fun _ => False)) (F0 m 2 ls []) := by
    intro n
    induction n with
    | zero => intro i h1 h2; exact absurd h2 (by omega)
    | succ n ih =>
      intro i hi hn hgi ls hl
      refine lv_iload_n hx hb dX6_hasTagOfAnother_2 rfl (lv_at hl 3 rfl) ?_
      refine lv_aload_n hx hb dX6_hasTagOfAnother_3 rfl (lv_at hl 0 rfl) ?_
      have hh0 : w[0]? = some (r 0, .inr (7, [.ref (r 1), .ref (r 2), .ref (r 3), .ref (r 4), .ref (r 5), .ref (r 6), .ref (r 7), .ref (r 8), .ref (r 9), .ref (r 10), .int (nI (N 0)), .int ((T 19) 0), .int ((T 19) 1), .int (nI (N 6))])) := hC.1.1 0 (by omega)
      refine va_get (D := G.1) (ci := 7) (v := .ref (r 5)) (C := RX6) (T := TX6) (N := 14) hx hb hts hi_X6 hown hK hP 0 hh0 rfl 4 (by decide) (hts (.fieldLink RX6 29 "BoilerLog" "tags" "Ljava/util/ArrayList;") (List.mem_of_getElem? (i := 1) rfl)) (fun _ h9 => h9) rfl dX6_hasTagOfAnother_4 ?_
      have hh5 : w[5]? = some (r 5, .inr (0, [.int (mc 0), cDt d (N 2) (A 9), .int (nI (N 2))])) := hC.1.1 5 (by omega)
      refine z_csi (va_Run.run (va_runV (As := []) (rest := [.int (nI i)]) ⟨hx, hb, hml, hown, hts⟩ (c_Jx4a65c_size_8abf5 l G w 5 (r 5) (mc 0) (cDt d (N 2) (A 9)) (nI (N 2)) (by first | assumption | omega | exact sIx_in.mp (by assumption))) (cwV 0 hts gX6_hasTagOfAnother_Jx4a65c_size_8abf5 rfl rfl rfl (by decide +kernel) ⟨Nat.le_of_ble_eq_true rfl, Nat.le_of_ble_eq_true rfl⟩) (z_pv hK hP (ci := 0) (q0 := 5) rfl hh5 hP) rfl rfl hl.1 rfl (lv_room (Nat.le_of_ble_eq_true rfl)) dX6_hasTagOfAnother_7 ⟨(Nat.zero_le _), (Nat.zero_le _)⟩)) (fun zr_1 hzr_1 => ?_)
      subst hzr_1
      refine lv_icmp_ge (tgt := 60) hx hb dX6_hasTagOfAnother_10 (by decide) (fun zc_2 => ?_) (fun zc_2 => ?_)
      · skip
        have zd_2 := Int32.not_lt.mpr zc_2
        have zhc := (nI_leI (by omega) (by omega)).mp zc_2
        have zie := Nat.le_antisymm hi zhc
        subst zie
        refine lv_iconst (v := 0) hx hb dX6_hasTagOfAnother_60 (by decide) ?_
        exact W.zret (v := 0) hx hb hr rfl (fun t ht hW => ⟨0, rfl, (by rw [sBar, hgi]; rfl), ht⟩) (fun _ h => nomatch h) dX6_hasTagOfAnother_61 hlocks
      · skip
        have zd_2 := Int32.not_le.mp zc_2
        have zhc := Nat.lt_of_not_le (fun z => zc_2 ((nI_leI (by omega) (by omega)).mpr z))
        refine lv_aload_n hx hb dX6_hasTagOfAnother_13 rfl (lv_at hl 0 rfl) ?_
        have hh0 : w[0]? = some (r 0, .inr (7, [.ref (r 1), .ref (r 2), .ref (r 3), .ref (r 4), .ref (r 5), .ref (r 6), .ref (r 7), .ref (r 8), .ref (r 9), .ref (r 10), .int (nI (N 0)), .int ((T 19) 0), .int ((T 19) 1), .int (nI (N 6))])) := hC.1.1 0 (by omega)
        refine va_get (D := G.1) (ci := 7) (v := .ref (r 5)) (C := RX6) (T := TX6) (N := 14) hx hb hts hi_X6 hown hK hP 0 hh0 rfl 4 (by decide) (hts (.fieldLink RX6 29 "BoilerLog" "tags" "Ljava/util/ArrayList;") (List.mem_of_getElem? (i := 1) rfl)) (fun _ h9 => h9) rfl dX6_hasTagOfAnother_14 ?_
        refine lv_iload_n hx hb dX6_hasTagOfAnother_17 rfl (lv_at hl 3 rfl) ?_
        have hh5 : w[5]? = some (r 5, .inr (0, [.int (mc 0), .ref (A 9), .int (nI (N 2))])) := by rw [← cDt_p (d := d) (a := A 9) (show 0 < N 2 by omega)]; exact hC.1.1 5 (by omega)
        obtain ⟨kz3, zk3, hz3⟩ := hC.1.2.1 9 (zL_l9 (show 0 < N 2 by omega))
        have hz3 : w[kz3]? = some (A 9, .inl (G.2 5, (lcap (N 2)), .inr (.inr (.inr (.inr (cGa A 100 (N 2))))))) := hz3
        refine z_csq (va_Run.run (va_runV (As := [.int (nI i)]) (rest := []) ⟨hx, hb, hml, hown, hts⟩ (c_Jx4a65c_get_915e3 l G w 5 (r 5) (mc 0) (A 9) (nI (N 2)) kz3 (lcap (N 2)) (cGa A 100 (N 2)) (nI i) (by assumption) (by assumption) (zNn (by omega)) (by assumption) (zlc (k := 60) (vp_in_nI (show i < N 2 by omega) (by omega)) (by omega) (by omega))) (cwV 1 hts gX6_hasTagOfAnother_Jx4a65c_get_915e3 rfl rfl rfl (by decide +kernel) ⟨Nat.le_of_ble_eq_true rfl, Nat.le_of_ble_eq_true rfl⟩) (z_pv hK hP (ci := 0) (q0 := 5) rfl hh5 hP) rfl rfl hl.1 rfl (lv_room (Nat.le_of_ble_eq_true rfl)) dX6_hasTagOfAnother_18 ⟨(Nat.zero_le _), (Nat.zero_le _)⟩)) (fun zr_4 hzr_4 => ?_)
        subst hzr_4
        refine W.eq (g2 := F0 m 21 ls [.ref (A (100 + i))]) (by first | (rw [nI_clamp (by omega), cGa_p (show i < N 2 by omega)]; done) | (rw [nI_clamp (by omega), cGa_p (show i < N 2 by omega)]; rfl)) ?_
        obtain ⟨kz5, zk5, hz5⟩ := hC.1.2.1 (100 + i) (zL_tag (show i < N 2 by omega))
        rw [cE_tag (show i < 100 by have := (show i < N 2 by omega); omega)] at hz5
        have hz5 : w[kz5]? = some (A (100 + i), .inr (5, [.int ((T 7) i), .int ((T 8) i), .int ((T 9) i), .int ((T 10) i)])) := hz5
        refine va_castS (cC := G.1.1 5) hx hb hown (hts (.classLink RX6 145 "BoilerLog$Tag") (List.mem_of_getElem? (i := 2) rfl)) (hK.1 5 _ rfl).2 (va_recv hK hP (ci := 5) (q0 := kz5) rfl hz5) dX6_hasTagOfAnother_21 ?_
        refine lv_astore (lv' := [(4, .ref (A (100 + i))), (0, .ref (r 0)), (1, .int a1), (2, .int a2), (3, .int (nI i))]) hx hb dX6_hasTagOfAnother_24 hl (by decide) rfl (fun ls hl => ?_)
        refine lv_aload hx hb dX6_hasTagOfAnother_26 (lv_at hl 0 rfl) ?_
        refine va_getN (D := G.1) (ci := 5) (v := .int ((T 10) i)) (C := RX4) (T := TX4) (N := 4) hx hb hts hi_X4 hown hK hP kz5 hz5 rfl 3 (by decide) (va_Nw.use rfl (hNs.1 _ (List.mem_append_left _ (List.mem_of_getElem? (i := 2) rfl)))) (fun _ h9 => h9) rfl dX6_hasTagOfAnother_28 ?_
        refine lv_if_ne (tgt := 54) hx hb dX6_hasTagOfAnother_31 (by decide) (fun zc_6 => ?_) (fun zc_6 => ?_)
        · skip
          refine lv_iinc (v := (nI (i + 1))) (lv' := [(3, .int (nI (i + 1))), (4, .ref (A (100 + i))), (0, .ref (r 0)), (1, .int a1), (2, .int a2)]) hx hb dX6_hasTagOfAnother_54 hl (k := 4) rfl (by first | exact nI_1 _ | rfl) (by decide) rfl (fun ls hl => ?_)
          refine lv_goto (tgt := 2) hx hb dX6_hasTagOfAnother_57 (by decide) ?_
          have hl2 := lv_sub (l' := [(0, .ref (r 0)), (1, .int a1), (2, .int a2), (3, .int (nI (i + 1)))]) hl [2, 3, 4, 0] rfl
          exact ih (i + 1) (by omega) (by omega) (by simp [sAny, hgi, zc_6]) ls hl2
        · skip
          refine lv_aload hx hb dX6_hasTagOfAnother_34 (lv_at hl 0 rfl) ?_
          refine va_getN (D := G.1) (ci := 5) (v := .int ((T 8) i)) (C := RX4) (T := TX4) (N := 4) hx hb hts hi_X4 hown hK hP kz5 hz5 rfl 1 (by decide) (va_Nw.use rfl (hNs.1 _ (List.mem_append_left _ (List.mem_of_getElem? (i := 5) rfl)))) (fun _ h9 => h9) rfl dX6_hasTagOfAnother_36 ?_
          refine lv_iload_n hx hb dX6_hasTagOfAnother_39 rfl (lv_at hl 2 rfl) ?_
          refine lv_icmp_ne (tgt := 54) hx hb dX6_hasTagOfAnother_40 (by decide) (fun zc_7 => ?_) (fun zc_7 => ?_)
          · skip
            refine lv_iinc (v := (nI (i + 1))) (lv' := [(3, .int (nI (i + 1))), (4, .ref (A (100 + i))), (0, .ref (r 0)), (1, .int a1), (2, .int a2)]) hx hb dX6_hasTagOfAnother_54 hl (k := 4) rfl (by first | exact nI_1 _ | rfl) (by decide) rfl (fun ls hl => ?_)
            refine lv_goto (tgt := 2) hx hb dX6_hasTagOfAnother_57 (by decide) ?_
            have hl2 := lv_sub (l' := [(0, .ref (r 0)), (1, .int a1), (2, .int a2), (3, .int (nI (i + 1)))]) hl [2, 3, 4, 0] rfl
            exact ih (i + 1) (by omega) (by omega) (by simp [sAny, hgi, zc_6, zc_7]) ls hl2
          · skip
            refine lv_aload hx hb dX6_hasTagOfAnother_43 (lv_at hl 0 rfl) ?_
            refine va_getN (D := G.1) (ci := 5) (v := .int ((T 7) i)) (C := RX4) (T := TX4) (N := 4) hx hb hts hi_X4 hown hK hP kz5 hz5 rfl 0 (by decide) (va_Nw.use rfl (hNs.1 _ (List.mem_append_left _ (List.mem_of_getElem? (i := 3) rfl)))) (fun _ h9 => h9) rfl dX6_hasTagOfAnother_45 ?_
            refine lv_iload_n hx hb dX6_hasTagOfAnother_48 rfl (lv_at hl 3 rfl) ?_
            refine lv_icmp_eq (tgt := 54) hx hb dX6_hasTagOfAnother_49 (by decide) (fun zc_8 => ?_) (fun zc_8 => ?_)
            · skip
              refine lv_iinc (v := (nI (i + 1))) (lv' := [(3, .int (nI (i + 1))), (4, .ref (A (100 + i))), (0, .ref (r 0)), (1, .int a1), (2, .int a2)]) hx hb dX6_hasTagOfAnother_54 hl (k := 4) rfl (by first | exact nI_1 _ | rfl) (by decide) rfl (fun ls hl => ?_)
              refine lv_goto (tgt := 2) hx hb dX6_hasTagOfAnother_57 (by decide) ?_
              have hl2 := lv_sub (l' := [(0, .ref (r 0)), (1, .int a1), (2, .int a2), (3, .int (nI (i + 1)))]) hl [2, 3, 4, 0] rfl
              exact ih (i + 1) (by omega) (by omega) (by simp [sAny, hgi, zc_6, zc_7, zc_8]) ls hl2
            · skip
              refine lv_iconst (v := 1) hx hb dX6_hasTagOfAnother_52 (by decide) ?_
              exact W.zret (v := 1) hx hb hr rfl (fun t ht hW => ⟨1, rfl, (by rw [sBar, sAny_iff.mpr ⟨i, zhc, by simp [zc_6, zc_7, zc_8]⟩]; rfl), ht⟩) (fun _ h => nomatch h) dX6_hasTagOfAnother_53 hlocks
  exact key_2 (N 2 + 1) 0 (Nat.zero_le _) (by omega) rfl ls (lv_sub hl [1, 2, 3, 0] rfl)

set_option maxHeartbeats 4000000 in
set_option maxRecDepth 100000 in
theorem c_X6_countTagsOn (l : Launch) (G : zG) (d : Nat) (r A : Nat → Nat) (mc : Nat → Int32) (g : Nat → Nat → Int32) (N : Nat → Nat) (T : Nat → Nat → Int32) (w : va_W) (a1 : Int32) (hC : sCQ G d r A mc g N T w) (hn2 : N 2 ≤ 40) : Met l yX6_countTagsOn wsX6_countTagsOn ({ frames := 3, cells := 0, slots := 0, locals := 64 }) (va_Pc [.ref (r 0), .int a1] (zPx G w)) (zQi (fun r : Int32 => r = nI (sOn N T a1))) 0 0 (fun _ => False) := by
  refine Met.ofW (cc := cX6_countTagsOn) (maxL := 5) (ret := (some .int)) (by decide) rfl ?_
  intro p e s m args below meth c s₁ B hml hv
  obtain ⟨rfl, hP, hK, hZ⟩ := hv
  have hx := B.exec
  have hb := B.bytes
  have hr := B.returns
  have hts := atoms_spec (ws := wsX6_countTagsOn) B.pre
  have hown : s.vm.findClass RX6 = some m.cls := findClass_of_methodNamed B.named
  have hlocks := B.notSynchronized
  have hi_X4 : ∀ w ∈ u_ws RX4 TX4 4, w ∈ wsX6_countTagsOn := (fun _ h => List.mem_cons_of_mem _ (List.mem_append_left _ (List.mem_append_right _ h)))
  have hi_X6 : ∀ w ∈ u_ws RX6 TX6 14, w ∈ wsX6_countTagsOn := (fun _ h => List.mem_cons_of_mem _ (List.mem_append_left _ (List.mem_append_left _ (List.mem_append_right _ h))))
  have hNs := hZ.2.2
  have hS0 : va_S (fun _ => False) s.heap s.heap [] := va_S.rf
  have hl := lv_entry ([.ref (r 0), .int a1]) (n := 5) (Nat.le_of_ble_eq_true rfl)
  rw [lg_entry_eq]
  generalize (lg_sl ([.ref (r 0), .int a1]) ++ List.replicate (5 - (lg_sl ([.ref (r 0), .int a1])).length) Slot.unset).toArray = ls at hl ⊢
  have hl : lv_has ls 5 [(0, .ref (r 0)), (1, .int a1)] := hl
  refine lv_iconst (v := 0) hx hb dX6_countTagsOn_0 (by decide) ?_
  refine lv_istore_n (lv' := [(2, .int 0), (0, .ref (r 0)), (1, .int a1)]) hx hb dX6_countTagsOn_1 rfl hl (by decide) rfl (fun ls hl => ?_)
  refine lv_iconst (v := 0) hx hb dX6_countTagsOn_2 (by decide) ?_
  refine lv_istore_n (lv' := [(3, .int 0), (2, .int 0), (0, .ref (r 0)), (1, .int a1)]) hx hb dX6_countTagsOn_3 rfl hl (by decide) rfl (fun ls hl => ?_)
  have key_4 : ∀ (n i : Nat), i ≤ N 2 → N 2 < i + n → ∀ ls : Array Slot, lv_has ls 5 [(0, .ref (r 0)), (1, .int a1), (2, .int (nI (sCnt (fun t => decide (T 10 t = 0) && decide (T 8 t = a1)) i))), (3, .int (nI i))] → W p l e (headSpec wsX6_countTagsOn ({ frames := 3, cells := 0, slots := 0, locals := 64 })).room s m ([.ref (r 0), .int a1] : List Value).toArray below meth c s.heap [] (0) (0) (MQ below (zQi (fun r : Int32 => r = nI (sOn N T a1))) (([.ref (r 0), .int a1] : List Value).toArray) s 0 0 (fun _ => False)) (F0 m 4 ls []) := by
    intro n
    induction n with
    | zero => intro i h1 h2; exact absurd h2 (by omega)
    | succ n ih =>
      intro i hi hn ls hl
      refine lv_iload_n hx hb dX6_countTagsOn_4 rfl (lv_at hl 3 rfl) ?_
      refine lv_aload_n hx hb dX6_countTagsOn_5 rfl (lv_at hl 0 rfl) ?_
      have hh0 : w[0]? = some (r 0, .inr (7, [.ref (r 1), .ref (r 2), .ref (r 3), .ref (r 4), .ref (r 5), .ref (r 6), .ref (r 7), .ref (r 8), .ref (r 9), .ref (r 10), .int (nI (N 0)), .int ((T 19) 0), .int ((T 19) 1), .int (nI (N 6))])) := hC.1.1 0 (by omega)
      refine va_get (D := G.1) (ci := 7) (v := .ref (r 5)) (C := RX6) (T := TX6) (N := 14) hx hb hts hi_X6 hown hK hP 0 hh0 rfl 4 (by decide) (hts (.fieldLink RX6 29 "BoilerLog" "tags" "Ljava/util/ArrayList;") (List.mem_of_getElem? (i := 1) rfl)) (fun _ h9 => h9) rfl dX6_countTagsOn_6 ?_
      have hh5 : w[5]? = some (r 5, .inr (0, [.int (mc 0), cDt d (N 2) (A 9), .int (nI (N 2))])) := hC.1.1 5 (by omega)
      refine z_csi (va_Run.run (va_runV (As := []) (rest := [.int (nI i)]) ⟨hx, hb, hml, hown, hts⟩ (c_Jx4a65c_size_8abf5 l G w 5 (r 5) (mc 0) (cDt d (N 2) (A 9)) (nI (N 2)) (by first | assumption | omega | exact sIx_in.mp (by assumption))) (cwV 0 hts gX6_countTagsOn_Jx4a65c_size_8abf5 rfl rfl rfl (by decide +kernel) ⟨Nat.le_of_ble_eq_true rfl, Nat.le_of_ble_eq_true rfl⟩) (z_pv hK hP (ci := 0) (q0 := 5) rfl hh5 hP) rfl rfl hl.1 rfl (lv_room (Nat.le_of_ble_eq_true rfl)) dX6_countTagsOn_9 ⟨(Nat.zero_le _), (Nat.zero_le _)⟩)) (fun zr_1 hzr_1 => ?_)
      subst hzr_1
      refine lv_icmp_ge (tgt := 54) hx hb dX6_countTagsOn_12 (by decide) (fun zc_2 => ?_) (fun zc_2 => ?_)
      · skip
        have zd_2 := Int32.not_lt.mpr zc_2
        have zhc := (nI_leI (by omega) (by omega)).mp zc_2
        have zie := Nat.le_antisymm hi zhc
        subst zie
        refine lv_iload_n hx hb dX6_countTagsOn_54 rfl (lv_at hl 2 rfl) ?_
        exact W.iret (v := nI (sCnt (fun t => decide (T 10 t = 0) && decide (T 8 t = a1)) (N 2))) hx hb hr (fun t ht hW => ⟨nI (sCnt (fun t => decide (T 10 t = 0) && decide (T 8 t = a1)) (N 2)), rfl, rfl, ht⟩) (fun _ h => nomatch h) dX6_countTagsOn_55 hlocks
      · skip
        have zd_2 := Int32.not_le.mp zc_2
        have zhc := Nat.lt_of_not_le (fun z => zc_2 ((nI_leI (by omega) (by omega)).mpr z))
        refine lv_aload_n hx hb dX6_countTagsOn_15 rfl (lv_at hl 0 rfl) ?_
        have hh0 : w[0]? = some (r 0, .inr (7, [.ref (r 1), .ref (r 2), .ref (r 3), .ref (r 4), .ref (r 5), .ref (r 6), .ref (r 7), .ref (r 8), .ref (r 9), .ref (r 10), .int (nI (N 0)), .int ((T 19) 0), .int ((T 19) 1), .int (nI (N 6))])) := hC.1.1 0 (by omega)
        refine va_get (D := G.1) (ci := 7) (v := .ref (r 5)) (C := RX6) (T := TX6) (N := 14) hx hb hts hi_X6 hown hK hP 0 hh0 rfl 4 (by decide) (hts (.fieldLink RX6 29 "BoilerLog" "tags" "Ljava/util/ArrayList;") (List.mem_of_getElem? (i := 1) rfl)) (fun _ h9 => h9) rfl dX6_countTagsOn_16 ?_
        refine lv_iload_n hx hb dX6_countTagsOn_19 rfl (lv_at hl 3 rfl) ?_
        have hh5 : w[5]? = some (r 5, .inr (0, [.int (mc 0), .ref (A 9), .int (nI (N 2))])) := by rw [← cDt_p (d := d) (a := A 9) (show 0 < N 2 by omega)]; exact hC.1.1 5 (by omega)
        obtain ⟨kz3, zk3, hz3⟩ := hC.1.2.1 9 (zL_l9 (show 0 < N 2 by omega))
        have hz3 : w[kz3]? = some (A 9, .inl (G.2 5, (lcap (N 2)), .inr (.inr (.inr (.inr (cGa A 100 (N 2))))))) := hz3
        refine z_csq (va_Run.run (va_runV (As := [.int (nI i)]) (rest := []) ⟨hx, hb, hml, hown, hts⟩ (c_Jx4a65c_get_915e3 l G w 5 (r 5) (mc 0) (A 9) (nI (N 2)) kz3 (lcap (N 2)) (cGa A 100 (N 2)) (nI i) (by assumption) (by assumption) (zNn (by omega)) (by assumption) (zlc (k := 60) (vp_in_nI (show i < N 2 by omega) (by omega)) (by omega) (by omega))) (cwV 1 hts gX6_countTagsOn_Jx4a65c_get_915e3 rfl rfl rfl (by decide +kernel) ⟨Nat.le_of_ble_eq_true rfl, Nat.le_of_ble_eq_true rfl⟩) (z_pv hK hP (ci := 0) (q0 := 5) rfl hh5 hP) rfl rfl hl.1 rfl (lv_room (Nat.le_of_ble_eq_true rfl)) dX6_countTagsOn_20 ⟨(Nat.zero_le _), (Nat.zero_le _)⟩)) (fun zr_4 hzr_4 => ?_)
        subst hzr_4
        refine W.eq (g2 := F0 m 23 ls [.ref (A (100 + i))]) (by first | (rw [nI_clamp (by omega), cGa_p (show i < N 2 by omega)]; done) | (rw [nI_clamp (by omega), cGa_p (show i < N 2 by omega)]; rfl)) ?_
        obtain ⟨kz5, zk5, hz5⟩ := hC.1.2.1 (100 + i) (zL_tag (show i < N 2 by omega))
        rw [cE_tag (show i < 100 by have := (show i < N 2 by omega); omega)] at hz5
        have hz5 : w[kz5]? = some (A (100 + i), .inr (5, [.int ((T 7) i), .int ((T 8) i), .int ((T 9) i), .int ((T 10) i)])) := hz5
        refine va_castS (cC := G.1.1 5) hx hb hown (hts (.classLink RX6 145 "BoilerLog$Tag") (List.mem_of_getElem? (i := 2) rfl)) (hK.1 5 _ rfl).2 (va_recv hK hP (ci := 5) (q0 := kz5) rfl hz5) dX6_countTagsOn_23 ?_
        refine lv_astore (lv' := [(4, .ref (A (100 + i))), (0, .ref (r 0)), (1, .int a1), (2, .int (nI (sCnt (fun t => decide (T 10 t = 0) && decide (T 8 t = a1)) i))), (3, .int (nI i))]) hx hb dX6_countTagsOn_26 hl (by decide) rfl (fun ls hl => ?_)
        refine lv_aload hx hb dX6_countTagsOn_28 (lv_at hl 0 rfl) ?_
        refine va_getN (D := G.1) (ci := 5) (v := .int ((T 10) i)) (C := RX4) (T := TX4) (N := 4) hx hb hts hi_X4 hown hK hP kz5 hz5 rfl 3 (by decide) (va_Nw.use rfl (hNs.1 _ (List.mem_append_left _ (List.mem_of_getElem? (i := 2) rfl)))) (fun _ h9 => h9) rfl dX6_countTagsOn_30 ?_
        refine lv_if_ne (tgt := 48) hx hb dX6_countTagsOn_33 (by decide) (fun zc_6 => ?_) (fun zc_6 => ?_)
        · skip
          refine lv_iinc (v := (nI (i + 1))) (lv' := [(3, .int (nI (i + 1))), (4, .ref (A (100 + i))), (0, .ref (r 0)), (1, .int a1), (2, .int (nI (sCnt (fun t => decide (T 10 t = 0) && decide (T 8 t = a1)) i)))]) hx hb dX6_countTagsOn_48 hl (k := 4) rfl (by first | exact nI_1 _ | rfl) (by decide) rfl (fun ls hl => ?_)
          refine lv_goto (tgt := 4) hx hb dX6_countTagsOn_51 (by decide) ?_
          have hl2 := lv_sub (l' := [(0, .ref (r 0)), (1, .int a1), (2, .int (nI (sCnt (fun t => decide (T 10 t = 0) && decide (T 8 t = a1)) i))), (3, .int (nI (i + 1)))]) hl [2, 3, 4, 0] rfl
          have e_2 : nI (sCnt (fun t => decide (T 10 t = 0) && decide (T 8 t = a1)) i) = nI (sCnt (fun t => decide (T 10 t = 0) && decide (T 8 t = a1)) (i + 1)) := by simp [sCnt, nI_succ, zc_6]
          rw [e_2] at hl2
          exact ih (i + 1) (by omega) (by omega) ls hl2
        · skip
          refine lv_aload hx hb dX6_countTagsOn_36 (lv_at hl 0 rfl) ?_
          refine va_getN (D := G.1) (ci := 5) (v := .int ((T 8) i)) (C := RX4) (T := TX4) (N := 4) hx hb hts hi_X4 hown hK hP kz5 hz5 rfl 1 (by decide) (va_Nw.use rfl (hNs.1 _ (List.mem_append_left _ (List.mem_of_getElem? (i := 5) rfl)))) (fun _ h9 => h9) rfl dX6_countTagsOn_38 ?_
          refine lv_iload_n hx hb dX6_countTagsOn_41 rfl (lv_at hl 2 rfl) ?_
          refine lv_icmp_ne (tgt := 48) hx hb dX6_countTagsOn_42 (by decide) (fun zc_7 => ?_) (fun zc_7 => ?_)
          · skip
            refine lv_iinc (v := (nI (i + 1))) (lv' := [(3, .int (nI (i + 1))), (4, .ref (A (100 + i))), (0, .ref (r 0)), (1, .int a1), (2, .int (nI (sCnt (fun t => decide (T 10 t = 0) && decide (T 8 t = a1)) i)))]) hx hb dX6_countTagsOn_48 hl (k := 4) rfl (by first | exact nI_1 _ | rfl) (by decide) rfl (fun ls hl => ?_)
            refine lv_goto (tgt := 4) hx hb dX6_countTagsOn_51 (by decide) ?_
            have hl2 := lv_sub (l' := [(0, .ref (r 0)), (1, .int a1), (2, .int (nI (sCnt (fun t => decide (T 10 t = 0) && decide (T 8 t = a1)) i))), (3, .int (nI (i + 1)))]) hl [2, 3, 4, 0] rfl
            have e_2 : nI (sCnt (fun t => decide (T 10 t = 0) && decide (T 8 t = a1)) i) = nI (sCnt (fun t => decide (T 10 t = 0) && decide (T 8 t = a1)) (i + 1)) := by simp [sCnt, nI_succ, zc_6, zc_7]
            rw [e_2] at hl2
            exact ih (i + 1) (by omega) (by omega) ls hl2
          · skip
            refine lv_iinc (v := (nI (sCnt (fun t => decide (T 10 t = 0) && decide (T 8 t = a1)) i + 1))) (lv' := [(2, .int (nI (sCnt (fun t => decide (T 10 t = 0) && decide (T 8 t = a1)) i + 1))), (4, .ref (A (100 + i))), (0, .ref (r 0)), (1, .int a1), (3, .int (nI i))]) hx hb dX6_countTagsOn_45 hl (k := 3) rfl (by first | exact nI_1 _ | rfl) (by decide) rfl (fun ls hl => ?_)
            refine lv_iinc (v := (nI (i + 1))) (lv' := [(3, .int (nI (i + 1))), (2, .int (nI (sCnt (fun t => decide (T 10 t = 0) && decide (T 8 t = a1)) i + 1))), (4, .ref (A (100 + i))), (0, .ref (r 0)), (1, .int a1)]) hx hb dX6_countTagsOn_48 hl (k := 4) rfl (by first | exact nI_1 _ | rfl) (by decide) rfl (fun ls hl => ?_)
            refine lv_goto (tgt := 4) hx hb dX6_countTagsOn_51 (by decide) ?_
            have hl2 := lv_sub (l' := [(0, .ref (r 0)), (1, .int a1), (2, .int (nI (sCnt (fun t => decide (T 10 t = 0) && decide (T 8 t = a1)) i + 1))), (3, .int (nI (i + 1)))]) hl [3, 4, 1, 0] rfl
            have e_2 : nI (sCnt (fun t => decide (T 10 t = 0) && decide (T 8 t = a1)) i + 1) = nI (sCnt (fun t => decide (T 10 t = 0) && decide (T 8 t = a1)) (i + 1)) := by simp [sCnt, nI_succ, zc_6, zc_7]
            rw [e_2] at hl2
            exact ih (i + 1) (by omega) (by omega) ls hl2
  exact key_4 (N 2 + 1) 0 (Nat.zero_le _) (by omega) ls (lv_sub hl [2, 3, 1, 0] rfl)

set_option maxHeartbeats 4000000 in
set_option maxRecDepth 100000 in
theorem c_X6_wasHungOn (l : Launch) (G : zG) (d : Nat) (r A : Nat → Nat) (mc : Nat → Int32) (g : Nat → Nat → Int32) (N : Nat → Nat) (T : Nat → Nat → Int32) (w : va_W) (a1 a2 : Int32) (hC : sCQ G d r A mc g N T w) (hn2 : N 2 ≤ 40) : Met l yX6_wasHungOn wsX6_wasHungOn ({ frames := 3, cells := 0, slots := 0, locals := 64 }) (va_Pc [.ref (r 0), .int a1, .int a2] (zPx G w)) (zQi (fun r : Int32 => r = zb (sWas N T a1 a2))) 0 0 (fun _ => False) := by
  refine Met.ofW (cc := cX6_wasHungOn) (maxL := 3) (ret := (some .boolean)) (by decide) rfl ?_
  intro p e s m args below meth c s₁ B hml hv
  obtain ⟨rfl, hP, hK, hZ⟩ := hv
  have hx := B.exec
  have hb := B.bytes
  have hr := B.returns
  have hts := atoms_spec (ws := wsX6_wasHungOn) B.pre
  have hown : s.vm.findClass RX6 = some m.cls := findClass_of_methodNamed B.named
  have hlocks := B.notSynchronized
  have hi_X4 : ∀ w ∈ u_ws RX4 TX4 4, w ∈ wsX6_wasHungOn := (fun _ h => List.mem_cons_of_mem _ (List.mem_append_left _ (List.mem_append_right _ h)))
  have hi_X6 : ∀ w ∈ u_ws RX6 TX6 14, w ∈ wsX6_wasHungOn := (fun _ h => List.mem_cons_of_mem _ (List.mem_append_left _ (List.mem_append_left _ (List.mem_append_right _ h))))
  have hNs := hZ.2.2
  have hS0 : va_S (fun _ => False) s.heap s.heap [] := va_S.rf
  have hl := lv_entry ([.ref (r 0), .int a1, .int a2]) (n := 3) (Nat.le_of_ble_eq_true rfl)
  rw [lg_entry_eq]
  generalize (lg_sl ([.ref (r 0), .int a1, .int a2]) ++ List.replicate (3 - (lg_sl ([.ref (r 0), .int a1, .int a2])).length) Slot.unset).toArray = ls at hl ⊢
  have hl : lv_has ls 3 [(0, .ref (r 0)), (1, .int a1), (2, .int a2)] := hl
  refine lv_iload_n hx hb dX6_wasHungOn_0 rfl (lv_at hl 1 rfl) ?_
  refine lv_if_lt (tgt := 37) hx hb dX6_wasHungOn_1 (by decide) (fun zc_1 => ?_) (fun zc_1 => ?_)
  · skip
    have zd_1 := Int32.not_le.mpr zc_1
    refine lv_iconst (v := 0) hx hb dX6_wasHungOn_37 (by decide) ?_
    exact W.zret (v := 0) hx hb hr rfl (fun t ht hW => ⟨0, rfl, (by rw [sWas, zIx_neg zc_1]; rfl), ht⟩) (fun _ h => nomatch h) dX6_wasHungOn_38 hlocks
  · skip
    have zd_1 := Int32.not_lt.mp zc_1
    refine lv_iload_n hx hb dX6_wasHungOn_4 rfl (lv_at hl 1 rfl) ?_
    refine lv_aload_n hx hb dX6_wasHungOn_5 rfl (lv_at hl 0 rfl) ?_
    have hh0 : w[0]? = some (r 0, .inr (7, [.ref (r 1), .ref (r 2), .ref (r 3), .ref (r 4), .ref (r 5), .ref (r 6), .ref (r 7), .ref (r 8), .ref (r 9), .ref (r 10), .int (nI (N 0)), .int ((T 19) 0), .int ((T 19) 1), .int (nI (N 6))])) := hC.1.1 0 (by omega)
    refine va_get (D := G.1) (ci := 7) (v := .ref (r 5)) (C := RX6) (T := TX6) (N := 14) hx hb hts hi_X6 hown hK hP 0 hh0 rfl 4 (by decide) (hts (.fieldLink RX6 29 "BoilerLog" "tags" "Ljava/util/ArrayList;") (List.mem_of_getElem? (i := 1) rfl)) (fun _ h9 => h9) rfl dX6_wasHungOn_6 ?_
    have hh5 : w[5]? = some (r 5, .inr (0, [.int (mc 0), cDt d (N 2) (A 9), .int (nI (N 2))])) := hC.1.1 5 (by omega)
    refine z_csi (va_Run.run (va_runV (As := []) (rest := [.int a1]) ⟨hx, hb, hml, hown, hts⟩ (c_Jx4a65c_size_8abf5 l G w 5 (r 5) (mc 0) (cDt d (N 2) (A 9)) (nI (N 2)) (by first | assumption | omega | exact sIx_in.mp (by assumption))) (cwV 0 hts gX6_wasHungOn_Jx4a65c_size_8abf5 rfl rfl rfl (by decide +kernel) ⟨Nat.le_of_ble_eq_true rfl, Nat.le_of_ble_eq_true rfl⟩) (z_pv hK hP (ci := 0) (q0 := 5) rfl hh5 hP) rfl rfl hl.1 rfl (lv_room (Nat.le_of_ble_eq_true rfl)) dX6_wasHungOn_9 ⟨(Nat.zero_le _), (Nat.zero_le _)⟩)) (fun zr_2 hzr_2 => ?_)
    subst hzr_2
    refine lv_icmp_ge (tgt := 37) hx hb dX6_wasHungOn_12 (by decide) (fun zc_3 => ?_) (fun zc_3 => ?_)
    · skip
      have zd_3 := Int32.not_lt.mpr zc_3
      refine lv_iconst (v := 0) hx hb dX6_wasHungOn_37 (by decide) ?_
      exact W.zret (v := 0) hx hb hr rfl (fun t ht hW => ⟨0, rfl, (by rw [sWas, zIx_ge (nI_toInt (by omega)) (Int32.not_lt.mpr zc_3)]; rfl), ht⟩) (fun _ h => nomatch h) dX6_wasHungOn_38 hlocks
    · skip
      have zd_3 := Int32.not_le.mp zc_3
      have hp2 : a1.toNatClampNeg < N 2 := (zCl (zIn_lt (by omega) (Int32.not_lt.mp zc_1) zd_3) (by omega)).1
      refine lv_aload_n hx hb dX6_wasHungOn_15 rfl (lv_at hl 0 rfl) ?_
      have hh0 : w[0]? = some (r 0, .inr (7, [.ref (r 1), .ref (r 2), .ref (r 3), .ref (r 4), .ref (r 5), .ref (r 6), .ref (r 7), .ref (r 8), .ref (r 9), .ref (r 10), .int (nI (N 0)), .int ((T 19) 0), .int ((T 19) 1), .int (nI (N 6))])) := hC.1.1 0 (by omega)
      refine va_get (D := G.1) (ci := 7) (v := .ref (r 5)) (C := RX6) (T := TX6) (N := 14) hx hb hts hi_X6 hown hK hP 0 hh0 rfl 4 (by decide) (hts (.fieldLink RX6 29 "BoilerLog" "tags" "Ljava/util/ArrayList;") (List.mem_of_getElem? (i := 1) rfl)) (fun _ h9 => h9) rfl dX6_wasHungOn_16 ?_
      refine lv_iload_n hx hb dX6_wasHungOn_19 rfl (lv_at hl 1 rfl) ?_
      have hh5 : w[5]? = some (r 5, .inr (0, [.int (mc 0), .ref (A 9), .int (nI (N 2))])) := by rw [← cDt_p (d := d) (a := A 9) (show 0 < N 2 by omega)]; exact hC.1.1 5 (by omega)
      obtain ⟨kz4, zk4, hz4⟩ := hC.1.2.1 9 (zL_l9 (show 0 < N 2 by omega))
      have hz4 : w[kz4]? = some (A 9, .inl (G.2 5, (lcap (N 2)), .inr (.inr (.inr (.inr (cGa A 100 (N 2))))))) := hz4
      refine z_csq (va_Run.run (va_runV (As := [.int a1]) (rest := []) ⟨hx, hb, hml, hown, hts⟩ (c_Jx4a65c_get_915e3 l G w 5 (r 5) (mc 0) (A 9) (nI (N 2)) kz4 (lcap (N 2)) (cGa A 100 (N 2)) a1 (by assumption) (by assumption) zc_1 zd_3 (zlc (k := 60) (zIn_lt (by omega) (Int32.not_lt.mp zc_1) zd_3) (by omega) (by omega))) (cwV 1 hts gX6_wasHungOn_Jx4a65c_get_915e3 rfl rfl rfl (by decide +kernel) ⟨Nat.le_of_ble_eq_true rfl, Nat.le_of_ble_eq_true rfl⟩) (z_pv hK hP (ci := 0) (q0 := 5) rfl hh5 hP) rfl rfl hl.1 rfl (lv_room (Nat.le_of_ble_eq_true rfl)) dX6_wasHungOn_20 ⟨(Nat.zero_le _), (Nat.zero_le _)⟩)) (fun zr_5 hzr_5 => ?_)
      subst hzr_5
      refine W.eq (g2 := F0 m 23 ls [.ref (A (100 + a1.toNatClampNeg))]) (by first | (rw [cGa_p hp2]; done) | (rw [cGa_p hp2]; rfl)) ?_
      obtain ⟨kz6, zk6, hz6⟩ := hC.1.2.1 (100 + a1.toNatClampNeg) (zL_tag (zCl (zIn_lt (by omega) (Int32.not_lt.mp zc_1) zd_3) (by omega)).1)
      rw [cE_tag (show a1.toNatClampNeg < 100 by have := (zCl (zIn_lt (by omega) (Int32.not_lt.mp zc_1) zd_3) (by omega)).1; omega)] at hz6
      have hz6 : w[kz6]? = some (A (100 + a1.toNatClampNeg), .inr (5, [.int ((T 7) a1.toNatClampNeg), .int ((T 8) a1.toNatClampNeg), .int ((T 9) a1.toNatClampNeg), .int ((T 10) a1.toNatClampNeg)])) := hz6
      refine va_castS (cC := G.1.1 5) hx hb hown (hts (.classLink RX6 145 "BoilerLog$Tag") (List.mem_of_getElem? (i := 2) rfl)) (hK.1 5 _ rfl).2 (va_recv hK hP (ci := 5) (q0 := kz6) rfl hz6) dX6_wasHungOn_23 ?_
      refine va_getN (D := G.1) (ci := 5) (v := .int ((T 8) a1.toNatClampNeg)) (C := RX4) (T := TX4) (N := 4) hx hb hts hi_X4 hown hK hP kz6 hz6 rfl 1 (by decide) (va_Nw.use rfl (hNs.1 _ (List.mem_append_left _ (List.mem_of_getElem? (i := 5) rfl)))) (fun _ h9 => h9) rfl dX6_wasHungOn_26 ?_
      refine lv_iload_n hx hb dX6_wasHungOn_29 rfl (lv_at hl 2 rfl) ?_
      refine lv_icmp_ne (tgt := 37) hx hb dX6_wasHungOn_30 (by decide) (fun zc_7 => ?_) (fun zc_7 => ?_)
      · skip
        refine lv_iconst (v := 0) hx hb dX6_wasHungOn_37 (by decide) ?_
        exact W.zret (v := 0) hx hb hr rfl (fun t ht hW => ⟨0, rfl, (by rw [sWas, sIx_in.mpr (zIn_lt (by omega) (Int32.not_lt.mp zc_1) zd_3)]; simp [zb, zc_7]), ht⟩) (fun _ h => nomatch h) dX6_wasHungOn_38 hlocks
      · skip
        refine lv_iconst (v := 1) hx hb dX6_wasHungOn_33 (by decide) ?_
        refine lv_goto (tgt := 38) hx hb dX6_wasHungOn_34 (by decide) ?_
        exact W.zret (v := 1) hx hb hr rfl (fun t ht hW => ⟨1, rfl, (by rw [sWas, sIx_in.mpr (zIn_lt (by omega) (Int32.not_lt.mp zc_1) zd_3)]; simp [zb, zc_7]), ht⟩) (fun _ h => nomatch h) dX6_wasHungOn_38 hlocks

set_option maxHeartbeats 4000000 in
set_option maxRecDepth 100000 in
theorem c_X6_findObstacle (l : Launch) (G : zG) (d : Nat) (r A : Nat → Nat) (mc : Nat → Int32) (g : Nat → Nat → Int32) (N : Nat → Nat) (T : Nat → Nat → Int32) (w : va_W) (a1 a2 : Int32) (hC : sCQ G d r A mc g N T w) (hn2 : N 2 ≤ 40) (hp : vp_in a1 9) : Met l yX6_findObstacle wsX6_findObstacle ({ frames := 4, cells := 0, slots := 0, locals := 88 }) (va_Pc [.ref (r 0), .int a1, .int a2] (zPx G w)) (zQi (fun r : Int32 => r = sBars N T a1 a2)) 0 0 (fun _ => False) := by
  refine Met.ofW (cc := cX6_findObstacle) (maxL := 3) (ret := (some .int)) (by decide) rfl ?_
  intro p e s m args below meth c s₁ B hml hv
  obtain ⟨rfl, hP, hK, hZ⟩ := hv
  have hx := B.exec
  have hb := B.bytes
  have hr := B.returns
  have hts := atoms_spec (ws := wsX6_findObstacle) B.pre
  have hown : s.vm.findClass RX6 = some m.cls := findClass_of_methodNamed B.named
  have hlocks := B.notSynchronized
  have hNs := hZ.2.2
  have hS0 : va_S (fun _ => False) s.heap s.heap [] := va_S.rf
  have hl := lv_entry ([.ref (r 0), .int a1, .int a2]) (n := 3) (Nat.le_of_ble_eq_true rfl)
  rw [lg_entry_eq]
  generalize (lg_sl ([.ref (r 0), .int a1, .int a2]) ++ List.replicate (3 - (lg_sl ([.ref (r 0), .int a1, .int a2])).length) Slot.unset).toArray = ls at hl ⊢
  have hl : lv_has ls 3 [(0, .ref (r 0)), (1, .int a1), (2, .int a2)] := hl
  refine lv_aload_n hx hb dX6_findObstacle_0 rfl (lv_at hl 0 rfl) ?_
  refine lv_iload_n hx hb dX6_findObstacle_1 rfl (lv_at hl 1 rfl) ?_
  have hh0 : w[0]? = some (r 0, .inr (7, [.ref (r 1), .ref (r 2), .ref (r 3), .ref (r 4), .ref (r 5), .ref (r 6), .ref (r 7), .ref (r 8), .ref (r 9), .ref (r 10), .int (nI (N 0)), .int ((T 19) 0), .int ((T 19) 1), .int (nI (N 6))])) := hC.1.1 0 (by omega)
  refine z_csi (va_Run.run (va_runV (As := [.int a1]) (rest := []) ⟨hx, hb, hml, hown, hts⟩ (c_X6_isOnDuty l G d r A mc g N T w a1 (by first | assumption | omega | exact sIx_in.mp (by assumption)) (by first | assumption | omega | exact sIx_in.mp (by assumption))) (cwV 1 hts gX6_findObstacle_X6_isOnDuty rfl rfl rfl (by decide +kernel) ⟨Nat.le_of_ble_eq_true rfl, Nat.le_of_ble_eq_true rfl⟩) (z_pv hK hP (ci := 7) (q0 := 0) rfl hh0 hP) rfl rfl hl.1 rfl (lv_room (Nat.le_of_ble_eq_true rfl)) dX6_findObstacle_2 ⟨(Nat.zero_le _), (Nat.zero_le _)⟩)) (fun zr_1 hzr_1 => ?_)
  subst hzr_1
  refine lv_if_ne (tgt := 10) hx hb dX6_findObstacle_5 (by decide) (fun zc_2 => ?_) (fun zc_2 => ?_)
  · skip
    have zc_2 := zb_n0 zc_2
    refine lv_aload_n hx hb dX6_findObstacle_10 rfl (lv_at hl 0 rfl) ?_
    refine lv_iload_n hx hb dX6_findObstacle_11 rfl (lv_at hl 1 rfl) ?_
    refine z_csi (va_Run.run (va_runV (As := [.int a1]) (rest := []) ⟨hx, hb, hml, hown, hts⟩ (c_X6_isAble l G d r A mc g N T w a1 (by first | assumption | omega | exact sIx_in.mp (by assumption)) (by first | assumption | omega | exact sIx_in.mp (by assumption))) (cwV 1 hts gX6_findObstacle_X6_isAble rfl rfl rfl (by decide +kernel) ⟨Nat.le_of_ble_eq_true rfl, Nat.le_of_ble_eq_true rfl⟩) (z_pv hK hP (ci := 7) (q0 := 0) rfl hh0 hP) rfl rfl hl.1 rfl (lv_room (Nat.le_of_ble_eq_true rfl)) dX6_findObstacle_12 ⟨(Nat.zero_le _), (Nat.zero_le _)⟩)) (fun zr_3 hzr_3 => ?_)
    subst hzr_3
    refine lv_if_ne (tgt := 20) hx hb dX6_findObstacle_15 (by decide) (fun zc_4 => ?_) (fun zc_4 => ?_)
    · skip
      have zc_4 := zb_n0 zc_4
      refine lv_aload_n hx hb dX6_findObstacle_20 rfl (lv_at hl 0 rfl) ?_
      refine lv_iload_n hx hb dX6_findObstacle_21 rfl (lv_at hl 2 rfl) ?_
      refine lv_iload_n hx hb dX6_findObstacle_22 rfl (lv_at hl 1 rfl) ?_
      refine z_csi (va_Run.run (va_runV (As := [.int a2, .int a1]) (rest := []) ⟨hx, hb, hml, hown, hts⟩ (c_X6_hasTagOfAnother l G d r A mc g N T w a2 a1 (by first | assumption | omega | exact sIx_in.mp (by assumption)) (by first | assumption | omega | exact sIx_in.mp (by assumption))) (cwV 2 hts gX6_findObstacle_X6_hasTagOfAnother rfl rfl rfl (by decide +kernel) ⟨Nat.le_of_ble_eq_true rfl, Nat.le_of_ble_eq_true rfl⟩) (z_rv hK hP (ci := 7) (q0 := 0) rfl hh0 hP hZ hS0) rfl rfl hl.1 rfl (lv_room (Nat.le_of_ble_eq_true rfl)) dX6_findObstacle_23 ⟨(Nat.zero_le _), (Nat.zero_le _)⟩)) (fun zr_5 hzr_5 => ?_)
      subst hzr_5
      refine lv_if_eq (tgt := 33) hx hb dX6_findObstacle_26 (by decide) (fun zc_6 => ?_) (fun zc_6 => ?_)
      · skip
        have zc_6 := zb_0.mp zc_6
        refine lv_iconst (v := 0) hx hb dX6_findObstacle_33 (by decide) ?_
        exact W.iret (v := 0) hx hb hr (fun t ht hW => ⟨0, rfl, (by simp [sBars, zc_2, zc_4, zc_6]), ht⟩) (fun _ h => nomatch h) dX6_findObstacle_34 hlocks
      · skip
        have zc_6 := zb_n0 zc_6
        refine lv_iconst (v := 3) hx hb dX6_findObstacle_29 (by decide) ?_
        refine lv_goto (tgt := 34) hx hb dX6_findObstacle_30 (by decide) ?_
        exact W.iret (v := 3) hx hb hr (fun t ht hW => ⟨3, rfl, (by simp [sBars, zc_2, zc_4, zc_6]), ht⟩) (fun _ h => nomatch h) dX6_findObstacle_34 hlocks
    · skip
      have zc_4 := zb_0.mp zc_4
      refine lv_iconst (v := 2) hx hb dX6_findObstacle_18 (by decide) ?_
      exact W.iret (v := 2) hx hb hr (fun t ht hW => ⟨2, rfl, (by simp [sBars, zc_2, zc_4]), ht⟩) (fun _ h => nomatch h) dX6_findObstacle_19 hlocks
  · skip
    have zc_2 := zb_0.mp zc_2
    refine lv_iconst (v := 1) hx hb dX6_findObstacle_8 (by decide) ?_
    exact W.iret (v := 1) hx hb hr (fun t ht hW => ⟨1, rfl, (by simp [sBars, zc_2]), ht⟩) (fun _ h => nomatch h) dX6_findObstacle_9 hlocks

set_option maxHeartbeats 4000000 in
set_option maxRecDepth 100000 in
theorem c_X6_isFirstToAsk (l : Launch) (G : zG) (d : Nat) (r A : Nat → Nat) (mc : Nat → Int32) (g : Nat → Nat → Int32) (N : Nat → Nat) (T : Nat → Nat → Int32) (w : va_W) (t : Nat) (a1 : Int32) (hC : sCQ G d r A mc g N T w) (hn2 : N 2 ≤ 40) (ht : t < N 2) : Met l yX6_isFirstToAsk wsX6_isFirstToAsk ({ frames := 0, cells := 0, slots := 0, locals := 0 }) (va_Pc [.ref (A (100 + t)), .int a1] (zPx G w)) (zQi (fun r : Int32 => r = zb (decide (T 9 t = -1) || decide (T 9 t = a1)))) 0 0 (fun _ => False) := by
  refine Met.ofW (cc := cX6_isFirstToAsk) (maxL := 2) (ret := (some .boolean)) (by decide) rfl ?_
  intro p e s m args below meth c s₁ B hml hv
  obtain ⟨rfl, hP, hK, hZ⟩ := hv
  have hx := B.exec
  have hb := B.bytes
  have hr := B.returns
  have hts := atoms_spec (ws := wsX6_isFirstToAsk) B.pre
  have hown : s.vm.findClass RX6 = some m.cls := findClass_of_methodNamed B.named
  have hlocks := B.notSynchronized
  have hi_X4 : ∀ w ∈ u_ws RX4 TX4 4, w ∈ wsX6_isFirstToAsk := (fun _ h => List.mem_cons_of_mem _ (List.mem_append_right _ h))
  have hNs := hZ.2.2
  have hS0 : va_S (fun _ => False) s.heap s.heap [] := va_S.rf
  have hl := lv_entry ([.ref (A (100 + t)), .int a1]) (n := 2) (Nat.le_of_ble_eq_true rfl)
  rw [lg_entry_eq]
  generalize (lg_sl ([.ref (A (100 + t)), .int a1]) ++ List.replicate (2 - (lg_sl ([.ref (A (100 + t)), .int a1])).length) Slot.unset).toArray = ls at hl ⊢
  have hl : lv_has ls 2 [(0, .ref (A (100 + t))), (1, .int a1)] := hl
  refine lv_aload_n hx hb dX6_isFirstToAsk_0 rfl (lv_at hl 0 rfl) ?_
  obtain ⟨kz1, zk1, hz1⟩ := hC.1.2.1 (100 + t) (zL_tag ht)
  rw [cE_tag (show t < 100 by have := ht; omega)] at hz1
  have hz1 : w[kz1]? = some (A (100 + t), .inr (5, [.int ((T 7) t), .int ((T 8) t), .int ((T 9) t), .int ((T 10) t)])) := hz1
  refine va_getN (D := G.1) (ci := 5) (v := .int ((T 9) t)) (C := RX4) (T := TX4) (N := 4) hx hb hts hi_X4 hown hK hP kz1 hz1 rfl 2 (by decide) (va_Nw.use rfl (hNs.1 _ (List.mem_append_left _ (List.mem_of_getElem? (i := 4) rfl)))) (fun _ h9 => h9) rfl dX6_isFirstToAsk_1 ?_
  refine lv_iconst (v := (-1)) hx hb dX6_isFirstToAsk_4 (by decide) ?_
  refine lv_icmp_eq (tgt := 16) hx hb dX6_isFirstToAsk_5 (by decide) (fun zc_2 => ?_) (fun zc_2 => ?_)
  · skip
    refine lv_iconst (v := 1) hx hb dX6_isFirstToAsk_16 (by decide) ?_
    refine lv_goto (tgt := 21) hx hb dX6_isFirstToAsk_17 (by decide) ?_
    exact W.zret (v := 1) hx hb hr rfl (fun t ht hW => ⟨1, rfl, (by simp [zb, zc_2]), ht⟩) (fun _ h => nomatch h) dX6_isFirstToAsk_21 hlocks
  · skip
    refine lv_aload_n hx hb dX6_isFirstToAsk_8 rfl (lv_at hl 0 rfl) ?_
    refine va_getN (D := G.1) (ci := 5) (v := .int ((T 9) t)) (C := RX4) (T := TX4) (N := 4) hx hb hts hi_X4 hown hK hP kz1 hz1 rfl 2 (by decide) (va_Nw.use rfl (hNs.1 _ (List.mem_append_left _ (List.mem_of_getElem? (i := 4) rfl)))) (fun _ h9 => h9) rfl dX6_isFirstToAsk_9 ?_
    refine lv_iload_n hx hb dX6_isFirstToAsk_12 rfl (lv_at hl 1 rfl) ?_
    refine lv_icmp_ne (tgt := 20) hx hb dX6_isFirstToAsk_13 (by decide) (fun zc_3 => ?_) (fun zc_3 => ?_)
    · skip
      refine lv_iconst (v := 0) hx hb dX6_isFirstToAsk_20 (by decide) ?_
      exact W.zret (v := 0) hx hb hr rfl (fun t ht hW => ⟨0, rfl, (by simp [zb, zc_2, zc_3]), ht⟩) (fun _ h => nomatch h) dX6_isFirstToAsk_21 hlocks
    · skip
      refine lv_iconst (v := 1) hx hb dX6_isFirstToAsk_16 (by decide) ?_
      refine lv_goto (tgt := 21) hx hb dX6_isFirstToAsk_17 (by decide) ?_
      exact W.zret (v := 1) hx hb hr rfl (fun t ht hW => ⟨1, rfl, (by simp [zb, zc_2, zc_3]), ht⟩) (fun _ h => nomatch h) dX6_isFirstToAsk_21 hlocks
