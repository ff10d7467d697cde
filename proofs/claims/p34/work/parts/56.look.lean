set_option maxHeartbeats 4000000 in
set_option maxRecDepth 100000 in
theorem c_L_look (l : Launch) (G : zG) (u : Nat → Nat) (E : Nat → Int64) (F : Nat → Nat → Int32) (N : Nat → Nat) (T : Nat → Nat → Int32) (K : Nat) (sz : Nat) (hR : sLR N T E F) (hI : sInv N T K 0) (hG : sLG N T) (hH : sLH N T) (hb1 : N 1 ≤ 121) (h3 : N 3 ≤ 3) (hL12 : ∀ a, a < N 3 → ∃ x : Nat, x ≤ 1000 ∧ T 12 a = nI x) : Met l yL_look wsL_look ({ frames := 3, cells := 0, slots := 0, locals := 71 }) (va_Pc [.ref (u 0), .ref (u 2), .ref (u 3), .ref (u 4), .ref (u 9)] (zPu G (LW G u E F) sz)) (va_Qv (fun w1 : va_W => ∃ (E1 : Nat → Int64) (F1 : Nat → Nat → Int32), w1 = LW G u E1 F1 ∧ sLR (sWatches (N 3) N T).1 (sWatches (N 3) N T).2 E1 F1) (zB G (va_A (LW G u E F) sz)) (va_A (LW G u E F) sz)) 0 0 (va_A (LW G u E F) sz) := by
  refine Met.ofW (cc := cL_look) (maxL := 11) (ret := none) (by decide) rfl ?_
  intro p e s m args below meth c s₁ B hml hv
  obtain ⟨rfl, hsz, hP, hK, hD0⟩ := hv
  have hx := B.exec
  have hb := B.bytes
  have hr := B.returns
  have hts := atoms_spec (ws := wsL_look) B.pre
  have hown : s.vm.findClass RL = some m.cls := findClass_of_methodNamed B.named
  have hlocks := B.notSynchronized
  subst hsz
  have hD := hD0.self (sz := s.heap.size)
  generalize hAe : va_A (LW G u E F) s.heap.size = A at hD ⊢
  have hA : ∀ q : Nat, s.heap.size ≤ q → A q := fun q h => by rw [← hAe]; exact Or.inr h
  have hS : va_S A s.heap s.heap [] := va_S.rf
  have hP : va_P G.1 vwCl [(u 0, .inl (G.2 1, 64, .inr (.inl E))), (u 1, .inl (G.2 0, 8, .inl (F 1))), (u 2, .inl (G.2 0, 3, .inl (F 2))), (u 3, .inl (G.2 0, 3, .inl (F 3))), (u 4, .inl (G.2 0, 40, .inl (F 4))), (u 5, .inl (G.2 0, 40, .inl (F 5))), (u 6, .inl (G.2 0, 9, .inl (F 6))), (u 7, .inl (G.2 0, 12, .inl (F 7))), (u 8, .inl (G.2 0, 12, .inl (F 8))), (u 9, .inl (G.2 0, 10, .inl (F 9)))] s.heap := hP
  have hD : va_D A [(u 0, .inl (G.2 1, 64, .inr (.inl E))), (u 1, .inl (G.2 0, 8, .inl (F 1))), (u 2, .inl (G.2 0, 3, .inl (F 2))), (u 3, .inl (G.2 0, 3, .inl (F 3))), (u 4, .inl (G.2 0, 40, .inl (F 4))), (u 5, .inl (G.2 0, 40, .inl (F 5))), (u 6, .inl (G.2 0, 9, .inl (F 6))), (u 7, .inl (G.2 0, 12, .inl (F 7))), (u 8, .inl (G.2 0, 12, .inl (F 8))), (u 9, .inl (G.2 0, 10, .inl (F 9)))] := hD
  have hl := lv_entry ([.ref (u 0), .ref (u 2), .ref (u 3), .ref (u 4), .ref (u 9)]) (n := 11) (Nat.le_of_ble_eq_true rfl)
  rw [lg_entry_eq]
  generalize (lg_sl ([.ref (u 0), .ref (u 2), .ref (u 3), .ref (u 4), .ref (u 9)]) ++ List.replicate (11 - (lg_sl ([.ref (u 0), .ref (u 2), .ref (u 3), .ref (u 4), .ref (u 9)])).length) Slot.unset).toArray = ls at hl ⊢
  have hl : lv_has ls 11 [(0, .ref (u 0)), (1, .ref (u 2)), (2, .ref (u 3)), (3, .ref (u 4)), (4, .ref (u 9))] := hl
  refine lv_iconst (v := 0) hx hb dL_look_0 (by decide) ?_
  refine lv_istore (lv' := [(5, .int 0), (0, .ref (u 0)), (1, .ref (u 2)), (2, .ref (u 3)), (3, .ref (u 4)), (4, .ref (u 9))]) hx hb dL_look_1 hl (by decide) rfl (fun ls hl => ?_)
  have key_3 : ∀ (n i : Nat), i ≤ N 3 → N 3 < i + n → ∀ (Ez : Nat → Int64) (Fz : Nat → Nat → Int32), sLR (sWatches i N T).1 (sWatches i N T).2 Ez Fz → ∀ (Hz : Heap) (Lz : List Loc), va_P G.1 vwCl [(u 0, .inl (G.2 1, 64, .inr (.inl Ez))), (u 1, .inl (G.2 0, 8, .inl (Fz 1))), (u 2, .inl (G.2 0, 3, .inl (Fz 2))), (u 3, .inl (G.2 0, 3, .inl (Fz 3))), (u 4, .inl (G.2 0, 40, .inl (Fz 4))), (u 5, .inl (G.2 0, 40, .inl (Fz 5))), (u 6, .inl (G.2 0, 9, .inl (Fz 6))), (u 7, .inl (G.2 0, 12, .inl (Fz 7))), (u 8, .inl (G.2 0, 12, .inl (Fz 8))), (u 9, .inl (G.2 0, 10, .inl (Fz 9)))] Hz → va_D A [(u 0, .inl (G.2 1, 64, .inr (.inl Ez))), (u 1, .inl (G.2 0, 8, .inl (Fz 1))), (u 2, .inl (G.2 0, 3, .inl (Fz 2))), (u 3, .inl (G.2 0, 3, .inl (Fz 3))), (u 4, .inl (G.2 0, 40, .inl (Fz 4))), (u 5, .inl (G.2 0, 40, .inl (Fz 5))), (u 6, .inl (G.2 0, 9, .inl (Fz 6))), (u 7, .inl (G.2 0, 12, .inl (Fz 7))), (u 8, .inl (G.2 0, 12, .inl (Fz 8))), (u 9, .inl (G.2 0, 10, .inl (Fz 9)))] → va_S A s.heap Hz Lz → ∀ ls : Array Slot, lv_has ls 11 [(0, .ref (u 0)), (1, .ref (u 2)), (2, .ref (u 3)), (3, .ref (u 4)), (4, .ref (u 9)), (5, .int (nI i))] → W p l e (headSpec wsL_look ({ frames := 3, cells := 0, slots := 0, locals := 71 })).room s m ([.ref (u 0), .ref (u 2), .ref (u 3), .ref (u 4), .ref (u 9)] : List Value).toArray below meth c Hz Lz 0 0 (MQ below (va_Qv (fun w1 : va_W => ∃ (E1 : Nat → Int64) (F1 : Nat → Nat → Int32), w1 = LW G u E1 F1 ∧ sLR (sWatches (N 3) N T).1 (sWatches (N 3) N T).2 E1 F1) (zB G A) A) ([.ref (u 0), .ref (u 2), .ref (u 3), .ref (u 4), .ref (u 9)] : List Value).toArray s 0 0 A) (F0 m 3 ls []) := by
    intro n
    induction n with
    | zero => intro i hi_a hi_b; exact absurd hi_b (by omega)
    | succ n ih =>
      intro i hil hin Ez  Fz  hRz Hz Lz hP hD hS ls hl
      obtain ⟨Nw, Tw, hst, hRw, hQw, hw3, hw1, hwA, hwZ⟩ := lk_facts hI hG hH hb1 h3 hL12 hil hRz
      obtain ⟨-, -, hR2w, hR3w, -, -, -, -, -, hR9w⟩ := id hRw
      have hq4 : Fz 9 4 = nI (N 3) := by rw [← hw3]; exact hR9w.2.2.2.2.1
      have hP : va_P G.1 vwCl [(u 0, .inl (G.2 1, 64, .inr (.inl Ez))), (u 1, .inl (G.2 0, 8, .inl (Fz 1))), (u 2, .inl (G.2 0, 3, .inl (Fz 2))), (u 3, .inl (G.2 0, 3, .inl (Fz 3))), (u 4, .inl (G.2 0, 40, .inl (Fz 4))), (u 5, .inl (G.2 0, 40, .inl (Fz 5))), (u 6, .inl (G.2 0, 9, .inl (Fz 6))), (u 7, .inl (G.2 0, 12, .inl (Fz 7))), (u 8, .inl (G.2 0, 12, .inl (Fz 8))), (u 9, .inl (G.2 0, 10, .inl (Fz 9)))] Hz := hP
      have hD : va_D A [(u 0, .inl (G.2 1, 64, .inr (.inl Ez))), (u 1, .inl (G.2 0, 8, .inl (Fz 1))), (u 2, .inl (G.2 0, 3, .inl (Fz 2))), (u 3, .inl (G.2 0, 3, .inl (Fz 3))), (u 4, .inl (G.2 0, 40, .inl (Fz 4))), (u 5, .inl (G.2 0, 40, .inl (Fz 5))), (u 6, .inl (G.2 0, 9, .inl (Fz 6))), (u 7, .inl (G.2 0, 12, .inl (Fz 7))), (u 8, .inl (G.2 0, 12, .inl (Fz 8))), (u 9, .inl (G.2 0, 10, .inl (Fz 9)))] := hD
      refine lv_iload hx hb dL_look_3 (lv_at hl 5 rfl) ?_
      refine lv_aload hx hb dL_look_5 (lv_at hl 4 rfl) ?_
      refine lv_iconst (v := 4) hx hb dL_look_7 (by decide) ?_
      refine va_iald hx hb hK hP 9 0 rfl rfl (vp_in_nI (n := 4) (by decide) (by decide)) dL_look_8 ?_
      refine W.eq (g2 := F0 m 9 ls [.int (nI (N 3)), .int (nI i)]) (by rw [show (Fz 9) (4 : Int32).toNatClampNeg = nI (N 3) from hq4]) ?_
      refine lv_icmp_ge (tgt := 210) hx hb dL_look_9 (by decide) (fun zc_1 => ?_) (fun zc_1 => ?_)
      · skip
        have zd_1 := Int32.not_lt.mpr zc_1
        have zhc := (nI_leI (by omega) (by omega)).mp zc_1
        have zie := Nat.le_antisymm hil zhc
        subst zie
        exact W.vret hx hb hr (fun t ht hW => ⟨⟨[(u 0, .inl (G.2 1, 64, .inr (.inl Ez))), (u 1, .inl (G.2 0, 8, .inl (Fz 1))), (u 2, .inl (G.2 0, 3, .inl (Fz 2))), (u 3, .inl (G.2 0, 3, .inl (Fz 3))), (u 4, .inl (G.2 0, 40, .inl (Fz 4))), (u 5, .inl (G.2 0, 40, .inl (Fz 5))), (u 6, .inl (G.2 0, 9, .inl (Fz 6))), (u 7, .inl (G.2 0, 12, .inl (Fz 7))), (u 8, .inl (G.2 0, 12, .inl (Fz 8))), (u 9, .inl (G.2 0, 10, .inl (Fz 9)))], rfl, ⟨_, _, rfl, hRz⟩, ⟨by rw [ht]; exact hP, hD⟩⟩, hS.F ht⟩) hS.2.2 dL_look_210
      · skip
        have zd_1 := Int32.not_le.mp zc_1
        have zhc := Nat.lt_of_not_le (fun z => zc_1 ((nI_leI (by omega) (by omega)).mpr z))
        have hwa := hwA zhc
        obtain ⟨⟨hdc1, hdc2, hdc3⟩, hdc4, hdc5, hdc6, hdc7⟩ := sPa_dec hwa
        refine lv_aload_n hx hb dL_look_12 rfl (lv_at hl 2 rfl) ?_
        refine lv_iload hx hb dL_look_13 (lv_at hl 5 rfl) ?_
        refine va_iald hx hb hK hP 3 0 rfl rfl (by first | assumption | exact vp_in_nI (by omega) (by omega)) dL_look_15 ?_
        refine W.eq (g2 := F0 m 16 ls [.int (sPa Tw i)]) (by first | (rw [nI_clamp (by omega), hR3w i (by omega)]; done) | (rw [nI_clamp (by omega), hR3w i (by omega)]; rfl)) ?_
        refine lv_bipush (v := 18) hx hb dL_look_16 (by decide) ?_
        refine lv_ishr hx hb dL_look_18 ?_
        refine W.eq (g2 := F0 m 19 ls [.int (Tw 16 i)]) (by first | (rw [hdc1]; done) | (rw [hdc1]; rfl)) ?_
        refine lv_istore (lv' := [(6, .int (Tw 16 i)), (0, .ref (u 0)), (1, .ref (u 2)), (2, .ref (u 3)), (3, .ref (u 4)), (4, .ref (u 9)), (5, .int (nI i))]) hx hb dL_look_19 hl (by decide) rfl (fun ls hl => ?_)
        refine lv_aload_n hx hb dL_look_21 rfl (lv_at hl 2 rfl) ?_
        refine lv_aload_n hx hb dL_look_22 rfl (lv_at hl 3 rfl) ?_
        refine lv_iload hx hb dL_look_23 (lv_at hl 6 rfl) ?_
        refine va_iald hx hb hK hP 3 0 rfl rfl (by first | assumption | exact vp_in_nI (by omega) (by omega)) dL_look_25 ?_
        refine W.eq (g2 := F0 m 26 ls [.int (sPa Tw i), .ref (u 2)]) (by first | (rw [nI_clamp (by omega), hR3w i (by omega)]; done) | (rw [nI_clamp (by omega), hR3w i (by omega)]; rfl)) ?_
        refine lv_iconst (v := 3) hx hb dL_look_26 (by decide) ?_
        refine lv_iand hx hb dL_look_27 ?_
        refine W.eq (g2 := F0 m 28 ls [.int (Tw 11 i), .ref (u 2)]) (by first | (rw [hdc2]; done) | (rw [hdc2]; rfl)) ?_
        refine va_iald hx hb hK hP 2 0 rfl rfl hwa.1 dL_look_28 ?_
        refine W.eq (g2 := F0 m 29 ls [.int (Tw 6 (Tw 11 i).toNatClampNeg)]) (by first | (rw [hR2w _ (zCl hwa.1 (by omega)).1]; done) | (rw [hR2w _ (zCl hwa.1 (by omega)).1]; rfl)) ?_
        refine lv_istore (lv' := [(7, .int (Tw 6 (Tw 11 i).toNatClampNeg)), (6, .int (Tw 16 i)), (0, .ref (u 0)), (1, .ref (u 2)), (2, .ref (u 3)), (3, .ref (u 4)), (4, .ref (u 9)), (5, .int (nI i))]) hx hb dL_look_29 hl (by decide) rfl (fun ls hl => ?_)
        refine lv_aload_n hx hb dL_look_31 rfl (lv_at hl 4 rfl) ?_
        refine lv_iload hx hb dL_look_32 (lv_at hl 7 rfl) ?_
        refine va_iald hx hb hK hP 3 0 rfl rfl (by first | assumption | exact vp_in_nI (by omega) (by omega)) dL_look_34 ?_
        refine W.eq (g2 := F0 m 35 ls [.int (sPa Tw i)]) (by first | (rw [nI_clamp (by omega), hR3w i (by omega)]; done) | (rw [nI_clamp (by omega), hR3w i (by omega)]; rfl)) ?_
        refine lv_bipush (v := 7) hx hb dL_look_35 (by decide) ?_
        refine lv_ishr hx hb dL_look_37 ?_
        refine lv_sipush (v := 2047) hx hb dL_look_38 (by decide) ?_
        refine lv_iand hx hb dL_look_41 ?_
        refine W.eq (g2 := F0 m 42 ls [.int (Tw 12 i)]) (by first | (rw [hdc3]; done) | (rw [hdc3]; rfl)) ?_
        refine lv_istore (lv' := [(8, .int (Tw 12 i)), (7, .int (Tw 6 (Tw 11 i).toNatClampNeg)), (6, .int (Tw 16 i)), (0, .ref (u 0)), (1, .ref (u 2)), (2, .ref (u 3)), (3, .ref (u 4)), (4, .ref (u 9)), (5, .int (nI i))]) hx hb dL_look_42 hl (by decide) rfl (fun ls hl => ?_)
        refine lv_aload_n hx hb dL_look_44 rfl (lv_at hl 5 rfl) ?_
        refine lv_iload hx hb dL_look_45 (lv_at hl 8 rfl) ?_
        refine va_iald hx hb hK hP 3 0 rfl rfl (by first | assumption | exact vp_in_nI (by omega) (by omega)) dL_look_47 ?_
        refine W.eq (g2 := F0 m 48 ls [.int (sPa Tw i)]) (by first | (rw [nI_clamp (by omega), hR3w i (by omega)]; done) | (rw [nI_clamp (by omega), hR3w i (by omega)]; rfl)) ?_
        refine lv_iconst (v := 3) hx hb dL_look_48 (by decide) ?_
        refine lv_ishr hx hb dL_look_49 ?_
        refine lv_bipush (v := 7) hx hb dL_look_50 (by decide) ?_
        refine lv_iand hx hb dL_look_52 ?_
        refine W.eq (g2 := F0 m 53 ls [.int (Tw 14 i)]) (by first | (rw [hdc4]; done) | (rw [hdc4]; rfl)) ?_
        refine lv_istore (lv' := [(9, .int (Tw 14 i)), (8, .int (Tw 12 i)), (7, .int (Tw 6 (Tw 11 i).toNatClampNeg)), (6, .int (Tw 16 i)), (0, .ref (u 0)), (1, .ref (u 2)), (2, .ref (u 3)), (3, .ref (u 4)), (4, .ref (u 9)), (5, .int (nI i))]) hx hb dL_look_53 hl (by decide) rfl (fun ls hl => ?_)
        refine lv_aload_n hx hb dL_look_55 rfl (lv_at hl 6 rfl) ?_
        refine lv_iload hx hb dL_look_56 (lv_at hl 9 rfl) ?_
        refine va_iald hx hb hK hP 3 0 rfl rfl (by first | assumption | exact vp_in_nI (by omega) (by omega)) dL_look_58 ?_
        refine W.eq (g2 := F0 m 59 ls [.int (sPa Tw i)]) (by first | (rw [nI_clamp (by omega), hR3w i (by omega)]; done) | (rw [nI_clamp (by omega), hR3w i (by omega)]; rfl)) ?_
        refine lv_bipush (v := 6) hx hb dL_look_59 (by decide) ?_
        refine lv_ishr hx hb dL_look_61 ?_
        refine lv_iconst (v := 1) hx hb dL_look_62 (by decide) ?_
        refine lv_iand hx hb dL_look_63 ?_
        refine W.eq (g2 := F0 m 64 ls [.int (Tw 15 i)]) (by first | (rw [hdc5]; done) | (rw [hdc5]; rfl)) ?_
        refine lv_iconst (v := 1) hx hb dL_look_64 (by decide) ?_
        have cut_73 : W p l e (headSpec wsL_look ({ frames := 3, cells := 0, slots := 0, locals := 71 })).room s m ([.ref (u 0), .ref (u 2), .ref (u 3), .ref (u 4), .ref (u 9)] : List Value).toArray below meth c Hz Lz 0 0 (MQ below (va_Qv (fun w1 : va_W => ∃ (E1 : Nat → Int64) (F1 : Nat → Nat → Int32), w1 = LW G u E1 F1 ∧ sLR (sWatches (N 3) N T).1 (sWatches (N 3) N T).2 E1 F1) (zB G A) A) ([.ref (u 0), .ref (u 2), .ref (u 3), .ref (u 4), .ref (u 9)] : List Value).toArray s 0 0 A) (F0 m 73 ls [.int (zb (decide (Tw 15 i = 1)))]) := by
          refine lv_istore (lv' := [(10, .int (zb (decide (Tw 15 i = 1)))), (9, .int (Tw 14 i)), (8, .int (Tw 12 i)), (7, .int (Tw 6 (Tw 11 i).toNatClampNeg)), (6, .int (Tw 16 i)), (0, .ref (u 0)), (1, .ref (u 2)), (2, .ref (u 3)), (3, .ref (u 4)), (4, .ref (u 9)), (5, .int (nI i))]) hx hb dL_look_73 hl (by decide) rfl (fun ls hl => ?_)
          refine lv_aload_n hx hb dL_look_75 rfl (lv_at hl 7 rfl) ?_
          refine lv_iload hx hb dL_look_76 (lv_at hl 10 rfl) ?_
          refine lv_dup2_11 hx hb dL_look_78 rfl rfl ?_
          refine va_iald hx hb hK hP 3 0 rfl rfl (by first | assumption | exact vp_in_nI (by omega) (by omega)) dL_look_79 ?_
          refine W.eq (g2 := F0 m 80 ls [.int (sPa Tw i), .int (nI i), .ref (u 3)]) (by first | (rw [nI_clamp (by omega), hR3w i (by omega)]; done) | (rw [nI_clamp (by omega), hR3w i (by omega)]; rfl)) ?_
          refine lv_ldc (v := 262143) hx hb hown (hts _ (List.mem_of_getElem? (i := 1) rfl)) dL_look_80 ?_
          refine lv_iand hx hb dL_look_82 ?_
          refine W.eq (g2 := F0 m 83 ls [.int (sPb Tw i), .int (nI i), .ref (u 3)]) (by first | (rw [hdc6]; done) | (rw [hdc6]; rfl)) ?_
          refine va_iast hx hb hK hP hD hS 3 0 rfl rfl (by first | assumption | exact sIx_in.mp (by assumption) | exact vp_in_nI (by omega) (by omega)) dL_look_83 (fun Hz Lz hP hD hS => ?_)
          rw [nI_clamp (by omega)] at hP hD
          have hP : va_P G.1 vwCl [(u 0, .inl (G.2 1, 64, .inr (.inl Ez))), (u 1, .inl (G.2 0, 8, .inl (Fz 1))), (u 2, .inl (G.2 0, 3, .inl (Fz 2))), (u 3, .inl (G.2 0, 3, .inl (upd (Fz 3) i (sPb Tw i)))), (u 4, .inl (G.2 0, 40, .inl (Fz 4))), (u 5, .inl (G.2 0, 40, .inl (Fz 5))), (u 6, .inl (G.2 0, 9, .inl (Fz 6))), (u 7, .inl (G.2 0, 12, .inl (Fz 7))), (u 8, .inl (G.2 0, 12, .inl (Fz 8))), (u 9, .inl (G.2 0, 10, .inl (Fz 9)))] Hz := hP
          have hD : va_D A [(u 0, .inl (G.2 1, 64, .inr (.inl Ez))), (u 1, .inl (G.2 0, 8, .inl (Fz 1))), (u 2, .inl (G.2 0, 3, .inl (Fz 2))), (u 3, .inl (G.2 0, 3, .inl (upd (Fz 3) i (sPb Tw i)))), (u 4, .inl (G.2 0, 40, .inl (Fz 4))), (u 5, .inl (G.2 0, 40, .inl (Fz 5))), (u 6, .inl (G.2 0, 9, .inl (Fz 6))), (u 7, .inl (G.2 0, 12, .inl (Fz 7))), (u 8, .inl (G.2 0, 12, .inl (Fz 8))), (u 9, .inl (G.2 0, 10, .inl (Fz 9)))] := hD
          refine lv_aload_n hx hb dL_look_84 rfl (lv_at hl 7 rfl) ?_
          refine lv_iload hx hb dL_look_85 (lv_at hl 10 rfl) ?_
          refine va_iald hx hb hK hP 3 0 rfl rfl (by first | assumption | exact vp_in_nI (by omega) (by omega)) dL_look_87 ?_
          refine W.eq (g2 := F0 m 88 ls [.int (sPb Tw i)]) (by first | (rw [nI_clamp (by omega), upd_at]; done) | (rw [nI_clamp (by omega), upd_at]; rfl)) ?_
          refine lv_iconst (v := 4) hx hb dL_look_88 (by decide) ?_
          refine lv_iand hx hb dL_look_89 ?_
          refine W.eq (g2 := F0 m 90 ls [.int (if Tw 13 i = 0 then (0 : Int32) else 4)]) (by first | (rw [hdc7]; done) | (rw [hdc7]; rfl)) ?_
          refine lv_if_le (tgt := 103) hx hb dL_look_90 (by decide) (fun zc_2 => ?_) (fun zc_2 => ?_)
          · skip
            have zd_2 := Int32.not_lt.mpr zc_2
            have h13 := z13.mp zc_2
            refine lv_iload hx hb dL_look_103 (lv_at hl 3 rfl) ?_
            refine lv_iload hx hb dL_look_105 (lv_at hl 2 rfl) ?_
            refine lv_icmp_le (tgt := 113) hx hb dL_look_107 (by decide) (fun zc_3 => ?_) (fun zc_3 => ?_)
            · skip
              have zd_3 := Int32.not_lt.mpr zc_3
              have hmet : sMet Tw i = true := by rw [sMet, if_pos h13]; exact decide_eq_true zc_3
              refine lv_iload hx hb dL_look_113 (lv_at hl 4 rfl) ?_
              refine lv_if_ne (tgt := 128) hx hb dL_look_115 (by decide) (fun zc_4 => ?_) (fun zc_4 => ?_)
              · skip
                have hs16 := zc_4
                have hQc := hQw.f3 (upd (Fz 3) i (sPb Tw i))
                have hra := sRaise_n (N := Nw) hs16
                refine lv_iload hx hb dL_look_128 (lv_at hl 4 rfl) ?_
                refine lv_iconst (v := 1) hx hb dL_look_130 (by decide) ?_
                refine lv_icmp_eq (tgt := 184) hx hb dL_look_131 (by decide) (fun zc_5 => ?_) (fun zc_5 => ?_)
                · skip
                  have hs1 := zc_5
                  refine lv_aload_n hx hb dL_look_184 rfl (lv_at hl 7 rfl) ?_
                  refine lv_iload hx hb dL_look_185 (lv_at hl 10 rfl) ?_
                  refine lv_dup2_11 hx hb dL_look_187 rfl rfl ?_
                  refine va_iald hx hb hK hP 3 0 rfl rfl (by first | assumption | exact vp_in_nI (by omega) (by omega)) dL_look_188 ?_
                  refine W.eq (g2 := F0 m 189 ls [.int (sPb Tw i), .int (nI i), .ref (u 3)]) (by first | (rw [nI_clamp (by omega), upd_at]; done) | (rw [nI_clamp (by omega), upd_at]; rfl)) ?_
                  refine lv_iload hx hb dL_look_189 (lv_at hl 4 rfl) ?_
                  refine lv_iconst (v := 1) hx hb dL_look_191 (by decide) ?_
                  refine lv_icmp_ne (tgt := 200) hx hb dL_look_192 (by decide) (fun zc_6 => ?_) (fun zc_6 => ?_)
                  · skip
                    exact absurd hs1 zc_6
                  · skip
                    refine lv_ldc (v := 262144) hx hb hown (hts _ (List.mem_of_getElem? (i := 2) rfl)) dL_look_195 ?_
                    refine lv_goto (tgt := 202) hx hb dL_look_197 (by decide) ?_
                    refine lv_iadd hx hb dL_look_202 ?_
                    refine va_iast hx hb hK hP hD hS 3 0 rfl rfl (by first | assumption | exact sIx_in.mp (by assumption) | exact vp_in_nI (by omega) (by omega)) dL_look_203 (fun Hz Lz hP hD hS => ?_)
                    rw [nI_clamp (by omega)] at hP hD
                    have hP : va_P G.1 vwCl [(u 0, .inl (G.2 1, 64, .inr (.inl Ez))), (u 1, .inl (G.2 0, 8, .inl (Fz 1))), (u 2, .inl (G.2 0, 3, .inl (Fz 2))), (u 3, .inl (G.2 0, 3, .inl (upd (upd (Fz 3) i (sPb Tw i)) i ((sPb Tw i) + 262144)))), (u 4, .inl (G.2 0, 40, .inl (Fz 4))), (u 5, .inl (G.2 0, 40, .inl (Fz 5))), (u 6, .inl (G.2 0, 9, .inl (Fz 6))), (u 7, .inl (G.2 0, 12, .inl (Fz 7))), (u 8, .inl (G.2 0, 12, .inl (Fz 8))), (u 9, .inl (G.2 0, 10, .inl (Fz 9)))] Hz := hP
                    have hD : va_D A [(u 0, .inl (G.2 1, 64, .inr (.inl Ez))), (u 1, .inl (G.2 0, 8, .inl (Fz 1))), (u 2, .inl (G.2 0, 3, .inl (Fz 2))), (u 3, .inl (G.2 0, 3, .inl (upd (upd (Fz 3) i (sPb Tw i)) i ((sPb Tw i) + 262144)))), (u 4, .inl (G.2 0, 40, .inl (Fz 4))), (u 5, .inl (G.2 0, 40, .inl (Fz 5))), (u 6, .inl (G.2 0, 9, .inl (Fz 6))), (u 7, .inl (G.2 0, 12, .inl (Fz 7))), (u 8, .inl (G.2 0, 12, .inl (Fz 8))), (u 9, .inl (G.2 0, 10, .inl (Fz 9)))] := hD
                    rw [upd_twice] at hP hD
                    have hP : va_P G.1 vwCl [(u 0, .inl (G.2 1, 64, .inr (.inl Ez))), (u 1, .inl (G.2 0, 8, .inl (Fz 1))), (u 2, .inl (G.2 0, 3, .inl (Fz 2))), (u 3, .inl (G.2 0, 3, .inl (upd (Fz 3) i ((sPb Tw i) + 262144)))), (u 4, .inl (G.2 0, 40, .inl (Fz 4))), (u 5, .inl (G.2 0, 40, .inl (Fz 5))), (u 6, .inl (G.2 0, 9, .inl (Fz 6))), (u 7, .inl (G.2 0, 12, .inl (Fz 7))), (u 8, .inl (G.2 0, 12, .inl (Fz 8))), (u 9, .inl (G.2 0, 10, .inl (Fz 9)))] Hz := hP
                    have hD : va_D A [(u 0, .inl (G.2 1, 64, .inr (.inl Ez))), (u 1, .inl (G.2 0, 8, .inl (Fz 1))), (u 2, .inl (G.2 0, 3, .inl (Fz 2))), (u 3, .inl (G.2 0, 3, .inl (upd (Fz 3) i ((sPb Tw i) + 262144)))), (u 4, .inl (G.2 0, 40, .inl (Fz 4))), (u 5, .inl (G.2 0, 40, .inl (Fz 5))), (u 6, .inl (G.2 0, 9, .inl (Fz 6))), (u 7, .inl (G.2 0, 12, .inl (Fz 7))), (u 8, .inl (G.2 0, 12, .inl (Fz 8))), (u 9, .inl (G.2 0, 10, .inl (Fz 9)))] := hD
                    have heqw : sWatch Nw Tw i = (Nw, Tw) := sWatch_an hmet hs1
                    have hRn : sLR (sWatches (i + 1) N T).1 (sWatches (i + 1) N T).2 Ez (va_up Fz 3 (upd (Fz 3) i ((sPb Tw i) + 262144))) := by
                      show sLR (sWatch (sWatches i N T).1 (sWatches i N T).2 i).1 (sWatch (sWatches i N T).1 (sWatches i N T).2 i).2 _ _
                      rw [hst]
                      exact sLR_w (i := i) hRw sWatch_keep sWatch_6.1 sWatch_6.2.1 sWatch_6.2.2.1 (by rw [heqw]; exact hRw.1) (fun k hk3 hk9 => by simp [va_up, hk3, hk9]) (fun j => by rw [heqw]; exact nt0 hR9w.2.1) (by rw [heqw]; show (upd (Fz 3) i ((sPb Tw i) + 262144)) = upd (Fz 3) i (sPb Tw i + 262144 * Tw 16 i); rw [hs1, Int32.mul_one]) (fun a ha => by rw [heqw])
                    refine lv_iinc (v := (nI (i + 1))) (lv' := [(5, .int (nI (i + 1))), (10, .int (zb (decide (Tw 15 i = 1)))), (9, .int (Tw 14 i)), (8, .int (Tw 12 i)), (7, .int (Tw 6 (Tw 11 i).toNatClampNeg)), (6, .int (Tw 16 i)), (0, .ref (u 0)), (1, .ref (u 2)), (2, .ref (u 3)), (3, .ref (u 4)), (4, .ref (u 9))]) hx hb dL_look_204 hl (k := 10) rfl (by first | exact nI_1 _ | rfl) (by decide) rfl (fun ls hl => ?_)
                    refine lv_goto (tgt := 3) hx hb dL_look_207 (by decide) ?_
                    have hl2 := lv_sub (l' := [(0, .ref (u 0)), (1, .ref (u 2)), (2, .ref (u 3)), (3, .ref (u 4)), (4, .ref (u 9)), (5, .int (nI (i + 1)))]) hl [6, 7, 8, 9, 10, 0] rfl
                    exact ih (i + 1) (by omega) (by omega) _ _ hRn _ _ hP hD hS ls hl2
                · skip
                  have hs1 := zc_5
                  refine lv_aload_n hx hb dL_look_134 rfl (lv_at hl 5 rfl) ?_
                  refine lv_aload_n hx hb dL_look_135 rfl (lv_at hl 8 rfl) ?_
                  refine lv_aload hx hb dL_look_136 (lv_at hl 9 rfl) ?_
                  refine lv_iload hx hb dL_look_138 (lv_at hl 1 rfl) ?_
                  refine z_csi (va_Run.run (va_runS (As := [.ref (u 0), .ref (u 4), .ref (u 9), .int (Tw 14 i)]) (rest := []) ⟨hx, hb, hml, hown, hts⟩ (c_L_hanging l G u Ez (va_up Fz 3 (upd (Fz 3) i (sPb Tw i))) Nw Tw (Tw 14 i) hQc) (va_cwS 4 hts gL_look_L_hanging rfl rfl rfl (by decide +kernel) ⟨Nat.le_of_ble_eq_true rfl, Nat.le_of_ble_eq_true rfl⟩) (z_ps hK hP) rfl rfl hl.1 rfl (lv_room (Nat.le_of_ble_eq_true rfl)) dL_look_140 ⟨(Nat.zero_le _), (Nat.zero_le _)⟩)) (fun zr_7 hzr_7 => ?_)
                  subst hzr_7
                  refine lv_if_ne (tgt := 184) hx hb dL_look_143 (by decide) (fun zc_8 => ?_) (fun zc_8 => ?_)
                  · skip
                    have hon : ¬ sOn Nw Tw (Tw 14 i) = 0 := fun z => zc_8 (by rw [z]; rfl)
                    refine lv_aload_n hx hb dL_look_184 rfl (lv_at hl 7 rfl) ?_
                    refine lv_iload hx hb dL_look_185 (lv_at hl 10 rfl) ?_
                    refine lv_dup2_11 hx hb dL_look_187 rfl rfl ?_
                    refine va_iald hx hb hK hP 3 0 rfl rfl (by first | assumption | exact vp_in_nI (by omega) (by omega)) dL_look_188 ?_
                    refine W.eq (g2 := F0 m 189 ls [.int (sPb Tw i), .int (nI i), .ref (u 3)]) (by first | (rw [nI_clamp (by omega), upd_at]; done) | (rw [nI_clamp (by omega), upd_at]; rfl)) ?_
                    refine lv_iload hx hb dL_look_189 (lv_at hl 4 rfl) ?_
                    refine lv_iconst (v := 1) hx hb dL_look_191 (by decide) ?_
                    refine lv_icmp_ne (tgt := 200) hx hb dL_look_192 (by decide) (fun zc_9 => ?_) (fun zc_9 => ?_)
                    · skip
                      refine lv_ldc (v := 524288) hx hb hown (hts _ (List.mem_of_getElem? (i := 3) rfl)) dL_look_200 ?_
                      refine lv_iadd hx hb dL_look_202 ?_
                      refine va_iast hx hb hK hP hD hS 3 0 rfl rfl (by first | assumption | exact sIx_in.mp (by assumption) | exact vp_in_nI (by omega) (by omega)) dL_look_203 (fun Hz Lz hP hD hS => ?_)
                      rw [nI_clamp (by omega)] at hP hD
                      have hP : va_P G.1 vwCl [(u 0, .inl (G.2 1, 64, .inr (.inl Ez))), (u 1, .inl (G.2 0, 8, .inl (Fz 1))), (u 2, .inl (G.2 0, 3, .inl (Fz 2))), (u 3, .inl (G.2 0, 3, .inl (upd (upd (Fz 3) i (sPb Tw i)) i ((sPb Tw i) + 524288)))), (u 4, .inl (G.2 0, 40, .inl (Fz 4))), (u 5, .inl (G.2 0, 40, .inl (Fz 5))), (u 6, .inl (G.2 0, 9, .inl (Fz 6))), (u 7, .inl (G.2 0, 12, .inl (Fz 7))), (u 8, .inl (G.2 0, 12, .inl (Fz 8))), (u 9, .inl (G.2 0, 10, .inl (Fz 9)))] Hz := hP
                      have hD : va_D A [(u 0, .inl (G.2 1, 64, .inr (.inl Ez))), (u 1, .inl (G.2 0, 8, .inl (Fz 1))), (u 2, .inl (G.2 0, 3, .inl (Fz 2))), (u 3, .inl (G.2 0, 3, .inl (upd (upd (Fz 3) i (sPb Tw i)) i ((sPb Tw i) + 524288)))), (u 4, .inl (G.2 0, 40, .inl (Fz 4))), (u 5, .inl (G.2 0, 40, .inl (Fz 5))), (u 6, .inl (G.2 0, 9, .inl (Fz 6))), (u 7, .inl (G.2 0, 12, .inl (Fz 7))), (u 8, .inl (G.2 0, 12, .inl (Fz 8))), (u 9, .inl (G.2 0, 10, .inl (Fz 9)))] := hD
                      rw [upd_twice] at hP hD
                      have hP : va_P G.1 vwCl [(u 0, .inl (G.2 1, 64, .inr (.inl Ez))), (u 1, .inl (G.2 0, 8, .inl (Fz 1))), (u 2, .inl (G.2 0, 3, .inl (Fz 2))), (u 3, .inl (G.2 0, 3, .inl (upd (Fz 3) i ((sPb Tw i) + 524288)))), (u 4, .inl (G.2 0, 40, .inl (Fz 4))), (u 5, .inl (G.2 0, 40, .inl (Fz 5))), (u 6, .inl (G.2 0, 9, .inl (Fz 6))), (u 7, .inl (G.2 0, 12, .inl (Fz 7))), (u 8, .inl (G.2 0, 12, .inl (Fz 8))), (u 9, .inl (G.2 0, 10, .inl (Fz 9)))] Hz := hP
                      have hD : va_D A [(u 0, .inl (G.2 1, 64, .inr (.inl Ez))), (u 1, .inl (G.2 0, 8, .inl (Fz 1))), (u 2, .inl (G.2 0, 3, .inl (Fz 2))), (u 3, .inl (G.2 0, 3, .inl (upd (Fz 3) i ((sPb Tw i) + 524288)))), (u 4, .inl (G.2 0, 40, .inl (Fz 4))), (u 5, .inl (G.2 0, 40, .inl (Fz 5))), (u 6, .inl (G.2 0, 9, .inl (Fz 6))), (u 7, .inl (G.2 0, 12, .inl (Fz 7))), (u 8, .inl (G.2 0, 12, .inl (Fz 8))), (u 9, .inl (G.2 0, 10, .inl (Fz 9)))] := hD
                      have heqw : sWatch Nw Tw i = (Nw, va_up Tw 16 (upd (Tw 16) i 2)) := by rw [sWatch_go hmet hs1, hra]; exact sWatch1_w hon
                      have hRn : sLR (sWatches (i + 1) N T).1 (sWatches (i + 1) N T).2 Ez (va_up Fz 3 (upd (Fz 3) i ((sPb Tw i) + 524288))) := by
                        show sLR (sWatch (sWatches i N T).1 (sWatches i N T).2 i).1 (sWatch (sWatches i N T).1 (sWatches i N T).2 i).2 _ _
                        rw [hst]
                        exact sLR_w (i := i) hRw sWatch_keep sWatch_6.1 sWatch_6.2.1 sWatch_6.2.2.1 (by rw [heqw]; exact hRw.1) (fun k hk3 hk9 => by simp [va_up, hk3, hk9]) (fun j => by rw [heqw]; exact nt0 hR9w.2.1) (by rw [heqw]; show (upd (Fz 3) i ((sPb Tw i) + 524288)) = upd (Fz 3) i (sPb Tw i + 262144 * upd (Tw 16) i 2 i); rw [upd_at, show (262144 : Int32) * 2 = 524288 from by decide]) (fun a ha => by rw [heqw]; exact upd_no ha)
                      refine lv_iinc (v := (nI (i + 1))) (lv' := [(5, .int (nI (i + 1))), (10, .int (zb (decide (Tw 15 i = 1)))), (9, .int (Tw 14 i)), (8, .int (Tw 12 i)), (7, .int (Tw 6 (Tw 11 i).toNatClampNeg)), (6, .int (Tw 16 i)), (0, .ref (u 0)), (1, .ref (u 2)), (2, .ref (u 3)), (3, .ref (u 4)), (4, .ref (u 9))]) hx hb dL_look_204 hl (k := 10) rfl (by first | exact nI_1 _ | rfl) (by decide) rfl (fun ls hl => ?_)
                      refine lv_goto (tgt := 3) hx hb dL_look_207 (by decide) ?_
                      have hl2 := lv_sub (l' := [(0, .ref (u 0)), (1, .ref (u 2)), (2, .ref (u 3)), (3, .ref (u 4)), (4, .ref (u 9)), (5, .int (nI (i + 1)))]) hl [6, 7, 8, 9, 10, 0] rfl
                      exact ih (i + 1) (by omega) (by omega) _ _ hRn _ _ hP hD hS ls hl2
                    · skip
                      exact absurd zc_9 hs1
                  · skip
                    have hon : sOn Nw Tw (Tw 14 i) = 0 := (nI_eq (b := 0) (Nat.lt_of_le_of_lt (sCnt_le _ _) (by have := hQc.2.1.2.1; omega)) (by omega)).mp zc_8
                    refine lv_aload_n hx hb dL_look_146 rfl (lv_at hl 5 rfl) ?_
                    refine lv_aload hx hb dL_look_147 (lv_at hl 9 rfl) ?_
                    refine lv_iload hx hb dL_look_149 (lv_at hl 1 rfl) ?_
                    refine z_csi (va_Run.run (va_runS (As := [.ref (u 0), .ref (u 9), .int (Tw 14 i)]) (rest := []) ⟨hx, hb, hml, hown, hts⟩ (c_L_opened l G u Ez (va_up Fz 3 (upd (Fz 3) i (sPb Tw i))) Nw Tw (Tw 14 i) hQc hwa.2.2.1) (va_cwS 3 hts gL_look_L_opened rfl rfl rfl (by decide +kernel) ⟨Nat.le_of_ble_eq_true rfl, Nat.le_of_ble_eq_true rfl⟩) (z_ps hK hP) rfl rfl hl.1 rfl (lv_room (Nat.le_of_ble_eq_true rfl)) dL_look_151 ⟨(Nat.zero_le _), (Nat.zero_le _)⟩)) (fun zr_10 hzr_10 => ?_)
                    subst hzr_10
                    refine lv_iload hx hb dL_look_154 (lv_at hl 0 rfl) ?_
                    refine lv_icmp_eq (tgt := 181) hx hb dL_look_156 (by decide) (fun zc_11 => ?_) (fun zc_11 => ?_)
                    · skip
                      have h3e := zc_11
                      refine lv_iconst (v := 1) hx hb dL_look_181 (by decide) ?_
                      refine lv_istore (lv' := [(6, .int 1), (10, .int (zb (decide (Tw 15 i = 1)))), (9, .int (Tw 14 i)), (8, .int (Tw 12 i)), (7, .int (Tw 6 (Tw 11 i).toNatClampNeg)), (0, .ref (u 0)), (1, .ref (u 2)), (2, .ref (u 3)), (3, .ref (u 4)), (4, .ref (u 9)), (5, .int (nI i))]) hx hb dL_look_182 hl (by decide) rfl (fun ls hl => ?_)
                      refine lv_aload_n hx hb dL_look_184 rfl (lv_at hl 7 rfl) ?_
                      refine lv_iload hx hb dL_look_185 (lv_at hl 10 rfl) ?_
                      refine lv_dup2_11 hx hb dL_look_187 rfl rfl ?_
                      refine va_iald hx hb hK hP 3 0 rfl rfl (by first | assumption | exact vp_in_nI (by omega) (by omega)) dL_look_188 ?_
                      refine W.eq (g2 := F0 m 189 ls [.int (sPb Tw i), .int (nI i), .ref (u 3)]) (by first | (rw [nI_clamp (by omega), upd_at]; done) | (rw [nI_clamp (by omega), upd_at]; rfl)) ?_
                      refine lv_iload hx hb dL_look_189 (lv_at hl 0 rfl) ?_
                      refine lv_iconst (v := 1) hx hb dL_look_191 (by decide) ?_
                      refine lv_icmp_ne (tgt := 200) hx hb dL_look_192 (by decide) (fun zc_12 => absurd zc_12 (by decide)) (fun _ => ?_)
                      refine lv_ldc (v := 262144) hx hb hown (hts _ (List.mem_of_getElem? (i := 2) rfl)) dL_look_195 ?_
                      refine lv_goto (tgt := 202) hx hb dL_look_197 (by decide) ?_
                      refine lv_iadd hx hb dL_look_202 ?_
                      refine va_iast hx hb hK hP hD hS 3 0 rfl rfl (by first | assumption | exact sIx_in.mp (by assumption) | exact vp_in_nI (by omega) (by omega)) dL_look_203 (fun Hz Lz hP hD hS => ?_)
                      rw [nI_clamp (by omega)] at hP hD
                      have hP : va_P G.1 vwCl [(u 0, .inl (G.2 1, 64, .inr (.inl Ez))), (u 1, .inl (G.2 0, 8, .inl (Fz 1))), (u 2, .inl (G.2 0, 3, .inl (Fz 2))), (u 3, .inl (G.2 0, 3, .inl (upd (upd (Fz 3) i (sPb Tw i)) i ((sPb Tw i) + 262144)))), (u 4, .inl (G.2 0, 40, .inl (Fz 4))), (u 5, .inl (G.2 0, 40, .inl (Fz 5))), (u 6, .inl (G.2 0, 9, .inl (Fz 6))), (u 7, .inl (G.2 0, 12, .inl (Fz 7))), (u 8, .inl (G.2 0, 12, .inl (Fz 8))), (u 9, .inl (G.2 0, 10, .inl (Fz 9)))] Hz := hP
                      have hD : va_D A [(u 0, .inl (G.2 1, 64, .inr (.inl Ez))), (u 1, .inl (G.2 0, 8, .inl (Fz 1))), (u 2, .inl (G.2 0, 3, .inl (Fz 2))), (u 3, .inl (G.2 0, 3, .inl (upd (upd (Fz 3) i (sPb Tw i)) i ((sPb Tw i) + 262144)))), (u 4, .inl (G.2 0, 40, .inl (Fz 4))), (u 5, .inl (G.2 0, 40, .inl (Fz 5))), (u 6, .inl (G.2 0, 9, .inl (Fz 6))), (u 7, .inl (G.2 0, 12, .inl (Fz 7))), (u 8, .inl (G.2 0, 12, .inl (Fz 8))), (u 9, .inl (G.2 0, 10, .inl (Fz 9)))] := hD
                      rw [upd_twice] at hP hD
                      have hP : va_P G.1 vwCl [(u 0, .inl (G.2 1, 64, .inr (.inl Ez))), (u 1, .inl (G.2 0, 8, .inl (Fz 1))), (u 2, .inl (G.2 0, 3, .inl (Fz 2))), (u 3, .inl (G.2 0, 3, .inl (upd (Fz 3) i ((sPb Tw i) + 262144)))), (u 4, .inl (G.2 0, 40, .inl (Fz 4))), (u 5, .inl (G.2 0, 40, .inl (Fz 5))), (u 6, .inl (G.2 0, 9, .inl (Fz 6))), (u 7, .inl (G.2 0, 12, .inl (Fz 7))), (u 8, .inl (G.2 0, 12, .inl (Fz 8))), (u 9, .inl (G.2 0, 10, .inl (Fz 9)))] Hz := hP
                      have hD : va_D A [(u 0, .inl (G.2 1, 64, .inr (.inl Ez))), (u 1, .inl (G.2 0, 8, .inl (Fz 1))), (u 2, .inl (G.2 0, 3, .inl (Fz 2))), (u 3, .inl (G.2 0, 3, .inl (upd (Fz 3) i ((sPb Tw i) + 262144)))), (u 4, .inl (G.2 0, 40, .inl (Fz 4))), (u 5, .inl (G.2 0, 40, .inl (Fz 5))), (u 6, .inl (G.2 0, 9, .inl (Fz 6))), (u 7, .inl (G.2 0, 12, .inl (Fz 7))), (u 8, .inl (G.2 0, 12, .inl (Fz 8))), (u 9, .inl (G.2 0, 10, .inl (Fz 9)))] := hD
                      have heqw : sWatch Nw Tw i = (Nw, va_up Tw 16 (upd (Tw 16) i 1)) := by rw [sWatch_go hmet hs1, hra]; refine (sWatch1_t hon).trans ?_; exact congrArg (fun S : zS => (S.1, va_up S.2 16 (upd (S.2 16) i 1))) (sTurn_n h3e)
                      have hRn : sLR (sWatches (i + 1) N T).1 (sWatches (i + 1) N T).2 Ez (va_up Fz 3 (upd (Fz 3) i ((sPb Tw i) + 262144))) := by
                        show sLR (sWatch (sWatches i N T).1 (sWatches i N T).2 i).1 (sWatch (sWatches i N T).1 (sWatches i N T).2 i).2 _ _
                        rw [hst]
                        exact sLR_w (i := i) hRw sWatch_keep sWatch_6.1 sWatch_6.2.1 sWatch_6.2.2.1 (by rw [heqw]; exact hRw.1) (fun k hk3 hk9 => by simp [va_up, hk3, hk9]) (fun j => by rw [heqw]; exact nt0 hR9w.2.1) (by rw [heqw]; show (upd (Fz 3) i ((sPb Tw i) + 262144)) = upd (Fz 3) i (sPb Tw i + 262144 * upd (Tw 16) i 1 i); rw [upd_at, Int32.mul_one]) (fun a ha => by rw [heqw]; exact upd_no ha)
                      refine lv_iinc (v := (nI (i + 1))) (lv' := [(5, .int (nI (i + 1))), (6, .int 1), (10, .int (zb (decide (Tw 15 i = 1)))), (9, .int (Tw 14 i)), (8, .int (Tw 12 i)), (7, .int (Tw 6 (Tw 11 i).toNatClampNeg)), (0, .ref (u 0)), (1, .ref (u 2)), (2, .ref (u 3)), (3, .ref (u 4)), (4, .ref (u 9))]) hx hb dL_look_204 hl (k := 10) rfl (by first | exact nI_1 _ | rfl) (by decide) rfl (fun ls hl => ?_)
                      refine lv_goto (tgt := 3) hx hb dL_look_207 (by decide) ?_
                      have hl2 := lv_sub (l' := [(0, .ref (u 0)), (1, .ref (u 2)), (2, .ref (u 3)), (3, .ref (u 4)), (4, .ref (u 9)), (5, .int (nI (i + 1)))]) hl [6, 7, 8, 9, 10, 0] rfl
                      exact ih (i + 1) (by omega) (by omega) _ _ hRn _ _ hP hD hS ls hl2
                    · skip
                      have h3e := zc_11
                      refine lv_aload_n hx hb dL_look_159 rfl (lv_at hl 5 rfl) ?_
                      refine lv_aload hx hb dL_look_160 (lv_at hl 9 rfl) ?_
                      refine lv_iconst (v := 0) hx hb dL_look_162 (by decide) ?_
                      refine lv_iconst (v := (-1)) hx hb dL_look_163 (by decide) ?_
                      refine lv_iload hx hb dL_look_164 (lv_at hl 1 rfl) ?_
                      have cut_177 : W p l e (headSpec wsL_look ({ frames := 3, cells := 0, slots := 0, locals := 71 })).room s m ([.ref (u 0), .ref (u 2), .ref (u 3), .ref (u 4), .ref (u 9)] : List Value).toArray below meth c Hz Lz 0 0 (MQ below (va_Qv (fun w1 : va_W => ∃ (E1 : Nat → Int64) (F1 : Nat → Nat → Int32), w1 = LW G u E1 F1 ∧ sLR (sWatches (N 3) N T).1 (sWatches (N 3) N T).2 E1 F1) (zB G A) A) ([.ref (u 0), .ref (u 2), .ref (u 3), .ref (u 4), .ref (u 9)] : List Value).toArray s 0 0 A) (F0 m 177 ls [.int (if decide (Tw 15 i = 1) = true then (10 : Int32) else 0), .int (Tw 14 i), .int (-1), .int 0, .ref (u 9), .ref (u 0)]) := by
                        refine lv_iadd hx hb dL_look_177 ?_
                        refine z_cuv (va_runS (As := [.ref (u 0), .ref (u 9), .int 0, .int (-1), .int ((Tw 14 i) + (if decide (Tw 15 i = 1) = true then (10 : Int32) else 0))]) (rest := []) ⟨hx, hb, hml, hown, hts⟩ (c_L_note l G u Ez (va_up Fz 3 (upd (Fz 3) i (sPb Tw i))) (Tw 0) (Nw 1) (Nw 0) 0 (-1) ((Tw 14 i) + (if decide (Tw 15 i = 1) = true then (10 : Int32) else 0)) Hz.size hQc.1 (by have := hQc.2.1.1; omega) hQc.2.2.1.1 hQc.2.2.1.2.1 hQc.2.1.2.2.1 ⟨0, by decide, rfl⟩ ⟨0, by decide, by decide⟩ (zV10 hwa.2.2.1)) (va_cwS 5 hts gL_look_L_note rfl rfl rfl (by decide +kernel) ⟨Nat.le_of_ble_eq_true rfl, Nat.le_of_ble_eq_true rfl⟩) (z_us hK hP hD) rfl rfl hl.1 rfl (lv_room (Nat.le_of_ble_eq_true rfl)) dL_look_178 ⟨(Nat.zero_le _), (Nat.zero_le _)⟩) hD hS hA (fun w1 Hz Lz hw hP hD hS => ?_)
                        obtain ⟨zE_13, rfl, hzE_13⟩ := hw
                        have hP : va_P G.1 vwCl [(u 0, .inl (G.2 1, 64, .inr (.inl zE_13))), (u 1, .inl (G.2 0, 8, .inl (Fz 1))), (u 2, .inl (G.2 0, 3, .inl (Fz 2))), (u 3, .inl (G.2 0, 3, .inl (upd (Fz 3) i (sPb Tw i)))), (u 4, .inl (G.2 0, 40, .inl (Fz 4))), (u 5, .inl (G.2 0, 40, .inl (Fz 5))), (u 6, .inl (G.2 0, 9, .inl (Fz 6))), (u 7, .inl (G.2 0, 12, .inl (Fz 7))), (u 8, .inl (G.2 0, 12, .inl (Fz 8))), (u 9, .inl (G.2 0, 10, .inl (upd (Fz 9) 1 (nI (Nw 1 + 1)))))] Hz := hP
                        have hD : va_D A [(u 0, .inl (G.2 1, 64, .inr (.inl zE_13))), (u 1, .inl (G.2 0, 8, .inl (Fz 1))), (u 2, .inl (G.2 0, 3, .inl (Fz 2))), (u 3, .inl (G.2 0, 3, .inl (upd (Fz 3) i (sPb Tw i)))), (u 4, .inl (G.2 0, 40, .inl (Fz 4))), (u 5, .inl (G.2 0, 40, .inl (Fz 5))), (u 6, .inl (G.2 0, 9, .inl (Fz 6))), (u 7, .inl (G.2 0, 12, .inl (Fz 7))), (u 8, .inl (G.2 0, 12, .inl (Fz 8))), (u 9, .inl (G.2 0, 10, .inl (upd (Fz 9) 1 (nI (Nw 1 + 1)))))] := hD
                        refine lv_iconst (v := 1) hx hb dL_look_181 (by decide) ?_
                        refine lv_istore (lv' := [(6, .int 1), (10, .int (zb (decide (Tw 15 i = 1)))), (9, .int (Tw 14 i)), (8, .int (Tw 12 i)), (7, .int (Tw 6 (Tw 11 i).toNatClampNeg)), (0, .ref (u 0)), (1, .ref (u 2)), (2, .ref (u 3)), (3, .ref (u 4)), (4, .ref (u 9)), (5, .int (nI i))]) hx hb dL_look_182 hl (by decide) rfl (fun ls hl => ?_)
                        refine lv_aload_n hx hb dL_look_184 rfl (lv_at hl 7 rfl) ?_
                        refine lv_iload hx hb dL_look_185 (lv_at hl 10 rfl) ?_
                        refine lv_dup2_11 hx hb dL_look_187 rfl rfl ?_
                        refine va_iald hx hb hK hP 3 0 rfl rfl (by first | assumption | exact vp_in_nI (by omega) (by omega)) dL_look_188 ?_
                        refine W.eq (g2 := F0 m 189 ls [.int (sPb Tw i), .int (nI i), .ref (u 3)]) (by first | (rw [nI_clamp (by omega), upd_at]; done) | (rw [nI_clamp (by omega), upd_at]; rfl)) ?_
                        refine lv_iload hx hb dL_look_189 (lv_at hl 0 rfl) ?_
                        refine lv_iconst (v := 1) hx hb dL_look_191 (by decide) ?_
                        refine lv_icmp_ne (tgt := 200) hx hb dL_look_192 (by decide) (fun zc_14 => absurd zc_14 (by decide)) (fun _ => ?_)
                        refine lv_ldc (v := 262144) hx hb hown (hts _ (List.mem_of_getElem? (i := 2) rfl)) dL_look_195 ?_
                        refine lv_goto (tgt := 202) hx hb dL_look_197 (by decide) ?_
                        refine lv_iadd hx hb dL_look_202 ?_
                        refine va_iast hx hb hK hP hD hS 3 0 rfl rfl (by first | assumption | exact sIx_in.mp (by assumption) | exact vp_in_nI (by omega) (by omega)) dL_look_203 (fun Hz Lz hP hD hS => ?_)
                        rw [nI_clamp (by omega)] at hP hD
                        have hP : va_P G.1 vwCl [(u 0, .inl (G.2 1, 64, .inr (.inl zE_13))), (u 1, .inl (G.2 0, 8, .inl (Fz 1))), (u 2, .inl (G.2 0, 3, .inl (Fz 2))), (u 3, .inl (G.2 0, 3, .inl (upd (upd (Fz 3) i (sPb Tw i)) i ((sPb Tw i) + 262144)))), (u 4, .inl (G.2 0, 40, .inl (Fz 4))), (u 5, .inl (G.2 0, 40, .inl (Fz 5))), (u 6, .inl (G.2 0, 9, .inl (Fz 6))), (u 7, .inl (G.2 0, 12, .inl (Fz 7))), (u 8, .inl (G.2 0, 12, .inl (Fz 8))), (u 9, .inl (G.2 0, 10, .inl (upd (Fz 9) 1 (nI (Nw 1 + 1)))))] Hz := hP
                        have hD : va_D A [(u 0, .inl (G.2 1, 64, .inr (.inl zE_13))), (u 1, .inl (G.2 0, 8, .inl (Fz 1))), (u 2, .inl (G.2 0, 3, .inl (Fz 2))), (u 3, .inl (G.2 0, 3, .inl (upd (upd (Fz 3) i (sPb Tw i)) i ((sPb Tw i) + 262144)))), (u 4, .inl (G.2 0, 40, .inl (Fz 4))), (u 5, .inl (G.2 0, 40, .inl (Fz 5))), (u 6, .inl (G.2 0, 9, .inl (Fz 6))), (u 7, .inl (G.2 0, 12, .inl (Fz 7))), (u 8, .inl (G.2 0, 12, .inl (Fz 8))), (u 9, .inl (G.2 0, 10, .inl (upd (Fz 9) 1 (nI (Nw 1 + 1)))))] := hD
                        rw [upd_twice] at hP hD
                        have hP : va_P G.1 vwCl [(u 0, .inl (G.2 1, 64, .inr (.inl zE_13))), (u 1, .inl (G.2 0, 8, .inl (Fz 1))), (u 2, .inl (G.2 0, 3, .inl (Fz 2))), (u 3, .inl (G.2 0, 3, .inl (upd (Fz 3) i ((sPb Tw i) + 262144)))), (u 4, .inl (G.2 0, 40, .inl (Fz 4))), (u 5, .inl (G.2 0, 40, .inl (Fz 5))), (u 6, .inl (G.2 0, 9, .inl (Fz 6))), (u 7, .inl (G.2 0, 12, .inl (Fz 7))), (u 8, .inl (G.2 0, 12, .inl (Fz 8))), (u 9, .inl (G.2 0, 10, .inl (upd (Fz 9) 1 (nI (Nw 1 + 1)))))] Hz := hP
                        have hD : va_D A [(u 0, .inl (G.2 1, 64, .inr (.inl zE_13))), (u 1, .inl (G.2 0, 8, .inl (Fz 1))), (u 2, .inl (G.2 0, 3, .inl (Fz 2))), (u 3, .inl (G.2 0, 3, .inl (upd (Fz 3) i ((sPb Tw i) + 262144)))), (u 4, .inl (G.2 0, 40, .inl (Fz 4))), (u 5, .inl (G.2 0, 40, .inl (Fz 5))), (u 6, .inl (G.2 0, 9, .inl (Fz 6))), (u 7, .inl (G.2 0, 12, .inl (Fz 7))), (u 8, .inl (G.2 0, 12, .inl (Fz 8))), (u 9, .inl (G.2 0, 10, .inl (upd (Fz 9) 1 (nI (Nw 1 + 1)))))] := hD
                        have heqw : sWatch Nw Tw i = ((sNote Nw (va_up Tw 3 (upd (Tw 3) (Tw 14 i).toNatClampNeg (zb (decide (Tw 15 i = 1))))) 0 (-1) (Tw 14 i + if decide (Tw 15 i = 1) = true then (10 : Int32) else 0)).1, va_up (sNote Nw (va_up Tw 3 (upd (Tw 3) (Tw 14 i).toNatClampNeg (zb (decide (Tw 15 i = 1))))) 0 (-1) (Tw 14 i + if decide (Tw 15 i = 1) = true then (10 : Int32) else 0)).2 16 (upd ((sNote Nw (va_up Tw 3 (upd (Tw 3) (Tw 14 i).toNatClampNeg (zb (decide (Tw 15 i = 1))))) 0 (-1) (Tw 14 i + if decide (Tw 15 i = 1) = true then (10 : Int32) else 0)).2 16) i 1)) := by rw [sWatch_go hmet hs1, hra]; refine (sWatch1_t hon).trans ?_; exact congrArg (fun S : zS => (S.1, va_up S.2 16 (upd (S.2 16) i 1))) (sTurn_y h3e)
                        have hRn : sLR (sWatches (i + 1) N T).1 (sWatches (i + 1) N T).2 zE_13 (va_up (va_up Fz 3 (upd (Fz 3) i ((sPb Tw i) + 262144))) 9 (upd (Fz 9) 1 (nI (Nw 1 + 1)))) := by
                          show sLR (sWatch (sWatches i N T).1 (sWatches i N T).2 i).1 (sWatch (sWatches i N T).1 (sWatches i N T).2 i).2 _ _
                          rw [hst]
                          exact sLR_w (i := i) hRw sWatch_keep sWatch_6.1 sWatch_6.2.1 sWatch_6.2.2.1 (by rw [heqw]; exact hzE_13) (fun k hk3 hk9 => by simp [va_up, hk3, hk9]) (fun j => by rw [heqw]; rfl) (by rw [heqw]; show (upd (Fz 3) i ((sPb Tw i) + 262144)) = upd (Fz 3) i (sPb Tw i + 262144 * upd (Tw 16) i 1 i); rw [upd_at, Int32.mul_one]) (fun a ha => by rw [heqw]; exact upd_no ha)
                        refine lv_iinc (v := (nI (i + 1))) (lv' := [(5, .int (nI (i + 1))), (6, .int 1), (10, .int (zb (decide (Tw 15 i = 1)))), (9, .int (Tw 14 i)), (8, .int (Tw 12 i)), (7, .int (Tw 6 (Tw 11 i).toNatClampNeg)), (0, .ref (u 0)), (1, .ref (u 2)), (2, .ref (u 3)), (3, .ref (u 4)), (4, .ref (u 9))]) hx hb dL_look_204 hl (k := 10) rfl (by first | exact nI_1 _ | rfl) (by decide) rfl (fun ls hl => ?_)
                        refine lv_goto (tgt := 3) hx hb dL_look_207 (by decide) ?_
                        have hl2 := lv_sub (l' := [(0, .ref (u 0)), (1, .ref (u 2)), (2, .ref (u 3)), (3, .ref (u 4)), (4, .ref (u 9)), (5, .int (nI (i + 1)))]) hl [6, 7, 8, 9, 10, 0] rfl
                        exact ih (i + 1) (by omega) (by omega) _ _ hRn _ _ hP hD hS ls hl2
                      refine lv_iload hx hb dL_look_166 (lv_at hl 0 rfl) ?_
                      refine lv_if_eq (tgt := 176) hx hb dL_look_168 (by decide) (fun zc_15 => ?_) (fun zc_15 => ?_)
                      · skip
                        have zc_15 := zb_0.mp zc_15
                        refine lv_iconst (v := 0) hx hb dL_look_176 (by decide) ?_
                        exact W.eq (congrArg (fun z : Int32 => F0 m 177 ls [.int z, .int (Tw 14 i), .int (-1), .int 0, .ref (u 9), .ref (u 0)]) (show (0 : Int32) = if decide (Tw 15 i = 1) = true then (10 : Int32) else 0 from (by simp [zc_15]))) cut_177
                      · skip
                        have zc_15 := zb_n0 zc_15
                        refine lv_bipush (v := 10) hx hb dL_look_171 (by decide) ?_
                        refine lv_goto (tgt := 177) hx hb dL_look_173 (by decide) ?_
                        exact W.eq (congrArg (fun z : Int32 => F0 m 177 ls [.int z, .int (Tw 14 i), .int (-1), .int 0, .ref (u 9), .ref (u 0)]) (show (10 : Int32) = if decide (Tw 15 i = 1) = true then (10 : Int32) else 0 from (by simp [zc_15]))) cut_177
              · skip
                have hs16 := zc_4
                refine lv_aload_n hx hb dL_look_118 rfl (lv_at hl 5 rfl) ?_
                refine lv_aload hx hb dL_look_119 (lv_at hl 9 rfl) ?_
                refine lv_iconst (v := 3) hx hb dL_look_121 (by decide) ?_
                refine lv_iconst (v := (-1)) hx hb dL_look_122 (by decide) ?_
                refine lv_iload hx hb dL_look_123 (lv_at hl 10 rfl) ?_
                refine z_cuv (va_runS (As := [.ref (u 0), .ref (u 9), .int 3, .int (-1), .int (nI i)]) (rest := []) ⟨hx, hb, hml, hown, hts⟩ (c_L_note l G u Ez (va_up Fz 3 (upd (Fz 3) i (sPb Tw i))) (Tw 0) (Nw 1) (Nw 0) 3 (-1) (nI i) Hz.size hQw.1 (by omega) hR9w.1 hR9w.2.1 hQw.2.1.2.2.1 ⟨3, by decide, rfl⟩ ⟨0, by decide, by decide⟩ ⟨i, by omega, rfl⟩) (va_cwS 5 hts gL_look_L_note rfl rfl rfl (by decide +kernel) ⟨Nat.le_of_ble_eq_true rfl, Nat.le_of_ble_eq_true rfl⟩) (z_us hK hP hD) rfl rfl hl.1 rfl (lv_room (Nat.le_of_ble_eq_true rfl)) dL_look_125 ⟨(Nat.zero_le _), (Nat.zero_le _)⟩) hD hS hA (fun w1 Hz Lz hw hP hD hS => ?_)
                obtain ⟨zE_16, rfl, hzE_16⟩ := hw
                have hP : va_P G.1 vwCl [(u 0, .inl (G.2 1, 64, .inr (.inl zE_16))), (u 1, .inl (G.2 0, 8, .inl (Fz 1))), (u 2, .inl (G.2 0, 3, .inl (Fz 2))), (u 3, .inl (G.2 0, 3, .inl (upd (Fz 3) i (sPb Tw i)))), (u 4, .inl (G.2 0, 40, .inl (Fz 4))), (u 5, .inl (G.2 0, 40, .inl (Fz 5))), (u 6, .inl (G.2 0, 9, .inl (Fz 6))), (u 7, .inl (G.2 0, 12, .inl (Fz 7))), (u 8, .inl (G.2 0, 12, .inl (Fz 8))), (u 9, .inl (G.2 0, 10, .inl (upd (Fz 9) 1 (nI (Nw 1 + 1)))))] Hz := hP
                have hD : va_D A [(u 0, .inl (G.2 1, 64, .inr (.inl zE_16))), (u 1, .inl (G.2 0, 8, .inl (Fz 1))), (u 2, .inl (G.2 0, 3, .inl (Fz 2))), (u 3, .inl (G.2 0, 3, .inl (upd (Fz 3) i (sPb Tw i)))), (u 4, .inl (G.2 0, 40, .inl (Fz 4))), (u 5, .inl (G.2 0, 40, .inl (Fz 5))), (u 6, .inl (G.2 0, 9, .inl (Fz 6))), (u 7, .inl (G.2 0, 12, .inl (Fz 7))), (u 8, .inl (G.2 0, 12, .inl (Fz 8))), (u 9, .inl (G.2 0, 10, .inl (upd (Fz 9) 1 (nI (Nw 1 + 1)))))] := hD
                have hQc := sLQ_nt (i := i) (F1 := (va_up (va_up Fz 3 (upd (Fz 3) i (sPb Tw i))) 9 (upd (Fz 9) 1 (nI (Nw 1 + 1))))) hQw (by omega) (by omega) hzE_16 rfl rfl (fun j => rfl)
                have hra := sRaise_y (N := Nw) hs16
                refine lv_iload hx hb dL_look_128 (lv_at hl 4 rfl) ?_
                refine lv_iconst (v := 1) hx hb dL_look_130 (by decide) ?_
                refine lv_icmp_eq (tgt := 184) hx hb dL_look_131 (by decide) (fun zc_17 => ?_) (fun zc_17 => ?_)
                · skip
                  exact absurd (hs16.symm.trans zc_17) (by decide)
                · skip
                  have hs1 := zc_17
                  refine lv_aload_n hx hb dL_look_134 rfl (lv_at hl 5 rfl) ?_
                  refine lv_aload_n hx hb dL_look_135 rfl (lv_at hl 8 rfl) ?_
                  refine lv_aload hx hb dL_look_136 (lv_at hl 9 rfl) ?_
                  refine lv_iload hx hb dL_look_138 (lv_at hl 1 rfl) ?_
                  refine z_csi (va_Run.run (va_runS (As := [.ref (u 0), .ref (u 4), .ref (u 9), .int (Tw 14 i)]) (rest := []) ⟨hx, hb, hml, hown, hts⟩ (c_L_hanging l G u zE_16 (va_up (va_up Fz 3 (upd (Fz 3) i (sPb Tw i))) 9 (upd (Fz 9) 1 (nI (Nw 1 + 1)))) ((sNote Nw Tw 3 (-1) (nI i)).1) ((sNote Nw Tw 3 (-1) (nI i)).2) (Tw 14 i) hQc) (va_cwS 4 hts gL_look_L_hanging rfl rfl rfl (by decide +kernel) ⟨Nat.le_of_ble_eq_true rfl, Nat.le_of_ble_eq_true rfl⟩) (z_ps hK hP) rfl rfl hl.1 rfl (lv_room (Nat.le_of_ble_eq_true rfl)) dL_look_140 ⟨(Nat.zero_le _), (Nat.zero_le _)⟩)) (fun zr_18 hzr_18 => ?_)
                  subst hzr_18
                  refine lv_if_ne (tgt := 184) hx hb dL_look_143 (by decide) (fun zc_19 => ?_) (fun zc_19 => ?_)
                  · skip
                    have hon : ¬ sOn ((sNote Nw Tw 3 (-1) (nI i)).1) ((sNote Nw Tw 3 (-1) (nI i)).2) (Tw 14 i) = 0 := fun z => zc_19 (by rw [z]; rfl)
                    refine lv_aload_n hx hb dL_look_184 rfl (lv_at hl 7 rfl) ?_
                    refine lv_iload hx hb dL_look_185 (lv_at hl 10 rfl) ?_
                    refine lv_dup2_11 hx hb dL_look_187 rfl rfl ?_
                    refine va_iald hx hb hK hP 3 0 rfl rfl (by first | assumption | exact vp_in_nI (by omega) (by omega)) dL_look_188 ?_
                    refine W.eq (g2 := F0 m 189 ls [.int (sPb Tw i), .int (nI i), .ref (u 3)]) (by first | (rw [nI_clamp (by omega), upd_at]; done) | (rw [nI_clamp (by omega), upd_at]; rfl)) ?_
                    refine lv_iload hx hb dL_look_189 (lv_at hl 4 rfl) ?_
                    refine lv_iconst (v := 1) hx hb dL_look_191 (by decide) ?_
                    refine lv_icmp_ne (tgt := 200) hx hb dL_look_192 (by decide) (fun zc_20 => ?_) (fun zc_20 => ?_)
                    · skip
                      refine lv_ldc (v := 524288) hx hb hown (hts _ (List.mem_of_getElem? (i := 3) rfl)) dL_look_200 ?_
                      refine lv_iadd hx hb dL_look_202 ?_
                      refine va_iast hx hb hK hP hD hS 3 0 rfl rfl (by first | assumption | exact sIx_in.mp (by assumption) | exact vp_in_nI (by omega) (by omega)) dL_look_203 (fun Hz Lz hP hD hS => ?_)
                      rw [nI_clamp (by omega)] at hP hD
                      have hP : va_P G.1 vwCl [(u 0, .inl (G.2 1, 64, .inr (.inl zE_16))), (u 1, .inl (G.2 0, 8, .inl (Fz 1))), (u 2, .inl (G.2 0, 3, .inl (Fz 2))), (u 3, .inl (G.2 0, 3, .inl (upd (upd (Fz 3) i (sPb Tw i)) i ((sPb Tw i) + 524288)))), (u 4, .inl (G.2 0, 40, .inl (Fz 4))), (u 5, .inl (G.2 0, 40, .inl (Fz 5))), (u 6, .inl (G.2 0, 9, .inl (Fz 6))), (u 7, .inl (G.2 0, 12, .inl (Fz 7))), (u 8, .inl (G.2 0, 12, .inl (Fz 8))), (u 9, .inl (G.2 0, 10, .inl (upd (Fz 9) 1 (nI (Nw 1 + 1)))))] Hz := hP
                      have hD : va_D A [(u 0, .inl (G.2 1, 64, .inr (.inl zE_16))), (u 1, .inl (G.2 0, 8, .inl (Fz 1))), (u 2, .inl (G.2 0, 3, .inl (Fz 2))), (u 3, .inl (G.2 0, 3, .inl (upd (upd (Fz 3) i (sPb Tw i)) i ((sPb Tw i) + 524288)))), (u 4, .inl (G.2 0, 40, .inl (Fz 4))), (u 5, .inl (G.2 0, 40, .inl (Fz 5))), (u 6, .inl (G.2 0, 9, .inl (Fz 6))), (u 7, .inl (G.2 0, 12, .inl (Fz 7))), (u 8, .inl (G.2 0, 12, .inl (Fz 8))), (u 9, .inl (G.2 0, 10, .inl (upd (Fz 9) 1 (nI (Nw 1 + 1)))))] := hD
                      rw [upd_twice] at hP hD
                      have hP : va_P G.1 vwCl [(u 0, .inl (G.2 1, 64, .inr (.inl zE_16))), (u 1, .inl (G.2 0, 8, .inl (Fz 1))), (u 2, .inl (G.2 0, 3, .inl (Fz 2))), (u 3, .inl (G.2 0, 3, .inl (upd (Fz 3) i ((sPb Tw i) + 524288)))), (u 4, .inl (G.2 0, 40, .inl (Fz 4))), (u 5, .inl (G.2 0, 40, .inl (Fz 5))), (u 6, .inl (G.2 0, 9, .inl (Fz 6))), (u 7, .inl (G.2 0, 12, .inl (Fz 7))), (u 8, .inl (G.2 0, 12, .inl (Fz 8))), (u 9, .inl (G.2 0, 10, .inl (upd (Fz 9) 1 (nI (Nw 1 + 1)))))] Hz := hP
                      have hD : va_D A [(u 0, .inl (G.2 1, 64, .inr (.inl zE_16))), (u 1, .inl (G.2 0, 8, .inl (Fz 1))), (u 2, .inl (G.2 0, 3, .inl (Fz 2))), (u 3, .inl (G.2 0, 3, .inl (upd (Fz 3) i ((sPb Tw i) + 524288)))), (u 4, .inl (G.2 0, 40, .inl (Fz 4))), (u 5, .inl (G.2 0, 40, .inl (Fz 5))), (u 6, .inl (G.2 0, 9, .inl (Fz 6))), (u 7, .inl (G.2 0, 12, .inl (Fz 7))), (u 8, .inl (G.2 0, 12, .inl (Fz 8))), (u 9, .inl (G.2 0, 10, .inl (upd (Fz 9) 1 (nI (Nw 1 + 1)))))] := hD
                      have heqw : sWatch Nw Tw i = ((sNote Nw Tw 3 (-1) (nI i)).1, va_up ((sNote Nw Tw 3 (-1) (nI i)).2) 16 (upd (((sNote Nw Tw 3 (-1) (nI i)).2) 16) i 2)) := by rw [sWatch_go hmet hs1, hra]; exact sWatch1_w hon
                      have hRn : sLR (sWatches (i + 1) N T).1 (sWatches (i + 1) N T).2 zE_16 (va_up (va_up Fz 3 (upd (Fz 3) i ((sPb Tw i) + 524288))) 9 (upd (Fz 9) 1 (nI (Nw 1 + 1)))) := by
                        show sLR (sWatch (sWatches i N T).1 (sWatches i N T).2 i).1 (sWatch (sWatches i N T).1 (sWatches i N T).2 i).2 _ _
                        rw [hst]
                        exact sLR_w (i := i) hRw sWatch_keep sWatch_6.1 sWatch_6.2.1 sWatch_6.2.2.1 (by rw [heqw]; exact hzE_16) (fun k hk3 hk9 => by simp [va_up, hk3, hk9]) (fun j => by rw [heqw]; rfl) (by rw [heqw]; show (upd (Fz 3) i ((sPb Tw i) + 524288)) = upd (Fz 3) i (sPb Tw i + 262144 * upd (((sNote Nw Tw 3 (-1) (nI i)).2) 16) i 2 i); rw [upd_at, show (262144 : Int32) * 2 = 524288 from by decide]) (fun a ha => by rw [heqw]; exact upd_no ha)
                      refine lv_iinc (v := (nI (i + 1))) (lv' := [(5, .int (nI (i + 1))), (10, .int (zb (decide (Tw 15 i = 1)))), (9, .int (Tw 14 i)), (8, .int (Tw 12 i)), (7, .int (Tw 6 (Tw 11 i).toNatClampNeg)), (6, .int (Tw 16 i)), (0, .ref (u 0)), (1, .ref (u 2)), (2, .ref (u 3)), (3, .ref (u 4)), (4, .ref (u 9))]) hx hb dL_look_204 hl (k := 10) rfl (by first | exact nI_1 _ | rfl) (by decide) rfl (fun ls hl => ?_)
                      refine lv_goto (tgt := 3) hx hb dL_look_207 (by decide) ?_
                      have hl2 := lv_sub (l' := [(0, .ref (u 0)), (1, .ref (u 2)), (2, .ref (u 3)), (3, .ref (u 4)), (4, .ref (u 9)), (5, .int (nI (i + 1)))]) hl [6, 7, 8, 9, 10, 0] rfl
                      exact ih (i + 1) (by omega) (by omega) _ _ hRn _ _ hP hD hS ls hl2
                    · skip
                      exact absurd zc_20 hs1
                  · skip
                    have hon : sOn ((sNote Nw Tw 3 (-1) (nI i)).1) ((sNote Nw Tw 3 (-1) (nI i)).2) (Tw 14 i) = 0 := (nI_eq (b := 0) (Nat.lt_of_le_of_lt (sCnt_le _ _) (by have := hQc.2.1.2.1; omega)) (by omega)).mp zc_19
                    refine lv_aload_n hx hb dL_look_146 rfl (lv_at hl 5 rfl) ?_
                    refine lv_aload hx hb dL_look_147 (lv_at hl 9 rfl) ?_
                    refine lv_iload hx hb dL_look_149 (lv_at hl 1 rfl) ?_
                    refine z_csi (va_Run.run (va_runS (As := [.ref (u 0), .ref (u 9), .int (Tw 14 i)]) (rest := []) ⟨hx, hb, hml, hown, hts⟩ (c_L_opened l G u zE_16 (va_up (va_up Fz 3 (upd (Fz 3) i (sPb Tw i))) 9 (upd (Fz 9) 1 (nI (Nw 1 + 1)))) ((sNote Nw Tw 3 (-1) (nI i)).1) ((sNote Nw Tw 3 (-1) (nI i)).2) (Tw 14 i) hQc hwa.2.2.1) (va_cwS 3 hts gL_look_L_opened rfl rfl rfl (by decide +kernel) ⟨Nat.le_of_ble_eq_true rfl, Nat.le_of_ble_eq_true rfl⟩) (z_ps hK hP) rfl rfl hl.1 rfl (lv_room (Nat.le_of_ble_eq_true rfl)) dL_look_151 ⟨(Nat.zero_le _), (Nat.zero_le _)⟩)) (fun zr_21 hzr_21 => ?_)
                    subst hzr_21
                    refine lv_iload hx hb dL_look_154 (lv_at hl 0 rfl) ?_
                    refine lv_icmp_eq (tgt := 181) hx hb dL_look_156 (by decide) (fun zc_22 => ?_) (fun zc_22 => ?_)
                    · skip
                      have h3e := zc_22
                      refine lv_iconst (v := 1) hx hb dL_look_181 (by decide) ?_
                      refine lv_istore (lv' := [(6, .int 1), (10, .int (zb (decide (Tw 15 i = 1)))), (9, .int (Tw 14 i)), (8, .int (Tw 12 i)), (7, .int (Tw 6 (Tw 11 i).toNatClampNeg)), (0, .ref (u 0)), (1, .ref (u 2)), (2, .ref (u 3)), (3, .ref (u 4)), (4, .ref (u 9)), (5, .int (nI i))]) hx hb dL_look_182 hl (by decide) rfl (fun ls hl => ?_)
                      refine lv_aload_n hx hb dL_look_184 rfl (lv_at hl 7 rfl) ?_
                      refine lv_iload hx hb dL_look_185 (lv_at hl 10 rfl) ?_
                      refine lv_dup2_11 hx hb dL_look_187 rfl rfl ?_
                      refine va_iald hx hb hK hP 3 0 rfl rfl (by first | assumption | exact vp_in_nI (by omega) (by omega)) dL_look_188 ?_
                      refine W.eq (g2 := F0 m 189 ls [.int (sPb Tw i), .int (nI i), .ref (u 3)]) (by first | (rw [nI_clamp (by omega), upd_at]; done) | (rw [nI_clamp (by omega), upd_at]; rfl)) ?_
                      refine lv_iload hx hb dL_look_189 (lv_at hl 0 rfl) ?_
                      refine lv_iconst (v := 1) hx hb dL_look_191 (by decide) ?_
                      refine lv_icmp_ne (tgt := 200) hx hb dL_look_192 (by decide) (fun zc_23 => absurd zc_23 (by decide)) (fun _ => ?_)
                      refine lv_ldc (v := 262144) hx hb hown (hts _ (List.mem_of_getElem? (i := 2) rfl)) dL_look_195 ?_
                      refine lv_goto (tgt := 202) hx hb dL_look_197 (by decide) ?_
                      refine lv_iadd hx hb dL_look_202 ?_
                      refine va_iast hx hb hK hP hD hS 3 0 rfl rfl (by first | assumption | exact sIx_in.mp (by assumption) | exact vp_in_nI (by omega) (by omega)) dL_look_203 (fun Hz Lz hP hD hS => ?_)
                      rw [nI_clamp (by omega)] at hP hD
                      have hP : va_P G.1 vwCl [(u 0, .inl (G.2 1, 64, .inr (.inl zE_16))), (u 1, .inl (G.2 0, 8, .inl (Fz 1))), (u 2, .inl (G.2 0, 3, .inl (Fz 2))), (u 3, .inl (G.2 0, 3, .inl (upd (upd (Fz 3) i (sPb Tw i)) i ((sPb Tw i) + 262144)))), (u 4, .inl (G.2 0, 40, .inl (Fz 4))), (u 5, .inl (G.2 0, 40, .inl (Fz 5))), (u 6, .inl (G.2 0, 9, .inl (Fz 6))), (u 7, .inl (G.2 0, 12, .inl (Fz 7))), (u 8, .inl (G.2 0, 12, .inl (Fz 8))), (u 9, .inl (G.2 0, 10, .inl (upd (Fz 9) 1 (nI (Nw 1 + 1)))))] Hz := hP
                      have hD : va_D A [(u 0, .inl (G.2 1, 64, .inr (.inl zE_16))), (u 1, .inl (G.2 0, 8, .inl (Fz 1))), (u 2, .inl (G.2 0, 3, .inl (Fz 2))), (u 3, .inl (G.2 0, 3, .inl (upd (upd (Fz 3) i (sPb Tw i)) i ((sPb Tw i) + 262144)))), (u 4, .inl (G.2 0, 40, .inl (Fz 4))), (u 5, .inl (G.2 0, 40, .inl (Fz 5))), (u 6, .inl (G.2 0, 9, .inl (Fz 6))), (u 7, .inl (G.2 0, 12, .inl (Fz 7))), (u 8, .inl (G.2 0, 12, .inl (Fz 8))), (u 9, .inl (G.2 0, 10, .inl (upd (Fz 9) 1 (nI (Nw 1 + 1)))))] := hD
                      rw [upd_twice] at hP hD
                      have hP : va_P G.1 vwCl [(u 0, .inl (G.2 1, 64, .inr (.inl zE_16))), (u 1, .inl (G.2 0, 8, .inl (Fz 1))), (u 2, .inl (G.2 0, 3, .inl (Fz 2))), (u 3, .inl (G.2 0, 3, .inl (upd (Fz 3) i ((sPb Tw i) + 262144)))), (u 4, .inl (G.2 0, 40, .inl (Fz 4))), (u 5, .inl (G.2 0, 40, .inl (Fz 5))), (u 6, .inl (G.2 0, 9, .inl (Fz 6))), (u 7, .inl (G.2 0, 12, .inl (Fz 7))), (u 8, .inl (G.2 0, 12, .inl (Fz 8))), (u 9, .inl (G.2 0, 10, .inl (upd (Fz 9) 1 (nI (Nw 1 + 1)))))] Hz := hP
                      have hD : va_D A [(u 0, .inl (G.2 1, 64, .inr (.inl zE_16))), (u 1, .inl (G.2 0, 8, .inl (Fz 1))), (u 2, .inl (G.2 0, 3, .inl (Fz 2))), (u 3, .inl (G.2 0, 3, .inl (upd (Fz 3) i ((sPb Tw i) + 262144)))), (u 4, .inl (G.2 0, 40, .inl (Fz 4))), (u 5, .inl (G.2 0, 40, .inl (Fz 5))), (u 6, .inl (G.2 0, 9, .inl (Fz 6))), (u 7, .inl (G.2 0, 12, .inl (Fz 7))), (u 8, .inl (G.2 0, 12, .inl (Fz 8))), (u 9, .inl (G.2 0, 10, .inl (upd (Fz 9) 1 (nI (Nw 1 + 1)))))] := hD
                      have heqw : sWatch Nw Tw i = ((sNote Nw Tw 3 (-1) (nI i)).1, va_up ((sNote Nw Tw 3 (-1) (nI i)).2) 16 (upd (((sNote Nw Tw 3 (-1) (nI i)).2) 16) i 1)) := by rw [sWatch_go hmet hs1, hra]; refine (sWatch1_t hon).trans ?_; exact congrArg (fun S : zS => (S.1, va_up S.2 16 (upd (S.2 16) i 1))) (sTurn_n h3e)
                      have hRn : sLR (sWatches (i + 1) N T).1 (sWatches (i + 1) N T).2 zE_16 (va_up (va_up Fz 3 (upd (Fz 3) i ((sPb Tw i) + 262144))) 9 (upd (Fz 9) 1 (nI (Nw 1 + 1)))) := by
                        show sLR (sWatch (sWatches i N T).1 (sWatches i N T).2 i).1 (sWatch (sWatches i N T).1 (sWatches i N T).2 i).2 _ _
                        rw [hst]
                        exact sLR_w (i := i) hRw sWatch_keep sWatch_6.1 sWatch_6.2.1 sWatch_6.2.2.1 (by rw [heqw]; exact hzE_16) (fun k hk3 hk9 => by simp [va_up, hk3, hk9]) (fun j => by rw [heqw]; rfl) (by rw [heqw]; show (upd (Fz 3) i ((sPb Tw i) + 262144)) = upd (Fz 3) i (sPb Tw i + 262144 * upd (((sNote Nw Tw 3 (-1) (nI i)).2) 16) i 1 i); rw [upd_at, Int32.mul_one]) (fun a ha => by rw [heqw]; exact upd_no ha)
                      refine lv_iinc (v := (nI (i + 1))) (lv' := [(5, .int (nI (i + 1))), (6, .int 1), (10, .int (zb (decide (Tw 15 i = 1)))), (9, .int (Tw 14 i)), (8, .int (Tw 12 i)), (7, .int (Tw 6 (Tw 11 i).toNatClampNeg)), (0, .ref (u 0)), (1, .ref (u 2)), (2, .ref (u 3)), (3, .ref (u 4)), (4, .ref (u 9))]) hx hb dL_look_204 hl (k := 10) rfl (by first | exact nI_1 _ | rfl) (by decide) rfl (fun ls hl => ?_)
                      refine lv_goto (tgt := 3) hx hb dL_look_207 (by decide) ?_
                      have hl2 := lv_sub (l' := [(0, .ref (u 0)), (1, .ref (u 2)), (2, .ref (u 3)), (3, .ref (u 4)), (4, .ref (u 9)), (5, .int (nI (i + 1)))]) hl [6, 7, 8, 9, 10, 0] rfl
                      exact ih (i + 1) (by omega) (by omega) _ _ hRn _ _ hP hD hS ls hl2
                    · skip
                      have h3e := zc_22
                      refine lv_aload_n hx hb dL_look_159 rfl (lv_at hl 5 rfl) ?_
                      refine lv_aload hx hb dL_look_160 (lv_at hl 9 rfl) ?_
                      refine lv_iconst (v := 0) hx hb dL_look_162 (by decide) ?_
                      refine lv_iconst (v := (-1)) hx hb dL_look_163 (by decide) ?_
                      refine lv_iload hx hb dL_look_164 (lv_at hl 1 rfl) ?_
                      have cut_177 : W p l e (headSpec wsL_look ({ frames := 3, cells := 0, slots := 0, locals := 71 })).room s m ([.ref (u 0), .ref (u 2), .ref (u 3), .ref (u 4), .ref (u 9)] : List Value).toArray below meth c Hz Lz 0 0 (MQ below (va_Qv (fun w1 : va_W => ∃ (E1 : Nat → Int64) (F1 : Nat → Nat → Int32), w1 = LW G u E1 F1 ∧ sLR (sWatches (N 3) N T).1 (sWatches (N 3) N T).2 E1 F1) (zB G A) A) ([.ref (u 0), .ref (u 2), .ref (u 3), .ref (u 4), .ref (u 9)] : List Value).toArray s 0 0 A) (F0 m 177 ls [.int (if decide (Tw 15 i = 1) = true then (10 : Int32) else 0), .int (Tw 14 i), .int (-1), .int 0, .ref (u 9), .ref (u 0)]) := by
                        refine lv_iadd hx hb dL_look_177 ?_
                        refine z_cuv (va_runS (As := [.ref (u 0), .ref (u 9), .int 0, .int (-1), .int ((Tw 14 i) + (if decide (Tw 15 i = 1) = true then (10 : Int32) else 0))]) (rest := []) ⟨hx, hb, hml, hown, hts⟩ (c_L_note l G u zE_16 (va_up (va_up Fz 3 (upd (Fz 3) i (sPb Tw i))) 9 (upd (Fz 9) 1 (nI (Nw 1 + 1)))) (((sNote Nw Tw 3 (-1) (nI i)).2) 0) (((sNote Nw Tw 3 (-1) (nI i)).1) 1) (((sNote Nw Tw 3 (-1) (nI i)).1) 0) 0 (-1) ((Tw 14 i) + (if decide (Tw 15 i = 1) = true then (10 : Int32) else 0)) Hz.size hQc.1 (by have := hQc.2.1.1; omega) hQc.2.2.1.1 hQc.2.2.1.2.1 hQc.2.1.2.2.1 ⟨0, by decide, rfl⟩ ⟨0, by decide, by decide⟩ (zV10 hwa.2.2.1)) (va_cwS 5 hts gL_look_L_note rfl rfl rfl (by decide +kernel) ⟨Nat.le_of_ble_eq_true rfl, Nat.le_of_ble_eq_true rfl⟩) (z_us hK hP hD) rfl rfl hl.1 rfl (lv_room (Nat.le_of_ble_eq_true rfl)) dL_look_178 ⟨(Nat.zero_le _), (Nat.zero_le _)⟩) hD hS hA (fun w1 Hz Lz hw hP hD hS => ?_)
                        obtain ⟨zE_24, rfl, hzE_24⟩ := hw
                        have hP : va_P G.1 vwCl [(u 0, .inl (G.2 1, 64, .inr (.inl zE_24))), (u 1, .inl (G.2 0, 8, .inl (Fz 1))), (u 2, .inl (G.2 0, 3, .inl (Fz 2))), (u 3, .inl (G.2 0, 3, .inl (upd (Fz 3) i (sPb Tw i)))), (u 4, .inl (G.2 0, 40, .inl (Fz 4))), (u 5, .inl (G.2 0, 40, .inl (Fz 5))), (u 6, .inl (G.2 0, 9, .inl (Fz 6))), (u 7, .inl (G.2 0, 12, .inl (Fz 7))), (u 8, .inl (G.2 0, 12, .inl (Fz 8))), (u 9, .inl (G.2 0, 10, .inl (upd ((upd (Fz 9) 1 (nI (Nw 1 + 1)))) 1 (nI (((sNote Nw Tw 3 (-1) (nI i)).1) 1 + 1)))))] Hz := hP
                        have hD : va_D A [(u 0, .inl (G.2 1, 64, .inr (.inl zE_24))), (u 1, .inl (G.2 0, 8, .inl (Fz 1))), (u 2, .inl (G.2 0, 3, .inl (Fz 2))), (u 3, .inl (G.2 0, 3, .inl (upd (Fz 3) i (sPb Tw i)))), (u 4, .inl (G.2 0, 40, .inl (Fz 4))), (u 5, .inl (G.2 0, 40, .inl (Fz 5))), (u 6, .inl (G.2 0, 9, .inl (Fz 6))), (u 7, .inl (G.2 0, 12, .inl (Fz 7))), (u 8, .inl (G.2 0, 12, .inl (Fz 8))), (u 9, .inl (G.2 0, 10, .inl (upd ((upd (Fz 9) 1 (nI (Nw 1 + 1)))) 1 (nI (((sNote Nw Tw 3 (-1) (nI i)).1) 1 + 1)))))] := hD
                        refine lv_iconst (v := 1) hx hb dL_look_181 (by decide) ?_
                        refine lv_istore (lv' := [(6, .int 1), (10, .int (zb (decide (Tw 15 i = 1)))), (9, .int (Tw 14 i)), (8, .int (Tw 12 i)), (7, .int (Tw 6 (Tw 11 i).toNatClampNeg)), (0, .ref (u 0)), (1, .ref (u 2)), (2, .ref (u 3)), (3, .ref (u 4)), (4, .ref (u 9)), (5, .int (nI i))]) hx hb dL_look_182 hl (by decide) rfl (fun ls hl => ?_)
                        refine lv_aload_n hx hb dL_look_184 rfl (lv_at hl 7 rfl) ?_
                        refine lv_iload hx hb dL_look_185 (lv_at hl 10 rfl) ?_
                        refine lv_dup2_11 hx hb dL_look_187 rfl rfl ?_
                        refine va_iald hx hb hK hP 3 0 rfl rfl (by first | assumption | exact vp_in_nI (by omega) (by omega)) dL_look_188 ?_
                        refine W.eq (g2 := F0 m 189 ls [.int (sPb Tw i), .int (nI i), .ref (u 3)]) (by first | (rw [nI_clamp (by omega), upd_at]; done) | (rw [nI_clamp (by omega), upd_at]; rfl)) ?_
                        refine lv_iload hx hb dL_look_189 (lv_at hl 0 rfl) ?_
                        refine lv_iconst (v := 1) hx hb dL_look_191 (by decide) ?_
                        refine lv_icmp_ne (tgt := 200) hx hb dL_look_192 (by decide) (fun zc_25 => absurd zc_25 (by decide)) (fun _ => ?_)
                        refine lv_ldc (v := 262144) hx hb hown (hts _ (List.mem_of_getElem? (i := 2) rfl)) dL_look_195 ?_
                        refine lv_goto (tgt := 202) hx hb dL_look_197 (by decide) ?_
                        refine lv_iadd hx hb dL_look_202 ?_
                        refine va_iast hx hb hK hP hD hS 3 0 rfl rfl (by first | assumption | exact sIx_in.mp (by assumption) | exact vp_in_nI (by omega) (by omega)) dL_look_203 (fun Hz Lz hP hD hS => ?_)
                        rw [nI_clamp (by omega)] at hP hD
                        have hP : va_P G.1 vwCl [(u 0, .inl (G.2 1, 64, .inr (.inl zE_24))), (u 1, .inl (G.2 0, 8, .inl (Fz 1))), (u 2, .inl (G.2 0, 3, .inl (Fz 2))), (u 3, .inl (G.2 0, 3, .inl (upd (upd (Fz 3) i (sPb Tw i)) i ((sPb Tw i) + 262144)))), (u 4, .inl (G.2 0, 40, .inl (Fz 4))), (u 5, .inl (G.2 0, 40, .inl (Fz 5))), (u 6, .inl (G.2 0, 9, .inl (Fz 6))), (u 7, .inl (G.2 0, 12, .inl (Fz 7))), (u 8, .inl (G.2 0, 12, .inl (Fz 8))), (u 9, .inl (G.2 0, 10, .inl (upd ((upd (Fz 9) 1 (nI (Nw 1 + 1)))) 1 (nI (((sNote Nw Tw 3 (-1) (nI i)).1) 1 + 1)))))] Hz := hP
                        have hD : va_D A [(u 0, .inl (G.2 1, 64, .inr (.inl zE_24))), (u 1, .inl (G.2 0, 8, .inl (Fz 1))), (u 2, .inl (G.2 0, 3, .inl (Fz 2))), (u 3, .inl (G.2 0, 3, .inl (upd (upd (Fz 3) i (sPb Tw i)) i ((sPb Tw i) + 262144)))), (u 4, .inl (G.2 0, 40, .inl (Fz 4))), (u 5, .inl (G.2 0, 40, .inl (Fz 5))), (u 6, .inl (G.2 0, 9, .inl (Fz 6))), (u 7, .inl (G.2 0, 12, .inl (Fz 7))), (u 8, .inl (G.2 0, 12, .inl (Fz 8))), (u 9, .inl (G.2 0, 10, .inl (upd ((upd (Fz 9) 1 (nI (Nw 1 + 1)))) 1 (nI (((sNote Nw Tw 3 (-1) (nI i)).1) 1 + 1)))))] := hD
                        rw [upd_twice] at hP hD
                        have hP : va_P G.1 vwCl [(u 0, .inl (G.2 1, 64, .inr (.inl zE_24))), (u 1, .inl (G.2 0, 8, .inl (Fz 1))), (u 2, .inl (G.2 0, 3, .inl (Fz 2))), (u 3, .inl (G.2 0, 3, .inl (upd (Fz 3) i ((sPb Tw i) + 262144)))), (u 4, .inl (G.2 0, 40, .inl (Fz 4))), (u 5, .inl (G.2 0, 40, .inl (Fz 5))), (u 6, .inl (G.2 0, 9, .inl (Fz 6))), (u 7, .inl (G.2 0, 12, .inl (Fz 7))), (u 8, .inl (G.2 0, 12, .inl (Fz 8))), (u 9, .inl (G.2 0, 10, .inl (upd ((upd (Fz 9) 1 (nI (Nw 1 + 1)))) 1 (nI (((sNote Nw Tw 3 (-1) (nI i)).1) 1 + 1)))))] Hz := hP
                        have hD : va_D A [(u 0, .inl (G.2 1, 64, .inr (.inl zE_24))), (u 1, .inl (G.2 0, 8, .inl (Fz 1))), (u 2, .inl (G.2 0, 3, .inl (Fz 2))), (u 3, .inl (G.2 0, 3, .inl (upd (Fz 3) i ((sPb Tw i) + 262144)))), (u 4, .inl (G.2 0, 40, .inl (Fz 4))), (u 5, .inl (G.2 0, 40, .inl (Fz 5))), (u 6, .inl (G.2 0, 9, .inl (Fz 6))), (u 7, .inl (G.2 0, 12, .inl (Fz 7))), (u 8, .inl (G.2 0, 12, .inl (Fz 8))), (u 9, .inl (G.2 0, 10, .inl (upd ((upd (Fz 9) 1 (nI (Nw 1 + 1)))) 1 (nI (((sNote Nw Tw 3 (-1) (nI i)).1) 1 + 1)))))] := hD
                        have heqw : sWatch Nw Tw i = ((sNote ((sNote Nw Tw 3 (-1) (nI i)).1) (va_up ((sNote Nw Tw 3 (-1) (nI i)).2) 3 (upd (((sNote Nw Tw 3 (-1) (nI i)).2) 3) (Tw 14 i).toNatClampNeg (zb (decide (Tw 15 i = 1))))) 0 (-1) (Tw 14 i + if decide (Tw 15 i = 1) = true then (10 : Int32) else 0)).1, va_up (sNote ((sNote Nw Tw 3 (-1) (nI i)).1) (va_up ((sNote Nw Tw 3 (-1) (nI i)).2) 3 (upd (((sNote Nw Tw 3 (-1) (nI i)).2) 3) (Tw 14 i).toNatClampNeg (zb (decide (Tw 15 i = 1))))) 0 (-1) (Tw 14 i + if decide (Tw 15 i = 1) = true then (10 : Int32) else 0)).2 16 (upd ((sNote ((sNote Nw Tw 3 (-1) (nI i)).1) (va_up ((sNote Nw Tw 3 (-1) (nI i)).2) 3 (upd (((sNote Nw Tw 3 (-1) (nI i)).2) 3) (Tw 14 i).toNatClampNeg (zb (decide (Tw 15 i = 1))))) 0 (-1) (Tw 14 i + if decide (Tw 15 i = 1) = true then (10 : Int32) else 0)).2 16) i 1)) := by rw [sWatch_go hmet hs1, hra]; refine (sWatch1_t hon).trans ?_; exact congrArg (fun S : zS => (S.1, va_up S.2 16 (upd (S.2 16) i 1))) (sTurn_y h3e)
                        have hRn : sLR (sWatches (i + 1) N T).1 (sWatches (i + 1) N T).2 zE_24 (va_up (va_up (va_up Fz 3 (upd (Fz 3) i ((sPb Tw i) + 262144))) 9 (upd (Fz 9) 1 (nI (Nw 1 + 1)))) 9 (upd ((upd (Fz 9) 1 (nI (Nw 1 + 1)))) 1 (nI (((sNote Nw Tw 3 (-1) (nI i)).1) 1 + 1)))) := by
                          show sLR (sWatch (sWatches i N T).1 (sWatches i N T).2 i).1 (sWatch (sWatches i N T).1 (sWatches i N T).2 i).2 _ _
                          rw [hst]
                          exact sLR_w (i := i) hRw sWatch_keep sWatch_6.1 sWatch_6.2.1 sWatch_6.2.2.1 (by rw [heqw]; exact hzE_24) (fun k hk3 hk9 => by simp [va_up, hk3, hk9]) (fun j => by rw [heqw]; exact nt2) (by rw [heqw]; show (upd (Fz 3) i ((sPb Tw i) + 262144)) = upd (Fz 3) i (sPb Tw i + 262144 * upd (((sNote Nw Tw 3 (-1) (nI i)).2) 16) i 1 i); rw [upd_at, Int32.mul_one]) (fun a ha => by rw [heqw]; exact upd_no ha)
                        refine lv_iinc (v := (nI (i + 1))) (lv' := [(5, .int (nI (i + 1))), (6, .int 1), (10, .int (zb (decide (Tw 15 i = 1)))), (9, .int (Tw 14 i)), (8, .int (Tw 12 i)), (7, .int (Tw 6 (Tw 11 i).toNatClampNeg)), (0, .ref (u 0)), (1, .ref (u 2)), (2, .ref (u 3)), (3, .ref (u 4)), (4, .ref (u 9))]) hx hb dL_look_204 hl (k := 10) rfl (by first | exact nI_1 _ | rfl) (by decide) rfl (fun ls hl => ?_)
                        refine lv_goto (tgt := 3) hx hb dL_look_207 (by decide) ?_
                        have hl2 := lv_sub (l' := [(0, .ref (u 0)), (1, .ref (u 2)), (2, .ref (u 3)), (3, .ref (u 4)), (4, .ref (u 9)), (5, .int (nI (i + 1)))]) hl [6, 7, 8, 9, 10, 0] rfl
                        exact ih (i + 1) (by omega) (by omega) _ _ hRn _ _ hP hD hS ls hl2
                      refine lv_iload hx hb dL_look_166 (lv_at hl 0 rfl) ?_
                      refine lv_if_eq (tgt := 176) hx hb dL_look_168 (by decide) (fun zc_26 => ?_) (fun zc_26 => ?_)
                      · skip
                        have zc_26 := zb_0.mp zc_26
                        refine lv_iconst (v := 0) hx hb dL_look_176 (by decide) ?_
                        exact W.eq (congrArg (fun z : Int32 => F0 m 177 ls [.int z, .int (Tw 14 i), .int (-1), .int 0, .ref (u 9), .ref (u 0)]) (show (0 : Int32) = if decide (Tw 15 i = 1) = true then (10 : Int32) else 0 from (by simp [zc_26]))) cut_177
                      · skip
                        have zc_26 := zb_n0 zc_26
                        refine lv_bipush (v := 10) hx hb dL_look_171 (by decide) ?_
                        refine lv_goto (tgt := 177) hx hb dL_look_173 (by decide) ?_
                        exact W.eq (congrArg (fun z : Int32 => F0 m 177 ls [.int z, .int (Tw 14 i), .int (-1), .int 0, .ref (u 9), .ref (u 0)]) (show (10 : Int32) = if decide (Tw 15 i = 1) = true then (10 : Int32) else 0 from (by simp [zc_26]))) cut_177
            · skip
              have zd_3 := Int32.not_le.mp zc_3
              have hmet : sMet Tw i = false := by rw [sMet, if_pos h13]; exact decide_eq_false zc_3
              refine lv_goto (tgt := 204) hx hb dL_look_110 (by decide) ?_
              have heqw : sWatch Nw Tw i = (Nw, va_up Tw 16 (upd (Tw 16) i 0)) := sWatch_un hmet
              have hRn : sLR (sWatches (i + 1) N T).1 (sWatches (i + 1) N T).2 Ez (va_up Fz 3 (upd (Fz 3) i (sPb Tw i))) := by
                show sLR (sWatch (sWatches i N T).1 (sWatches i N T).2 i).1 (sWatch (sWatches i N T).1 (sWatches i N T).2 i).2 _ _
                rw [hst]
                exact sLR_w (i := i) hRw sWatch_keep sWatch_6.1 sWatch_6.2.1 sWatch_6.2.2.1 (by rw [heqw]; exact hRw.1) (fun k hk3 hk9 => by simp [va_up, hk3, hk9]) (fun j => by rw [heqw]; exact nt0 hR9w.2.1) (by rw [heqw]; show (upd (Fz 3) i (sPb Tw i)) = upd (Fz 3) i (sPb Tw i + 262144 * upd (Tw 16) i 0 i); rw [upd_at, Int32.mul_zero, Int32.add_zero]) (fun a ha => by rw [heqw]; exact upd_no ha)
              refine lv_iinc (v := (nI (i + 1))) (lv' := [(5, .int (nI (i + 1))), (10, .int (zb (decide (Tw 15 i = 1)))), (9, .int (Tw 14 i)), (8, .int (Tw 12 i)), (7, .int (Tw 6 (Tw 11 i).toNatClampNeg)), (6, .int (Tw 16 i)), (0, .ref (u 0)), (1, .ref (u 2)), (2, .ref (u 3)), (3, .ref (u 4)), (4, .ref (u 9))]) hx hb dL_look_204 hl (k := 10) rfl (by first | exact nI_1 _ | rfl) (by decide) rfl (fun ls hl => ?_)
              refine lv_goto (tgt := 3) hx hb dL_look_207 (by decide) ?_
              have hl2 := lv_sub (l' := [(0, .ref (u 0)), (1, .ref (u 2)), (2, .ref (u 3)), (3, .ref (u 4)), (4, .ref (u 9)), (5, .int (nI (i + 1)))]) hl [6, 7, 8, 9, 10, 0] rfl
              exact ih (i + 1) (by omega) (by omega) _ _ hRn _ _ hP hD hS ls hl2
          · skip
            have zd_2 := Int32.not_le.mp zc_2
            have h13 : ¬ Tw 13 i = 0 := fun z => zc_2 (z13.mpr z)
            refine lv_iload hx hb dL_look_93 (lv_at hl 3 rfl) ?_
            refine lv_iload hx hb dL_look_95 (lv_at hl 2 rfl) ?_
            refine lv_icmp_ge (tgt := 113) hx hb dL_look_97 (by decide) (fun zc_27 => ?_) (fun zc_27 => ?_)
            · skip
              have zd_27 := Int32.not_lt.mpr zc_27
              have hmet : sMet Tw i = true := by rw [sMet, if_neg h13]; exact decide_eq_true zc_27
              refine lv_iload hx hb dL_look_113 (lv_at hl 4 rfl) ?_
              refine lv_if_ne (tgt := 128) hx hb dL_look_115 (by decide) (fun zc_28 => ?_) (fun zc_28 => ?_)
              · skip
                have hs16 := zc_28
                have hQc := hQw.f3 (upd (Fz 3) i (sPb Tw i))
                have hra := sRaise_n (N := Nw) hs16
                refine lv_iload hx hb dL_look_128 (lv_at hl 4 rfl) ?_
                refine lv_iconst (v := 1) hx hb dL_look_130 (by decide) ?_
                refine lv_icmp_eq (tgt := 184) hx hb dL_look_131 (by decide) (fun zc_29 => ?_) (fun zc_29 => ?_)
                · skip
                  have hs1 := zc_29
                  refine lv_aload_n hx hb dL_look_184 rfl (lv_at hl 7 rfl) ?_
                  refine lv_iload hx hb dL_look_185 (lv_at hl 10 rfl) ?_
                  refine lv_dup2_11 hx hb dL_look_187 rfl rfl ?_
                  refine va_iald hx hb hK hP 3 0 rfl rfl (by first | assumption | exact vp_in_nI (by omega) (by omega)) dL_look_188 ?_
                  refine W.eq (g2 := F0 m 189 ls [.int (sPb Tw i), .int (nI i), .ref (u 3)]) (by first | (rw [nI_clamp (by omega), upd_at]; done) | (rw [nI_clamp (by omega), upd_at]; rfl)) ?_
                  refine lv_iload hx hb dL_look_189 (lv_at hl 4 rfl) ?_
                  refine lv_iconst (v := 1) hx hb dL_look_191 (by decide) ?_
                  refine lv_icmp_ne (tgt := 200) hx hb dL_look_192 (by decide) (fun zc_30 => ?_) (fun zc_30 => ?_)
                  · skip
                    exact absurd hs1 zc_30
                  · skip
                    refine lv_ldc (v := 262144) hx hb hown (hts _ (List.mem_of_getElem? (i := 2) rfl)) dL_look_195 ?_
                    refine lv_goto (tgt := 202) hx hb dL_look_197 (by decide) ?_
                    refine lv_iadd hx hb dL_look_202 ?_
                    refine va_iast hx hb hK hP hD hS 3 0 rfl rfl (by first | assumption | exact sIx_in.mp (by assumption) | exact vp_in_nI (by omega) (by omega)) dL_look_203 (fun Hz Lz hP hD hS => ?_)
                    rw [nI_clamp (by omega)] at hP hD
                    have hP : va_P G.1 vwCl [(u 0, .inl (G.2 1, 64, .inr (.inl Ez))), (u 1, .inl (G.2 0, 8, .inl (Fz 1))), (u 2, .inl (G.2 0, 3, .inl (Fz 2))), (u 3, .inl (G.2 0, 3, .inl (upd (upd (Fz 3) i (sPb Tw i)) i ((sPb Tw i) + 262144)))), (u 4, .inl (G.2 0, 40, .inl (Fz 4))), (u 5, .inl (G.2 0, 40, .inl (Fz 5))), (u 6, .inl (G.2 0, 9, .inl (Fz 6))), (u 7, .inl (G.2 0, 12, .inl (Fz 7))), (u 8, .inl (G.2 0, 12, .inl (Fz 8))), (u 9, .inl (G.2 0, 10, .inl (Fz 9)))] Hz := hP
                    have hD : va_D A [(u 0, .inl (G.2 1, 64, .inr (.inl Ez))), (u 1, .inl (G.2 0, 8, .inl (Fz 1))), (u 2, .inl (G.2 0, 3, .inl (Fz 2))), (u 3, .inl (G.2 0, 3, .inl (upd (upd (Fz 3) i (sPb Tw i)) i ((sPb Tw i) + 262144)))), (u 4, .inl (G.2 0, 40, .inl (Fz 4))), (u 5, .inl (G.2 0, 40, .inl (Fz 5))), (u 6, .inl (G.2 0, 9, .inl (Fz 6))), (u 7, .inl (G.2 0, 12, .inl (Fz 7))), (u 8, .inl (G.2 0, 12, .inl (Fz 8))), (u 9, .inl (G.2 0, 10, .inl (Fz 9)))] := hD
                    rw [upd_twice] at hP hD
                    have hP : va_P G.1 vwCl [(u 0, .inl (G.2 1, 64, .inr (.inl Ez))), (u 1, .inl (G.2 0, 8, .inl (Fz 1))), (u 2, .inl (G.2 0, 3, .inl (Fz 2))), (u 3, .inl (G.2 0, 3, .inl (upd (Fz 3) i ((sPb Tw i) + 262144)))), (u 4, .inl (G.2 0, 40, .inl (Fz 4))), (u 5, .inl (G.2 0, 40, .inl (Fz 5))), (u 6, .inl (G.2 0, 9, .inl (Fz 6))), (u 7, .inl (G.2 0, 12, .inl (Fz 7))), (u 8, .inl (G.2 0, 12, .inl (Fz 8))), (u 9, .inl (G.2 0, 10, .inl (Fz 9)))] Hz := hP
                    have hD : va_D A [(u 0, .inl (G.2 1, 64, .inr (.inl Ez))), (u 1, .inl (G.2 0, 8, .inl (Fz 1))), (u 2, .inl (G.2 0, 3, .inl (Fz 2))), (u 3, .inl (G.2 0, 3, .inl (upd (Fz 3) i ((sPb Tw i) + 262144)))), (u 4, .inl (G.2 0, 40, .inl (Fz 4))), (u 5, .inl (G.2 0, 40, .inl (Fz 5))), (u 6, .inl (G.2 0, 9, .inl (Fz 6))), (u 7, .inl (G.2 0, 12, .inl (Fz 7))), (u 8, .inl (G.2 0, 12, .inl (Fz 8))), (u 9, .inl (G.2 0, 10, .inl (Fz 9)))] := hD
                    have heqw : sWatch Nw Tw i = (Nw, Tw) := sWatch_an hmet hs1
                    have hRn : sLR (sWatches (i + 1) N T).1 (sWatches (i + 1) N T).2 Ez (va_up Fz 3 (upd (Fz 3) i ((sPb Tw i) + 262144))) := by
                      show sLR (sWatch (sWatches i N T).1 (sWatches i N T).2 i).1 (sWatch (sWatches i N T).1 (sWatches i N T).2 i).2 _ _
                      rw [hst]
                      exact sLR_w (i := i) hRw sWatch_keep sWatch_6.1 sWatch_6.2.1 sWatch_6.2.2.1 (by rw [heqw]; exact hRw.1) (fun k hk3 hk9 => by simp [va_up, hk3, hk9]) (fun j => by rw [heqw]; exact nt0 hR9w.2.1) (by rw [heqw]; show (upd (Fz 3) i ((sPb Tw i) + 262144)) = upd (Fz 3) i (sPb Tw i + 262144 * Tw 16 i); rw [hs1, Int32.mul_one]) (fun a ha => by rw [heqw])
                    refine lv_iinc (v := (nI (i + 1))) (lv' := [(5, .int (nI (i + 1))), (10, .int (zb (decide (Tw 15 i = 1)))), (9, .int (Tw 14 i)), (8, .int (Tw 12 i)), (7, .int (Tw 6 (Tw 11 i).toNatClampNeg)), (6, .int (Tw 16 i)), (0, .ref (u 0)), (1, .ref (u 2)), (2, .ref (u 3)), (3, .ref (u 4)), (4, .ref (u 9))]) hx hb dL_look_204 hl (k := 10) rfl (by first | exact nI_1 _ | rfl) (by decide) rfl (fun ls hl => ?_)
                    refine lv_goto (tgt := 3) hx hb dL_look_207 (by decide) ?_
                    have hl2 := lv_sub (l' := [(0, .ref (u 0)), (1, .ref (u 2)), (2, .ref (u 3)), (3, .ref (u 4)), (4, .ref (u 9)), (5, .int (nI (i + 1)))]) hl [6, 7, 8, 9, 10, 0] rfl
                    exact ih (i + 1) (by omega) (by omega) _ _ hRn _ _ hP hD hS ls hl2
                · skip
                  have hs1 := zc_29
                  refine lv_aload_n hx hb dL_look_134 rfl (lv_at hl 5 rfl) ?_
                  refine lv_aload_n hx hb dL_look_135 rfl (lv_at hl 8 rfl) ?_
                  refine lv_aload hx hb dL_look_136 (lv_at hl 9 rfl) ?_
                  refine lv_iload hx hb dL_look_138 (lv_at hl 1 rfl) ?_
                  refine z_csi (va_Run.run (va_runS (As := [.ref (u 0), .ref (u 4), .ref (u 9), .int (Tw 14 i)]) (rest := []) ⟨hx, hb, hml, hown, hts⟩ (c_L_hanging l G u Ez (va_up Fz 3 (upd (Fz 3) i (sPb Tw i))) Nw Tw (Tw 14 i) hQc) (va_cwS 4 hts gL_look_L_hanging rfl rfl rfl (by decide +kernel) ⟨Nat.le_of_ble_eq_true rfl, Nat.le_of_ble_eq_true rfl⟩) (z_ps hK hP) rfl rfl hl.1 rfl (lv_room (Nat.le_of_ble_eq_true rfl)) dL_look_140 ⟨(Nat.zero_le _), (Nat.zero_le _)⟩)) (fun zr_31 hzr_31 => ?_)
                  subst hzr_31
                  refine lv_if_ne (tgt := 184) hx hb dL_look_143 (by decide) (fun zc_32 => ?_) (fun zc_32 => ?_)
                  · skip
                    have hon : ¬ sOn Nw Tw (Tw 14 i) = 0 := fun z => zc_32 (by rw [z]; rfl)
                    refine lv_aload_n hx hb dL_look_184 rfl (lv_at hl 7 rfl) ?_
                    refine lv_iload hx hb dL_look_185 (lv_at hl 10 rfl) ?_
                    refine lv_dup2_11 hx hb dL_look_187 rfl rfl ?_
                    refine va_iald hx hb hK hP 3 0 rfl rfl (by first | assumption | exact vp_in_nI (by omega) (by omega)) dL_look_188 ?_
                    refine W.eq (g2 := F0 m 189 ls [.int (sPb Tw i), .int (nI i), .ref (u 3)]) (by first | (rw [nI_clamp (by omega), upd_at]; done) | (rw [nI_clamp (by omega), upd_at]; rfl)) ?_
                    refine lv_iload hx hb dL_look_189 (lv_at hl 4 rfl) ?_
                    refine lv_iconst (v := 1) hx hb dL_look_191 (by decide) ?_
                    refine lv_icmp_ne (tgt := 200) hx hb dL_look_192 (by decide) (fun zc_33 => ?_) (fun zc_33 => ?_)
                    · skip
                      refine lv_ldc (v := 524288) hx hb hown (hts _ (List.mem_of_getElem? (i := 3) rfl)) dL_look_200 ?_
                      refine lv_iadd hx hb dL_look_202 ?_
                      refine va_iast hx hb hK hP hD hS 3 0 rfl rfl (by first | assumption | exact sIx_in.mp (by assumption) | exact vp_in_nI (by omega) (by omega)) dL_look_203 (fun Hz Lz hP hD hS => ?_)
                      rw [nI_clamp (by omega)] at hP hD
                      have hP : va_P G.1 vwCl [(u 0, .inl (G.2 1, 64, .inr (.inl Ez))), (u 1, .inl (G.2 0, 8, .inl (Fz 1))), (u 2, .inl (G.2 0, 3, .inl (Fz 2))), (u 3, .inl (G.2 0, 3, .inl (upd (upd (Fz 3) i (sPb Tw i)) i ((sPb Tw i) + 524288)))), (u 4, .inl (G.2 0, 40, .inl (Fz 4))), (u 5, .inl (G.2 0, 40, .inl (Fz 5))), (u 6, .inl (G.2 0, 9, .inl (Fz 6))), (u 7, .inl (G.2 0, 12, .inl (Fz 7))), (u 8, .inl (G.2 0, 12, .inl (Fz 8))), (u 9, .inl (G.2 0, 10, .inl (Fz 9)))] Hz := hP
                      have hD : va_D A [(u 0, .inl (G.2 1, 64, .inr (.inl Ez))), (u 1, .inl (G.2 0, 8, .inl (Fz 1))), (u 2, .inl (G.2 0, 3, .inl (Fz 2))), (u 3, .inl (G.2 0, 3, .inl (upd (upd (Fz 3) i (sPb Tw i)) i ((sPb Tw i) + 524288)))), (u 4, .inl (G.2 0, 40, .inl (Fz 4))), (u 5, .inl (G.2 0, 40, .inl (Fz 5))), (u 6, .inl (G.2 0, 9, .inl (Fz 6))), (u 7, .inl (G.2 0, 12, .inl (Fz 7))), (u 8, .inl (G.2 0, 12, .inl (Fz 8))), (u 9, .inl (G.2 0, 10, .inl (Fz 9)))] := hD
                      rw [upd_twice] at hP hD
                      have hP : va_P G.1 vwCl [(u 0, .inl (G.2 1, 64, .inr (.inl Ez))), (u 1, .inl (G.2 0, 8, .inl (Fz 1))), (u 2, .inl (G.2 0, 3, .inl (Fz 2))), (u 3, .inl (G.2 0, 3, .inl (upd (Fz 3) i ((sPb Tw i) + 524288)))), (u 4, .inl (G.2 0, 40, .inl (Fz 4))), (u 5, .inl (G.2 0, 40, .inl (Fz 5))), (u 6, .inl (G.2 0, 9, .inl (Fz 6))), (u 7, .inl (G.2 0, 12, .inl (Fz 7))), (u 8, .inl (G.2 0, 12, .inl (Fz 8))), (u 9, .inl (G.2 0, 10, .inl (Fz 9)))] Hz := hP
                      have hD : va_D A [(u 0, .inl (G.2 1, 64, .inr (.inl Ez))), (u 1, .inl (G.2 0, 8, .inl (Fz 1))), (u 2, .inl (G.2 0, 3, .inl (Fz 2))), (u 3, .inl (G.2 0, 3, .inl (upd (Fz 3) i ((sPb Tw i) + 524288)))), (u 4, .inl (G.2 0, 40, .inl (Fz 4))), (u 5, .inl (G.2 0, 40, .inl (Fz 5))), (u 6, .inl (G.2 0, 9, .inl (Fz 6))), (u 7, .inl (G.2 0, 12, .inl (Fz 7))), (u 8, .inl (G.2 0, 12, .inl (Fz 8))), (u 9, .inl (G.2 0, 10, .inl (Fz 9)))] := hD
                      have heqw : sWatch Nw Tw i = (Nw, va_up Tw 16 (upd (Tw 16) i 2)) := by rw [sWatch_go hmet hs1, hra]; exact sWatch1_w hon
                      have hRn : sLR (sWatches (i + 1) N T).1 (sWatches (i + 1) N T).2 Ez (va_up Fz 3 (upd (Fz 3) i ((sPb Tw i) + 524288))) := by
                        show sLR (sWatch (sWatches i N T).1 (sWatches i N T).2 i).1 (sWatch (sWatches i N T).1 (sWatches i N T).2 i).2 _ _
                        rw [hst]
                        exact sLR_w (i := i) hRw sWatch_keep sWatch_6.1 sWatch_6.2.1 sWatch_6.2.2.1 (by rw [heqw]; exact hRw.1) (fun k hk3 hk9 => by simp [va_up, hk3, hk9]) (fun j => by rw [heqw]; exact nt0 hR9w.2.1) (by rw [heqw]; show (upd (Fz 3) i ((sPb Tw i) + 524288)) = upd (Fz 3) i (sPb Tw i + 262144 * upd (Tw 16) i 2 i); rw [upd_at, show (262144 : Int32) * 2 = 524288 from by decide]) (fun a ha => by rw [heqw]; exact upd_no ha)
                      refine lv_iinc (v := (nI (i + 1))) (lv' := [(5, .int (nI (i + 1))), (10, .int (zb (decide (Tw 15 i = 1)))), (9, .int (Tw 14 i)), (8, .int (Tw 12 i)), (7, .int (Tw 6 (Tw 11 i).toNatClampNeg)), (6, .int (Tw 16 i)), (0, .ref (u 0)), (1, .ref (u 2)), (2, .ref (u 3)), (3, .ref (u 4)), (4, .ref (u 9))]) hx hb dL_look_204 hl (k := 10) rfl (by first | exact nI_1 _ | rfl) (by decide) rfl (fun ls hl => ?_)
                      refine lv_goto (tgt := 3) hx hb dL_look_207 (by decide) ?_
                      have hl2 := lv_sub (l' := [(0, .ref (u 0)), (1, .ref (u 2)), (2, .ref (u 3)), (3, .ref (u 4)), (4, .ref (u 9)), (5, .int (nI (i + 1)))]) hl [6, 7, 8, 9, 10, 0] rfl
                      exact ih (i + 1) (by omega) (by omega) _ _ hRn _ _ hP hD hS ls hl2
                    · skip
                      exact absurd zc_33 hs1
                  · skip
                    have hon : sOn Nw Tw (Tw 14 i) = 0 := (nI_eq (b := 0) (Nat.lt_of_le_of_lt (sCnt_le _ _) (by have := hQc.2.1.2.1; omega)) (by omega)).mp zc_32
                    refine lv_aload_n hx hb dL_look_146 rfl (lv_at hl 5 rfl) ?_
                    refine lv_aload hx hb dL_look_147 (lv_at hl 9 rfl) ?_
                    refine lv_iload hx hb dL_look_149 (lv_at hl 1 rfl) ?_
                    refine z_csi (va_Run.run (va_runS (As := [.ref (u 0), .ref (u 9), .int (Tw 14 i)]) (rest := []) ⟨hx, hb, hml, hown, hts⟩ (c_L_opened l G u Ez (va_up Fz 3 (upd (Fz 3) i (sPb Tw i))) Nw Tw (Tw 14 i) hQc hwa.2.2.1) (va_cwS 3 hts gL_look_L_opened rfl rfl rfl (by decide +kernel) ⟨Nat.le_of_ble_eq_true rfl, Nat.le_of_ble_eq_true rfl⟩) (z_ps hK hP) rfl rfl hl.1 rfl (lv_room (Nat.le_of_ble_eq_true rfl)) dL_look_151 ⟨(Nat.zero_le _), (Nat.zero_le _)⟩)) (fun zr_34 hzr_34 => ?_)
                    subst hzr_34
                    refine lv_iload hx hb dL_look_154 (lv_at hl 0 rfl) ?_
                    refine lv_icmp_eq (tgt := 181) hx hb dL_look_156 (by decide) (fun zc_35 => ?_) (fun zc_35 => ?_)
                    · skip
                      have h3e := zc_35
                      refine lv_iconst (v := 1) hx hb dL_look_181 (by decide) ?_
                      refine lv_istore (lv' := [(6, .int 1), (10, .int (zb (decide (Tw 15 i = 1)))), (9, .int (Tw 14 i)), (8, .int (Tw 12 i)), (7, .int (Tw 6 (Tw 11 i).toNatClampNeg)), (0, .ref (u 0)), (1, .ref (u 2)), (2, .ref (u 3)), (3, .ref (u 4)), (4, .ref (u 9)), (5, .int (nI i))]) hx hb dL_look_182 hl (by decide) rfl (fun ls hl => ?_)
                      refine lv_aload_n hx hb dL_look_184 rfl (lv_at hl 7 rfl) ?_
                      refine lv_iload hx hb dL_look_185 (lv_at hl 10 rfl) ?_
                      refine lv_dup2_11 hx hb dL_look_187 rfl rfl ?_
                      refine va_iald hx hb hK hP 3 0 rfl rfl (by first | assumption | exact vp_in_nI (by omega) (by omega)) dL_look_188 ?_
                      refine W.eq (g2 := F0 m 189 ls [.int (sPb Tw i), .int (nI i), .ref (u 3)]) (by first | (rw [nI_clamp (by omega), upd_at]; done) | (rw [nI_clamp (by omega), upd_at]; rfl)) ?_
                      refine lv_iload hx hb dL_look_189 (lv_at hl 0 rfl) ?_
                      refine lv_iconst (v := 1) hx hb dL_look_191 (by decide) ?_
                      refine lv_icmp_ne (tgt := 200) hx hb dL_look_192 (by decide) (fun zc_36 => absurd zc_36 (by decide)) (fun _ => ?_)
                      refine lv_ldc (v := 262144) hx hb hown (hts _ (List.mem_of_getElem? (i := 2) rfl)) dL_look_195 ?_
                      refine lv_goto (tgt := 202) hx hb dL_look_197 (by decide) ?_
                      refine lv_iadd hx hb dL_look_202 ?_
                      refine va_iast hx hb hK hP hD hS 3 0 rfl rfl (by first | assumption | exact sIx_in.mp (by assumption) | exact vp_in_nI (by omega) (by omega)) dL_look_203 (fun Hz Lz hP hD hS => ?_)
                      rw [nI_clamp (by omega)] at hP hD
                      have hP : va_P G.1 vwCl [(u 0, .inl (G.2 1, 64, .inr (.inl Ez))), (u 1, .inl (G.2 0, 8, .inl (Fz 1))), (u 2, .inl (G.2 0, 3, .inl (Fz 2))), (u 3, .inl (G.2 0, 3, .inl (upd (upd (Fz 3) i (sPb Tw i)) i ((sPb Tw i) + 262144)))), (u 4, .inl (G.2 0, 40, .inl (Fz 4))), (u 5, .inl (G.2 0, 40, .inl (Fz 5))), (u 6, .inl (G.2 0, 9, .inl (Fz 6))), (u 7, .inl (G.2 0, 12, .inl (Fz 7))), (u 8, .inl (G.2 0, 12, .inl (Fz 8))), (u 9, .inl (G.2 0, 10, .inl (Fz 9)))] Hz := hP
                      have hD : va_D A [(u 0, .inl (G.2 1, 64, .inr (.inl Ez))), (u 1, .inl (G.2 0, 8, .inl (Fz 1))), (u 2, .inl (G.2 0, 3, .inl (Fz 2))), (u 3, .inl (G.2 0, 3, .inl (upd (upd (Fz 3) i (sPb Tw i)) i ((sPb Tw i) + 262144)))), (u 4, .inl (G.2 0, 40, .inl (Fz 4))), (u 5, .inl (G.2 0, 40, .inl (Fz 5))), (u 6, .inl (G.2 0, 9, .inl (Fz 6))), (u 7, .inl (G.2 0, 12, .inl (Fz 7))), (u 8, .inl (G.2 0, 12, .inl (Fz 8))), (u 9, .inl (G.2 0, 10, .inl (Fz 9)))] := hD
                      rw [upd_twice] at hP hD
                      have hP : va_P G.1 vwCl [(u 0, .inl (G.2 1, 64, .inr (.inl Ez))), (u 1, .inl (G.2 0, 8, .inl (Fz 1))), (u 2, .inl (G.2 0, 3, .inl (Fz 2))), (u 3, .inl (G.2 0, 3, .inl (upd (Fz 3) i ((sPb Tw i) + 262144)))), (u 4, .inl (G.2 0, 40, .inl (Fz 4))), (u 5, .inl (G.2 0, 40, .inl (Fz 5))), (u 6, .inl (G.2 0, 9, .inl (Fz 6))), (u 7, .inl (G.2 0, 12, .inl (Fz 7))), (u 8, .inl (G.2 0, 12, .inl (Fz 8))), (u 9, .inl (G.2 0, 10, .inl (Fz 9)))] Hz := hP
                      have hD : va_D A [(u 0, .inl (G.2 1, 64, .inr (.inl Ez))), (u 1, .inl (G.2 0, 8, .inl (Fz 1))), (u 2, .inl (G.2 0, 3, .inl (Fz 2))), (u 3, .inl (G.2 0, 3, .inl (upd (Fz 3) i ((sPb Tw i) + 262144)))), (u 4, .inl (G.2 0, 40, .inl (Fz 4))), (u 5, .inl (G.2 0, 40, .inl (Fz 5))), (u 6, .inl (G.2 0, 9, .inl (Fz 6))), (u 7, .inl (G.2 0, 12, .inl (Fz 7))), (u 8, .inl (G.2 0, 12, .inl (Fz 8))), (u 9, .inl (G.2 0, 10, .inl (Fz 9)))] := hD
                      have heqw : sWatch Nw Tw i = (Nw, va_up Tw 16 (upd (Tw 16) i 1)) := by rw [sWatch_go hmet hs1, hra]; refine (sWatch1_t hon).trans ?_; exact congrArg (fun S : zS => (S.1, va_up S.2 16 (upd (S.2 16) i 1))) (sTurn_n h3e)
                      have hRn : sLR (sWatches (i + 1) N T).1 (sWatches (i + 1) N T).2 Ez (va_up Fz 3 (upd (Fz 3) i ((sPb Tw i) + 262144))) := by
                        show sLR (sWatch (sWatches i N T).1 (sWatches i N T).2 i).1 (sWatch (sWatches i N T).1 (sWatches i N T).2 i).2 _ _
                        rw [hst]
                        exact sLR_w (i := i) hRw sWatch_keep sWatch_6.1 sWatch_6.2.1 sWatch_6.2.2.1 (by rw [heqw]; exact hRw.1) (fun k hk3 hk9 => by simp [va_up, hk3, hk9]) (fun j => by rw [heqw]; exact nt0 hR9w.2.1) (by rw [heqw]; show (upd (Fz 3) i ((sPb Tw i) + 262144)) = upd (Fz 3) i (sPb Tw i + 262144 * upd (Tw 16) i 1 i); rw [upd_at, Int32.mul_one]) (fun a ha => by rw [heqw]; exact upd_no ha)
                      refine lv_iinc (v := (nI (i + 1))) (lv' := [(5, .int (nI (i + 1))), (6, .int 1), (10, .int (zb (decide (Tw 15 i = 1)))), (9, .int (Tw 14 i)), (8, .int (Tw 12 i)), (7, .int (Tw 6 (Tw 11 i).toNatClampNeg)), (0, .ref (u 0)), (1, .ref (u 2)), (2, .ref (u 3)), (3, .ref (u 4)), (4, .ref (u 9))]) hx hb dL_look_204 hl (k := 10) rfl (by first | exact nI_1 _ | rfl) (by decide) rfl (fun ls hl => ?_)
                      refine lv_goto (tgt := 3) hx hb dL_look_207 (by decide) ?_
                      have hl2 := lv_sub (l' := [(0, .ref (u 0)), (1, .ref (u 2)), (2, .ref (u 3)), (3, .ref (u 4)), (4, .ref (u 9)), (5, .int (nI (i + 1)))]) hl [6, 7, 8, 9, 10, 0] rfl
                      exact ih (i + 1) (by omega) (by omega) _ _ hRn _ _ hP hD hS ls hl2
                    · skip
                      have h3e := zc_35
                      refine lv_aload_n hx hb dL_look_159 rfl (lv_at hl 5 rfl) ?_
                      refine lv_aload hx hb dL_look_160 (lv_at hl 9 rfl) ?_
                      refine lv_iconst (v := 0) hx hb dL_look_162 (by decide) ?_
                      refine lv_iconst (v := (-1)) hx hb dL_look_163 (by decide) ?_
                      refine lv_iload hx hb dL_look_164 (lv_at hl 1 rfl) ?_
                      have cut_177 : W p l e (headSpec wsL_look ({ frames := 3, cells := 0, slots := 0, locals := 71 })).room s m ([.ref (u 0), .ref (u 2), .ref (u 3), .ref (u 4), .ref (u 9)] : List Value).toArray below meth c Hz Lz 0 0 (MQ below (va_Qv (fun w1 : va_W => ∃ (E1 : Nat → Int64) (F1 : Nat → Nat → Int32), w1 = LW G u E1 F1 ∧ sLR (sWatches (N 3) N T).1 (sWatches (N 3) N T).2 E1 F1) (zB G A) A) ([.ref (u 0), .ref (u 2), .ref (u 3), .ref (u 4), .ref (u 9)] : List Value).toArray s 0 0 A) (F0 m 177 ls [.int (if decide (Tw 15 i = 1) = true then (10 : Int32) else 0), .int (Tw 14 i), .int (-1), .int 0, .ref (u 9), .ref (u 0)]) := by
                        refine lv_iadd hx hb dL_look_177 ?_
                        refine z_cuv (va_runS (As := [.ref (u 0), .ref (u 9), .int 0, .int (-1), .int ((Tw 14 i) + (if decide (Tw 15 i = 1) = true then (10 : Int32) else 0))]) (rest := []) ⟨hx, hb, hml, hown, hts⟩ (c_L_note l G u Ez (va_up Fz 3 (upd (Fz 3) i (sPb Tw i))) (Tw 0) (Nw 1) (Nw 0) 0 (-1) ((Tw 14 i) + (if decide (Tw 15 i = 1) = true then (10 : Int32) else 0)) Hz.size hQc.1 (by have := hQc.2.1.1; omega) hQc.2.2.1.1 hQc.2.2.1.2.1 hQc.2.1.2.2.1 ⟨0, by decide, rfl⟩ ⟨0, by decide, by decide⟩ (zV10 hwa.2.2.1)) (va_cwS 5 hts gL_look_L_note rfl rfl rfl (by decide +kernel) ⟨Nat.le_of_ble_eq_true rfl, Nat.le_of_ble_eq_true rfl⟩) (z_us hK hP hD) rfl rfl hl.1 rfl (lv_room (Nat.le_of_ble_eq_true rfl)) dL_look_178 ⟨(Nat.zero_le _), (Nat.zero_le _)⟩) hD hS hA (fun w1 Hz Lz hw hP hD hS => ?_)
                        obtain ⟨zE_37, rfl, hzE_37⟩ := hw
                        have hP : va_P G.1 vwCl [(u 0, .inl (G.2 1, 64, .inr (.inl zE_37))), (u 1, .inl (G.2 0, 8, .inl (Fz 1))), (u 2, .inl (G.2 0, 3, .inl (Fz 2))), (u 3, .inl (G.2 0, 3, .inl (upd (Fz 3) i (sPb Tw i)))), (u 4, .inl (G.2 0, 40, .inl (Fz 4))), (u 5, .inl (G.2 0, 40, .inl (Fz 5))), (u 6, .inl (G.2 0, 9, .inl (Fz 6))), (u 7, .inl (G.2 0, 12, .inl (Fz 7))), (u 8, .inl (G.2 0, 12, .inl (Fz 8))), (u 9, .inl (G.2 0, 10, .inl (upd (Fz 9) 1 (nI (Nw 1 + 1)))))] Hz := hP
                        have hD : va_D A [(u 0, .inl (G.2 1, 64, .inr (.inl zE_37))), (u 1, .inl (G.2 0, 8, .inl (Fz 1))), (u 2, .inl (G.2 0, 3, .inl (Fz 2))), (u 3, .inl (G.2 0, 3, .inl (upd (Fz 3) i (sPb Tw i)))), (u 4, .inl (G.2 0, 40, .inl (Fz 4))), (u 5, .inl (G.2 0, 40, .inl (Fz 5))), (u 6, .inl (G.2 0, 9, .inl (Fz 6))), (u 7, .inl (G.2 0, 12, .inl (Fz 7))), (u 8, .inl (G.2 0, 12, .inl (Fz 8))), (u 9, .inl (G.2 0, 10, .inl (upd (Fz 9) 1 (nI (Nw 1 + 1)))))] := hD
                        refine lv_iconst (v := 1) hx hb dL_look_181 (by decide) ?_
                        refine lv_istore (lv' := [(6, .int 1), (10, .int (zb (decide (Tw 15 i = 1)))), (9, .int (Tw 14 i)), (8, .int (Tw 12 i)), (7, .int (Tw 6 (Tw 11 i).toNatClampNeg)), (0, .ref (u 0)), (1, .ref (u 2)), (2, .ref (u 3)), (3, .ref (u 4)), (4, .ref (u 9)), (5, .int (nI i))]) hx hb dL_look_182 hl (by decide) rfl (fun ls hl => ?_)
                        refine lv_aload_n hx hb dL_look_184 rfl (lv_at hl 7 rfl) ?_
                        refine lv_iload hx hb dL_look_185 (lv_at hl 10 rfl) ?_
                        refine lv_dup2_11 hx hb dL_look_187 rfl rfl ?_
                        refine va_iald hx hb hK hP 3 0 rfl rfl (by first | assumption | exact vp_in_nI (by omega) (by omega)) dL_look_188 ?_
                        refine W.eq (g2 := F0 m 189 ls [.int (sPb Tw i), .int (nI i), .ref (u 3)]) (by first | (rw [nI_clamp (by omega), upd_at]; done) | (rw [nI_clamp (by omega), upd_at]; rfl)) ?_
                        refine lv_iload hx hb dL_look_189 (lv_at hl 0 rfl) ?_
                        refine lv_iconst (v := 1) hx hb dL_look_191 (by decide) ?_
                        refine lv_icmp_ne (tgt := 200) hx hb dL_look_192 (by decide) (fun zc_38 => absurd zc_38 (by decide)) (fun _ => ?_)
                        refine lv_ldc (v := 262144) hx hb hown (hts _ (List.mem_of_getElem? (i := 2) rfl)) dL_look_195 ?_
                        refine lv_goto (tgt := 202) hx hb dL_look_197 (by decide) ?_
                        refine lv_iadd hx hb dL_look_202 ?_
                        refine va_iast hx hb hK hP hD hS 3 0 rfl rfl (by first | assumption | exact sIx_in.mp (by assumption) | exact vp_in_nI (by omega) (by omega)) dL_look_203 (fun Hz Lz hP hD hS => ?_)
                        rw [nI_clamp (by omega)] at hP hD
                        have hP : va_P G.1 vwCl [(u 0, .inl (G.2 1, 64, .inr (.inl zE_37))), (u 1, .inl (G.2 0, 8, .inl (Fz 1))), (u 2, .inl (G.2 0, 3, .inl (Fz 2))), (u 3, .inl (G.2 0, 3, .inl (upd (upd (Fz 3) i (sPb Tw i)) i ((sPb Tw i) + 262144)))), (u 4, .inl (G.2 0, 40, .inl (Fz 4))), (u 5, .inl (G.2 0, 40, .inl (Fz 5))), (u 6, .inl (G.2 0, 9, .inl (Fz 6))), (u 7, .inl (G.2 0, 12, .inl (Fz 7))), (u 8, .inl (G.2 0, 12, .inl (Fz 8))), (u 9, .inl (G.2 0, 10, .inl (upd (Fz 9) 1 (nI (Nw 1 + 1)))))] Hz := hP
                        have hD : va_D A [(u 0, .inl (G.2 1, 64, .inr (.inl zE_37))), (u 1, .inl (G.2 0, 8, .inl (Fz 1))), (u 2, .inl (G.2 0, 3, .inl (Fz 2))), (u 3, .inl (G.2 0, 3, .inl (upd (upd (Fz 3) i (sPb Tw i)) i ((sPb Tw i) + 262144)))), (u 4, .inl (G.2 0, 40, .inl (Fz 4))), (u 5, .inl (G.2 0, 40, .inl (Fz 5))), (u 6, .inl (G.2 0, 9, .inl (Fz 6))), (u 7, .inl (G.2 0, 12, .inl (Fz 7))), (u 8, .inl (G.2 0, 12, .inl (Fz 8))), (u 9, .inl (G.2 0, 10, .inl (upd (Fz 9) 1 (nI (Nw 1 + 1)))))] := hD
                        rw [upd_twice] at hP hD
                        have hP : va_P G.1 vwCl [(u 0, .inl (G.2 1, 64, .inr (.inl zE_37))), (u 1, .inl (G.2 0, 8, .inl (Fz 1))), (u 2, .inl (G.2 0, 3, .inl (Fz 2))), (u 3, .inl (G.2 0, 3, .inl (upd (Fz 3) i ((sPb Tw i) + 262144)))), (u 4, .inl (G.2 0, 40, .inl (Fz 4))), (u 5, .inl (G.2 0, 40, .inl (Fz 5))), (u 6, .inl (G.2 0, 9, .inl (Fz 6))), (u 7, .inl (G.2 0, 12, .inl (Fz 7))), (u 8, .inl (G.2 0, 12, .inl (Fz 8))), (u 9, .inl (G.2 0, 10, .inl (upd (Fz 9) 1 (nI (Nw 1 + 1)))))] Hz := hP
                        have hD : va_D A [(u 0, .inl (G.2 1, 64, .inr (.inl zE_37))), (u 1, .inl (G.2 0, 8, .inl (Fz 1))), (u 2, .inl (G.2 0, 3, .inl (Fz 2))), (u 3, .inl (G.2 0, 3, .inl (upd (Fz 3) i ((sPb Tw i) + 262144)))), (u 4, .inl (G.2 0, 40, .inl (Fz 4))), (u 5, .inl (G.2 0, 40, .inl (Fz 5))), (u 6, .inl (G.2 0, 9, .inl (Fz 6))), (u 7, .inl (G.2 0, 12, .inl (Fz 7))), (u 8, .inl (G.2 0, 12, .inl (Fz 8))), (u 9, .inl (G.2 0, 10, .inl (upd (Fz 9) 1 (nI (Nw 1 + 1)))))] := hD
                        have heqw : sWatch Nw Tw i = ((sNote Nw (va_up Tw 3 (upd (Tw 3) (Tw 14 i).toNatClampNeg (zb (decide (Tw 15 i = 1))))) 0 (-1) (Tw 14 i + if decide (Tw 15 i = 1) = true then (10 : Int32) else 0)).1, va_up (sNote Nw (va_up Tw 3 (upd (Tw 3) (Tw 14 i).toNatClampNeg (zb (decide (Tw 15 i = 1))))) 0 (-1) (Tw 14 i + if decide (Tw 15 i = 1) = true then (10 : Int32) else 0)).2 16 (upd ((sNote Nw (va_up Tw 3 (upd (Tw 3) (Tw 14 i).toNatClampNeg (zb (decide (Tw 15 i = 1))))) 0 (-1) (Tw 14 i + if decide (Tw 15 i = 1) = true then (10 : Int32) else 0)).2 16) i 1)) := by rw [sWatch_go hmet hs1, hra]; refine (sWatch1_t hon).trans ?_; exact congrArg (fun S : zS => (S.1, va_up S.2 16 (upd (S.2 16) i 1))) (sTurn_y h3e)
                        have hRn : sLR (sWatches (i + 1) N T).1 (sWatches (i + 1) N T).2 zE_37 (va_up (va_up Fz 3 (upd (Fz 3) i ((sPb Tw i) + 262144))) 9 (upd (Fz 9) 1 (nI (Nw 1 + 1)))) := by
                          show sLR (sWatch (sWatches i N T).1 (sWatches i N T).2 i).1 (sWatch (sWatches i N T).1 (sWatches i N T).2 i).2 _ _
                          rw [hst]
                          exact sLR_w (i := i) hRw sWatch_keep sWatch_6.1 sWatch_6.2.1 sWatch_6.2.2.1 (by rw [heqw]; exact hzE_37) (fun k hk3 hk9 => by simp [va_up, hk3, hk9]) (fun j => by rw [heqw]; rfl) (by rw [heqw]; show (upd (Fz 3) i ((sPb Tw i) + 262144)) = upd (Fz 3) i (sPb Tw i + 262144 * upd (Tw 16) i 1 i); rw [upd_at, Int32.mul_one]) (fun a ha => by rw [heqw]; exact upd_no ha)
                        refine lv_iinc (v := (nI (i + 1))) (lv' := [(5, .int (nI (i + 1))), (6, .int 1), (10, .int (zb (decide (Tw 15 i = 1)))), (9, .int (Tw 14 i)), (8, .int (Tw 12 i)), (7, .int (Tw 6 (Tw 11 i).toNatClampNeg)), (0, .ref (u 0)), (1, .ref (u 2)), (2, .ref (u 3)), (3, .ref (u 4)), (4, .ref (u 9))]) hx hb dL_look_204 hl (k := 10) rfl (by first | exact nI_1 _ | rfl) (by decide) rfl (fun ls hl => ?_)
                        refine lv_goto (tgt := 3) hx hb dL_look_207 (by decide) ?_
                        have hl2 := lv_sub (l' := [(0, .ref (u 0)), (1, .ref (u 2)), (2, .ref (u 3)), (3, .ref (u 4)), (4, .ref (u 9)), (5, .int (nI (i + 1)))]) hl [6, 7, 8, 9, 10, 0] rfl
                        exact ih (i + 1) (by omega) (by omega) _ _ hRn _ _ hP hD hS ls hl2
                      refine lv_iload hx hb dL_look_166 (lv_at hl 0 rfl) ?_
                      refine lv_if_eq (tgt := 176) hx hb dL_look_168 (by decide) (fun zc_39 => ?_) (fun zc_39 => ?_)
                      · skip
                        have zc_39 := zb_0.mp zc_39
                        refine lv_iconst (v := 0) hx hb dL_look_176 (by decide) ?_
                        exact W.eq (congrArg (fun z : Int32 => F0 m 177 ls [.int z, .int (Tw 14 i), .int (-1), .int 0, .ref (u 9), .ref (u 0)]) (show (0 : Int32) = if decide (Tw 15 i = 1) = true then (10 : Int32) else 0 from (by simp [zc_39]))) cut_177
                      · skip
                        have zc_39 := zb_n0 zc_39
                        refine lv_bipush (v := 10) hx hb dL_look_171 (by decide) ?_
                        refine lv_goto (tgt := 177) hx hb dL_look_173 (by decide) ?_
                        exact W.eq (congrArg (fun z : Int32 => F0 m 177 ls [.int z, .int (Tw 14 i), .int (-1), .int 0, .ref (u 9), .ref (u 0)]) (show (10 : Int32) = if decide (Tw 15 i = 1) = true then (10 : Int32) else 0 from (by simp [zc_39]))) cut_177
              · skip
                have hs16 := zc_28
                refine lv_aload_n hx hb dL_look_118 rfl (lv_at hl 5 rfl) ?_
                refine lv_aload hx hb dL_look_119 (lv_at hl 9 rfl) ?_
                refine lv_iconst (v := 3) hx hb dL_look_121 (by decide) ?_
                refine lv_iconst (v := (-1)) hx hb dL_look_122 (by decide) ?_
                refine lv_iload hx hb dL_look_123 (lv_at hl 10 rfl) ?_
                refine z_cuv (va_runS (As := [.ref (u 0), .ref (u 9), .int 3, .int (-1), .int (nI i)]) (rest := []) ⟨hx, hb, hml, hown, hts⟩ (c_L_note l G u Ez (va_up Fz 3 (upd (Fz 3) i (sPb Tw i))) (Tw 0) (Nw 1) (Nw 0) 3 (-1) (nI i) Hz.size hQw.1 (by omega) hR9w.1 hR9w.2.1 hQw.2.1.2.2.1 ⟨3, by decide, rfl⟩ ⟨0, by decide, by decide⟩ ⟨i, by omega, rfl⟩) (va_cwS 5 hts gL_look_L_note rfl rfl rfl (by decide +kernel) ⟨Nat.le_of_ble_eq_true rfl, Nat.le_of_ble_eq_true rfl⟩) (z_us hK hP hD) rfl rfl hl.1 rfl (lv_room (Nat.le_of_ble_eq_true rfl)) dL_look_125 ⟨(Nat.zero_le _), (Nat.zero_le _)⟩) hD hS hA (fun w1 Hz Lz hw hP hD hS => ?_)
                obtain ⟨zE_40, rfl, hzE_40⟩ := hw
                have hP : va_P G.1 vwCl [(u 0, .inl (G.2 1, 64, .inr (.inl zE_40))), (u 1, .inl (G.2 0, 8, .inl (Fz 1))), (u 2, .inl (G.2 0, 3, .inl (Fz 2))), (u 3, .inl (G.2 0, 3, .inl (upd (Fz 3) i (sPb Tw i)))), (u 4, .inl (G.2 0, 40, .inl (Fz 4))), (u 5, .inl (G.2 0, 40, .inl (Fz 5))), (u 6, .inl (G.2 0, 9, .inl (Fz 6))), (u 7, .inl (G.2 0, 12, .inl (Fz 7))), (u 8, .inl (G.2 0, 12, .inl (Fz 8))), (u 9, .inl (G.2 0, 10, .inl (upd (Fz 9) 1 (nI (Nw 1 + 1)))))] Hz := hP
                have hD : va_D A [(u 0, .inl (G.2 1, 64, .inr (.inl zE_40))), (u 1, .inl (G.2 0, 8, .inl (Fz 1))), (u 2, .inl (G.2 0, 3, .inl (Fz 2))), (u 3, .inl (G.2 0, 3, .inl (upd (Fz 3) i (sPb Tw i)))), (u 4, .inl (G.2 0, 40, .inl (Fz 4))), (u 5, .inl (G.2 0, 40, .inl (Fz 5))), (u 6, .inl (G.2 0, 9, .inl (Fz 6))), (u 7, .inl (G.2 0, 12, .inl (Fz 7))), (u 8, .inl (G.2 0, 12, .inl (Fz 8))), (u 9, .inl (G.2 0, 10, .inl (upd (Fz 9) 1 (nI (Nw 1 + 1)))))] := hD
                have hQc := sLQ_nt (i := i) (F1 := (va_up (va_up Fz 3 (upd (Fz 3) i (sPb Tw i))) 9 (upd (Fz 9) 1 (nI (Nw 1 + 1))))) hQw (by omega) (by omega) hzE_40 rfl rfl (fun j => rfl)
                have hra := sRaise_y (N := Nw) hs16
                refine lv_iload hx hb dL_look_128 (lv_at hl 4 rfl) ?_
                refine lv_iconst (v := 1) hx hb dL_look_130 (by decide) ?_
                refine lv_icmp_eq (tgt := 184) hx hb dL_look_131 (by decide) (fun zc_41 => ?_) (fun zc_41 => ?_)
                · skip
                  exact absurd (hs16.symm.trans zc_41) (by decide)
                · skip
                  have hs1 := zc_41
                  refine lv_aload_n hx hb dL_look_134 rfl (lv_at hl 5 rfl) ?_
                  refine lv_aload_n hx hb dL_look_135 rfl (lv_at hl 8 rfl) ?_
                  refine lv_aload hx hb dL_look_136 (lv_at hl 9 rfl) ?_
                  refine lv_iload hx hb dL_look_138 (lv_at hl 1 rfl) ?_
                  refine z_csi (va_Run.run (va_runS (As := [.ref (u 0), .ref (u 4), .ref (u 9), .int (Tw 14 i)]) (rest := []) ⟨hx, hb, hml, hown, hts⟩ (c_L_hanging l G u zE_40 (va_up (va_up Fz 3 (upd (Fz 3) i (sPb Tw i))) 9 (upd (Fz 9) 1 (nI (Nw 1 + 1)))) ((sNote Nw Tw 3 (-1) (nI i)).1) ((sNote Nw Tw 3 (-1) (nI i)).2) (Tw 14 i) hQc) (va_cwS 4 hts gL_look_L_hanging rfl rfl rfl (by decide +kernel) ⟨Nat.le_of_ble_eq_true rfl, Nat.le_of_ble_eq_true rfl⟩) (z_ps hK hP) rfl rfl hl.1 rfl (lv_room (Nat.le_of_ble_eq_true rfl)) dL_look_140 ⟨(Nat.zero_le _), (Nat.zero_le _)⟩)) (fun zr_42 hzr_42 => ?_)
                  subst hzr_42
                  refine lv_if_ne (tgt := 184) hx hb dL_look_143 (by decide) (fun zc_43 => ?_) (fun zc_43 => ?_)
                  · skip
                    have hon : ¬ sOn ((sNote Nw Tw 3 (-1) (nI i)).1) ((sNote Nw Tw 3 (-1) (nI i)).2) (Tw 14 i) = 0 := fun z => zc_43 (by rw [z]; rfl)
                    refine lv_aload_n hx hb dL_look_184 rfl (lv_at hl 7 rfl) ?_
                    refine lv_iload hx hb dL_look_185 (lv_at hl 10 rfl) ?_
                    refine lv_dup2_11 hx hb dL_look_187 rfl rfl ?_
                    refine va_iald hx hb hK hP 3 0 rfl rfl (by first | assumption | exact vp_in_nI (by omega) (by omega)) dL_look_188 ?_
                    refine W.eq (g2 := F0 m 189 ls [.int (sPb Tw i), .int (nI i), .ref (u 3)]) (by first | (rw [nI_clamp (by omega), upd_at]; done) | (rw [nI_clamp (by omega), upd_at]; rfl)) ?_
                    refine lv_iload hx hb dL_look_189 (lv_at hl 4 rfl) ?_
                    refine lv_iconst (v := 1) hx hb dL_look_191 (by decide) ?_
                    refine lv_icmp_ne (tgt := 200) hx hb dL_look_192 (by decide) (fun zc_44 => ?_) (fun zc_44 => ?_)
                    · skip
                      refine lv_ldc (v := 524288) hx hb hown (hts _ (List.mem_of_getElem? (i := 3) rfl)) dL_look_200 ?_
                      refine lv_iadd hx hb dL_look_202 ?_
                      refine va_iast hx hb hK hP hD hS 3 0 rfl rfl (by first | assumption | exact sIx_in.mp (by assumption) | exact vp_in_nI (by omega) (by omega)) dL_look_203 (fun Hz Lz hP hD hS => ?_)
                      rw [nI_clamp (by omega)] at hP hD
                      have hP : va_P G.1 vwCl [(u 0, .inl (G.2 1, 64, .inr (.inl zE_40))), (u 1, .inl (G.2 0, 8, .inl (Fz 1))), (u 2, .inl (G.2 0, 3, .inl (Fz 2))), (u 3, .inl (G.2 0, 3, .inl (upd (upd (Fz 3) i (sPb Tw i)) i ((sPb Tw i) + 524288)))), (u 4, .inl (G.2 0, 40, .inl (Fz 4))), (u 5, .inl (G.2 0, 40, .inl (Fz 5))), (u 6, .inl (G.2 0, 9, .inl (Fz 6))), (u 7, .inl (G.2 0, 12, .inl (Fz 7))), (u 8, .inl (G.2 0, 12, .inl (Fz 8))), (u 9, .inl (G.2 0, 10, .inl (upd (Fz 9) 1 (nI (Nw 1 + 1)))))] Hz := hP
                      have hD : va_D A [(u 0, .inl (G.2 1, 64, .inr (.inl zE_40))), (u 1, .inl (G.2 0, 8, .inl (Fz 1))), (u 2, .inl (G.2 0, 3, .inl (Fz 2))), (u 3, .inl (G.2 0, 3, .inl (upd (upd (Fz 3) i (sPb Tw i)) i ((sPb Tw i) + 524288)))), (u 4, .inl (G.2 0, 40, .inl (Fz 4))), (u 5, .inl (G.2 0, 40, .inl (Fz 5))), (u 6, .inl (G.2 0, 9, .inl (Fz 6))), (u 7, .inl (G.2 0, 12, .inl (Fz 7))), (u 8, .inl (G.2 0, 12, .inl (Fz 8))), (u 9, .inl (G.2 0, 10, .inl (upd (Fz 9) 1 (nI (Nw 1 + 1)))))] := hD
                      rw [upd_twice] at hP hD
                      have hP : va_P G.1 vwCl [(u 0, .inl (G.2 1, 64, .inr (.inl zE_40))), (u 1, .inl (G.2 0, 8, .inl (Fz 1))), (u 2, .inl (G.2 0, 3, .inl (Fz 2))), (u 3, .inl (G.2 0, 3, .inl (upd (Fz 3) i ((sPb Tw i) + 524288)))), (u 4, .inl (G.2 0, 40, .inl (Fz 4))), (u 5, .inl (G.2 0, 40, .inl (Fz 5))), (u 6, .inl (G.2 0, 9, .inl (Fz 6))), (u 7, .inl (G.2 0, 12, .inl (Fz 7))), (u 8, .inl (G.2 0, 12, .inl (Fz 8))), (u 9, .inl (G.2 0, 10, .inl (upd (Fz 9) 1 (nI (Nw 1 + 1)))))] Hz := hP
                      have hD : va_D A [(u 0, .inl (G.2 1, 64, .inr (.inl zE_40))), (u 1, .inl (G.2 0, 8, .inl (Fz 1))), (u 2, .inl (G.2 0, 3, .inl (Fz 2))), (u 3, .inl (G.2 0, 3, .inl (upd (Fz 3) i ((sPb Tw i) + 524288)))), (u 4, .inl (G.2 0, 40, .inl (Fz 4))), (u 5, .inl (G.2 0, 40, .inl (Fz 5))), (u 6, .inl (G.2 0, 9, .inl (Fz 6))), (u 7, .inl (G.2 0, 12, .inl (Fz 7))), (u 8, .inl (G.2 0, 12, .inl (Fz 8))), (u 9, .inl (G.2 0, 10, .inl (upd (Fz 9) 1 (nI (Nw 1 + 1)))))] := hD
                      have heqw : sWatch Nw Tw i = ((sNote Nw Tw 3 (-1) (nI i)).1, va_up ((sNote Nw Tw 3 (-1) (nI i)).2) 16 (upd (((sNote Nw Tw 3 (-1) (nI i)).2) 16) i 2)) := by rw [sWatch_go hmet hs1, hra]; exact sWatch1_w hon
                      have hRn : sLR (sWatches (i + 1) N T).1 (sWatches (i + 1) N T).2 zE_40 (va_up (va_up Fz 3 (upd (Fz 3) i ((sPb Tw i) + 524288))) 9 (upd (Fz 9) 1 (nI (Nw 1 + 1)))) := by
                        show sLR (sWatch (sWatches i N T).1 (sWatches i N T).2 i).1 (sWatch (sWatches i N T).1 (sWatches i N T).2 i).2 _ _
                        rw [hst]
                        exact sLR_w (i := i) hRw sWatch_keep sWatch_6.1 sWatch_6.2.1 sWatch_6.2.2.1 (by rw [heqw]; exact hzE_40) (fun k hk3 hk9 => by simp [va_up, hk3, hk9]) (fun j => by rw [heqw]; rfl) (by rw [heqw]; show (upd (Fz 3) i ((sPb Tw i) + 524288)) = upd (Fz 3) i (sPb Tw i + 262144 * upd (((sNote Nw Tw 3 (-1) (nI i)).2) 16) i 2 i); rw [upd_at, show (262144 : Int32) * 2 = 524288 from by decide]) (fun a ha => by rw [heqw]; exact upd_no ha)
                      refine lv_iinc (v := (nI (i + 1))) (lv' := [(5, .int (nI (i + 1))), (10, .int (zb (decide (Tw 15 i = 1)))), (9, .int (Tw 14 i)), (8, .int (Tw 12 i)), (7, .int (Tw 6 (Tw 11 i).toNatClampNeg)), (6, .int (Tw 16 i)), (0, .ref (u 0)), (1, .ref (u 2)), (2, .ref (u 3)), (3, .ref (u 4)), (4, .ref (u 9))]) hx hb dL_look_204 hl (k := 10) rfl (by first | exact nI_1 _ | rfl) (by decide) rfl (fun ls hl => ?_)
                      refine lv_goto (tgt := 3) hx hb dL_look_207 (by decide) ?_
                      have hl2 := lv_sub (l' := [(0, .ref (u 0)), (1, .ref (u 2)), (2, .ref (u 3)), (3, .ref (u 4)), (4, .ref (u 9)), (5, .int (nI (i + 1)))]) hl [6, 7, 8, 9, 10, 0] rfl
                      exact ih (i + 1) (by omega) (by omega) _ _ hRn _ _ hP hD hS ls hl2
                    · skip
                      exact absurd zc_44 hs1
                  · skip
                    have hon : sOn ((sNote Nw Tw 3 (-1) (nI i)).1) ((sNote Nw Tw 3 (-1) (nI i)).2) (Tw 14 i) = 0 := (nI_eq (b := 0) (Nat.lt_of_le_of_lt (sCnt_le _ _) (by have := hQc.2.1.2.1; omega)) (by omega)).mp zc_43
                    refine lv_aload_n hx hb dL_look_146 rfl (lv_at hl 5 rfl) ?_
                    refine lv_aload hx hb dL_look_147 (lv_at hl 9 rfl) ?_
                    refine lv_iload hx hb dL_look_149 (lv_at hl 1 rfl) ?_
                    refine z_csi (va_Run.run (va_runS (As := [.ref (u 0), .ref (u 9), .int (Tw 14 i)]) (rest := []) ⟨hx, hb, hml, hown, hts⟩ (c_L_opened l G u zE_40 (va_up (va_up Fz 3 (upd (Fz 3) i (sPb Tw i))) 9 (upd (Fz 9) 1 (nI (Nw 1 + 1)))) ((sNote Nw Tw 3 (-1) (nI i)).1) ((sNote Nw Tw 3 (-1) (nI i)).2) (Tw 14 i) hQc hwa.2.2.1) (va_cwS 3 hts gL_look_L_opened rfl rfl rfl (by decide +kernel) ⟨Nat.le_of_ble_eq_true rfl, Nat.le_of_ble_eq_true rfl⟩) (z_ps hK hP) rfl rfl hl.1 rfl (lv_room (Nat.le_of_ble_eq_true rfl)) dL_look_151 ⟨(Nat.zero_le _), (Nat.zero_le _)⟩)) (fun zr_45 hzr_45 => ?_)
                    subst hzr_45
                    refine lv_iload hx hb dL_look_154 (lv_at hl 0 rfl) ?_
                    refine lv_icmp_eq (tgt := 181) hx hb dL_look_156 (by decide) (fun zc_46 => ?_) (fun zc_46 => ?_)
                    · skip
                      have h3e := zc_46
                      refine lv_iconst (v := 1) hx hb dL_look_181 (by decide) ?_
                      refine lv_istore (lv' := [(6, .int 1), (10, .int (zb (decide (Tw 15 i = 1)))), (9, .int (Tw 14 i)), (8, .int (Tw 12 i)), (7, .int (Tw 6 (Tw 11 i).toNatClampNeg)), (0, .ref (u 0)), (1, .ref (u 2)), (2, .ref (u 3)), (3, .ref (u 4)), (4, .ref (u 9)), (5, .int (nI i))]) hx hb dL_look_182 hl (by decide) rfl (fun ls hl => ?_)
                      refine lv_aload_n hx hb dL_look_184 rfl (lv_at hl 7 rfl) ?_
                      refine lv_iload hx hb dL_look_185 (lv_at hl 10 rfl) ?_
                      refine lv_dup2_11 hx hb dL_look_187 rfl rfl ?_
                      refine va_iald hx hb hK hP 3 0 rfl rfl (by first | assumption | exact vp_in_nI (by omega) (by omega)) dL_look_188 ?_
                      refine W.eq (g2 := F0 m 189 ls [.int (sPb Tw i), .int (nI i), .ref (u 3)]) (by first | (rw [nI_clamp (by omega), upd_at]; done) | (rw [nI_clamp (by omega), upd_at]; rfl)) ?_
                      refine lv_iload hx hb dL_look_189 (lv_at hl 0 rfl) ?_
                      refine lv_iconst (v := 1) hx hb dL_look_191 (by decide) ?_
                      refine lv_icmp_ne (tgt := 200) hx hb dL_look_192 (by decide) (fun zc_47 => absurd zc_47 (by decide)) (fun _ => ?_)
                      refine lv_ldc (v := 262144) hx hb hown (hts _ (List.mem_of_getElem? (i := 2) rfl)) dL_look_195 ?_
                      refine lv_goto (tgt := 202) hx hb dL_look_197 (by decide) ?_
                      refine lv_iadd hx hb dL_look_202 ?_
                      refine va_iast hx hb hK hP hD hS 3 0 rfl rfl (by first | assumption | exact sIx_in.mp (by assumption) | exact vp_in_nI (by omega) (by omega)) dL_look_203 (fun Hz Lz hP hD hS => ?_)
                      rw [nI_clamp (by omega)] at hP hD
                      have hP : va_P G.1 vwCl [(u 0, .inl (G.2 1, 64, .inr (.inl zE_40))), (u 1, .inl (G.2 0, 8, .inl (Fz 1))), (u 2, .inl (G.2 0, 3, .inl (Fz 2))), (u 3, .inl (G.2 0, 3, .inl (upd (upd (Fz 3) i (sPb Tw i)) i ((sPb Tw i) + 262144)))), (u 4, .inl (G.2 0, 40, .inl (Fz 4))), (u 5, .inl (G.2 0, 40, .inl (Fz 5))), (u 6, .inl (G.2 0, 9, .inl (Fz 6))), (u 7, .inl (G.2 0, 12, .inl (Fz 7))), (u 8, .inl (G.2 0, 12, .inl (Fz 8))), (u 9, .inl (G.2 0, 10, .inl (upd (Fz 9) 1 (nI (Nw 1 + 1)))))] Hz := hP
                      have hD : va_D A [(u 0, .inl (G.2 1, 64, .inr (.inl zE_40))), (u 1, .inl (G.2 0, 8, .inl (Fz 1))), (u 2, .inl (G.2 0, 3, .inl (Fz 2))), (u 3, .inl (G.2 0, 3, .inl (upd (upd (Fz 3) i (sPb Tw i)) i ((sPb Tw i) + 262144)))), (u 4, .inl (G.2 0, 40, .inl (Fz 4))), (u 5, .inl (G.2 0, 40, .inl (Fz 5))), (u 6, .inl (G.2 0, 9, .inl (Fz 6))), (u 7, .inl (G.2 0, 12, .inl (Fz 7))), (u 8, .inl (G.2 0, 12, .inl (Fz 8))), (u 9, .inl (G.2 0, 10, .inl (upd (Fz 9) 1 (nI (Nw 1 + 1)))))] := hD
                      rw [upd_twice] at hP hD
                      have hP : va_P G.1 vwCl [(u 0, .inl (G.2 1, 64, .inr (.inl zE_40))), (u 1, .inl (G.2 0, 8, .inl (Fz 1))), (u 2, .inl (G.2 0, 3, .inl (Fz 2))), (u 3, .inl (G.2 0, 3, .inl (upd (Fz 3) i ((sPb Tw i) + 262144)))), (u 4, .inl (G.2 0, 40, .inl (Fz 4))), (u 5, .inl (G.2 0, 40, .inl (Fz 5))), (u 6, .inl (G.2 0, 9, .inl (Fz 6))), (u 7, .inl (G.2 0, 12, .inl (Fz 7))), (u 8, .inl (G.2 0, 12, .inl (Fz 8))), (u 9, .inl (G.2 0, 10, .inl (upd (Fz 9) 1 (nI (Nw 1 + 1)))))] Hz := hP
                      have hD : va_D A [(u 0, .inl (G.2 1, 64, .inr (.inl zE_40))), (u 1, .inl (G.2 0, 8, .inl (Fz 1))), (u 2, .inl (G.2 0, 3, .inl (Fz 2))), (u 3, .inl (G.2 0, 3, .inl (upd (Fz 3) i ((sPb Tw i) + 262144)))), (u 4, .inl (G.2 0, 40, .inl (Fz 4))), (u 5, .inl (G.2 0, 40, .inl (Fz 5))), (u 6, .inl (G.2 0, 9, .inl (Fz 6))), (u 7, .inl (G.2 0, 12, .inl (Fz 7))), (u 8, .inl (G.2 0, 12, .inl (Fz 8))), (u 9, .inl (G.2 0, 10, .inl (upd (Fz 9) 1 (nI (Nw 1 + 1)))))] := hD
                      have heqw : sWatch Nw Tw i = ((sNote Nw Tw 3 (-1) (nI i)).1, va_up ((sNote Nw Tw 3 (-1) (nI i)).2) 16 (upd (((sNote Nw Tw 3 (-1) (nI i)).2) 16) i 1)) := by rw [sWatch_go hmet hs1, hra]; refine (sWatch1_t hon).trans ?_; exact congrArg (fun S : zS => (S.1, va_up S.2 16 (upd (S.2 16) i 1))) (sTurn_n h3e)
                      have hRn : sLR (sWatches (i + 1) N T).1 (sWatches (i + 1) N T).2 zE_40 (va_up (va_up Fz 3 (upd (Fz 3) i ((sPb Tw i) + 262144))) 9 (upd (Fz 9) 1 (nI (Nw 1 + 1)))) := by
                        show sLR (sWatch (sWatches i N T).1 (sWatches i N T).2 i).1 (sWatch (sWatches i N T).1 (sWatches i N T).2 i).2 _ _
                        rw [hst]
                        exact sLR_w (i := i) hRw sWatch_keep sWatch_6.1 sWatch_6.2.1 sWatch_6.2.2.1 (by rw [heqw]; exact hzE_40) (fun k hk3 hk9 => by simp [va_up, hk3, hk9]) (fun j => by rw [heqw]; rfl) (by rw [heqw]; show (upd (Fz 3) i ((sPb Tw i) + 262144)) = upd (Fz 3) i (sPb Tw i + 262144 * upd (((sNote Nw Tw 3 (-1) (nI i)).2) 16) i 1 i); rw [upd_at, Int32.mul_one]) (fun a ha => by rw [heqw]; exact upd_no ha)
                      refine lv_iinc (v := (nI (i + 1))) (lv' := [(5, .int (nI (i + 1))), (6, .int 1), (10, .int (zb (decide (Tw 15 i = 1)))), (9, .int (Tw 14 i)), (8, .int (Tw 12 i)), (7, .int (Tw 6 (Tw 11 i).toNatClampNeg)), (0, .ref (u 0)), (1, .ref (u 2)), (2, .ref (u 3)), (3, .ref (u 4)), (4, .ref (u 9))]) hx hb dL_look_204 hl (k := 10) rfl (by first | exact nI_1 _ | rfl) (by decide) rfl (fun ls hl => ?_)
                      refine lv_goto (tgt := 3) hx hb dL_look_207 (by decide) ?_
                      have hl2 := lv_sub (l' := [(0, .ref (u 0)), (1, .ref (u 2)), (2, .ref (u 3)), (3, .ref (u 4)), (4, .ref (u 9)), (5, .int (nI (i + 1)))]) hl [6, 7, 8, 9, 10, 0] rfl
                      exact ih (i + 1) (by omega) (by omega) _ _ hRn _ _ hP hD hS ls hl2
                    · skip
                      have h3e := zc_46
                      refine lv_aload_n hx hb dL_look_159 rfl (lv_at hl 5 rfl) ?_
                      refine lv_aload hx hb dL_look_160 (lv_at hl 9 rfl) ?_
                      refine lv_iconst (v := 0) hx hb dL_look_162 (by decide) ?_
                      refine lv_iconst (v := (-1)) hx hb dL_look_163 (by decide) ?_
                      refine lv_iload hx hb dL_look_164 (lv_at hl 1 rfl) ?_
                      have cut_177 : W p l e (headSpec wsL_look ({ frames := 3, cells := 0, slots := 0, locals := 71 })).room s m ([.ref (u 0), .ref (u 2), .ref (u 3), .ref (u 4), .ref (u 9)] : List Value).toArray below meth c Hz Lz 0 0 (MQ below (va_Qv (fun w1 : va_W => ∃ (E1 : Nat → Int64) (F1 : Nat → Nat → Int32), w1 = LW G u E1 F1 ∧ sLR (sWatches (N 3) N T).1 (sWatches (N 3) N T).2 E1 F1) (zB G A) A) ([.ref (u 0), .ref (u 2), .ref (u 3), .ref (u 4), .ref (u 9)] : List Value).toArray s 0 0 A) (F0 m 177 ls [.int (if decide (Tw 15 i = 1) = true then (10 : Int32) else 0), .int (Tw 14 i), .int (-1), .int 0, .ref (u 9), .ref (u 0)]) := by
                        refine lv_iadd hx hb dL_look_177 ?_
                        refine z_cuv (va_runS (As := [.ref (u 0), .ref (u 9), .int 0, .int (-1), .int ((Tw 14 i) + (if decide (Tw 15 i = 1) = true then (10 : Int32) else 0))]) (rest := []) ⟨hx, hb, hml, hown, hts⟩ (c_L_note l G u zE_40 (va_up (va_up Fz 3 (upd (Fz 3) i (sPb Tw i))) 9 (upd (Fz 9) 1 (nI (Nw 1 + 1)))) (((sNote Nw Tw 3 (-1) (nI i)).2) 0) (((sNote Nw Tw 3 (-1) (nI i)).1) 1) (((sNote Nw Tw 3 (-1) (nI i)).1) 0) 0 (-1) ((Tw 14 i) + (if decide (Tw 15 i = 1) = true then (10 : Int32) else 0)) Hz.size hQc.1 (by have := hQc.2.1.1; omega) hQc.2.2.1.1 hQc.2.2.1.2.1 hQc.2.1.2.2.1 ⟨0, by decide, rfl⟩ ⟨0, by decide, by decide⟩ (zV10 hwa.2.2.1)) (va_cwS 5 hts gL_look_L_note rfl rfl rfl (by decide +kernel) ⟨Nat.le_of_ble_eq_true rfl, Nat.le_of_ble_eq_true rfl⟩) (z_us hK hP hD) rfl rfl hl.1 rfl (lv_room (Nat.le_of_ble_eq_true rfl)) dL_look_178 ⟨(Nat.zero_le _), (Nat.zero_le _)⟩) hD hS hA (fun w1 Hz Lz hw hP hD hS => ?_)
                        obtain ⟨zE_48, rfl, hzE_48⟩ := hw
                        have hP : va_P G.1 vwCl [(u 0, .inl (G.2 1, 64, .inr (.inl zE_48))), (u 1, .inl (G.2 0, 8, .inl (Fz 1))), (u 2, .inl (G.2 0, 3, .inl (Fz 2))), (u 3, .inl (G.2 0, 3, .inl (upd (Fz 3) i (sPb Tw i)))), (u 4, .inl (G.2 0, 40, .inl (Fz 4))), (u 5, .inl (G.2 0, 40, .inl (Fz 5))), (u 6, .inl (G.2 0, 9, .inl (Fz 6))), (u 7, .inl (G.2 0, 12, .inl (Fz 7))), (u 8, .inl (G.2 0, 12, .inl (Fz 8))), (u 9, .inl (G.2 0, 10, .inl (upd ((upd (Fz 9) 1 (nI (Nw 1 + 1)))) 1 (nI (((sNote Nw Tw 3 (-1) (nI i)).1) 1 + 1)))))] Hz := hP
                        have hD : va_D A [(u 0, .inl (G.2 1, 64, .inr (.inl zE_48))), (u 1, .inl (G.2 0, 8, .inl (Fz 1))), (u 2, .inl (G.2 0, 3, .inl (Fz 2))), (u 3, .inl (G.2 0, 3, .inl (upd (Fz 3) i (sPb Tw i)))), (u 4, .inl (G.2 0, 40, .inl (Fz 4))), (u 5, .inl (G.2 0, 40, .inl (Fz 5))), (u 6, .inl (G.2 0, 9, .inl (Fz 6))), (u 7, .inl (G.2 0, 12, .inl (Fz 7))), (u 8, .inl (G.2 0, 12, .inl (Fz 8))), (u 9, .inl (G.2 0, 10, .inl (upd ((upd (Fz 9) 1 (nI (Nw 1 + 1)))) 1 (nI (((sNote Nw Tw 3 (-1) (nI i)).1) 1 + 1)))))] := hD
                        refine lv_iconst (v := 1) hx hb dL_look_181 (by decide) ?_
                        refine lv_istore (lv' := [(6, .int 1), (10, .int (zb (decide (Tw 15 i = 1)))), (9, .int (Tw 14 i)), (8, .int (Tw 12 i)), (7, .int (Tw 6 (Tw 11 i).toNatClampNeg)), (0, .ref (u 0)), (1, .ref (u 2)), (2, .ref (u 3)), (3, .ref (u 4)), (4, .ref (u 9)), (5, .int (nI i))]) hx hb dL_look_182 hl (by decide) rfl (fun ls hl => ?_)
                        refine lv_aload_n hx hb dL_look_184 rfl (lv_at hl 7 rfl) ?_
                        refine lv_iload hx hb dL_look_185 (lv_at hl 10 rfl) ?_
                        refine lv_dup2_11 hx hb dL_look_187 rfl rfl ?_
                        refine va_iald hx hb hK hP 3 0 rfl rfl (by first | assumption | exact vp_in_nI (by omega) (by omega)) dL_look_188 ?_
                        refine W.eq (g2 := F0 m 189 ls [.int (sPb Tw i), .int (nI i), .ref (u 3)]) (by first | (rw [nI_clamp (by omega), upd_at]; done) | (rw [nI_clamp (by omega), upd_at]; rfl)) ?_
                        refine lv_iload hx hb dL_look_189 (lv_at hl 0 rfl) ?_
                        refine lv_iconst (v := 1) hx hb dL_look_191 (by decide) ?_
                        refine lv_icmp_ne (tgt := 200) hx hb dL_look_192 (by decide) (fun zc_49 => absurd zc_49 (by decide)) (fun _ => ?_)
                        refine lv_ldc (v := 262144) hx hb hown (hts _ (List.mem_of_getElem? (i := 2) rfl)) dL_look_195 ?_
                        refine lv_goto (tgt := 202) hx hb dL_look_197 (by decide) ?_
                        refine lv_iadd hx hb dL_look_202 ?_
                        refine va_iast hx hb hK hP hD hS 3 0 rfl rfl (by first | assumption | exact sIx_in.mp (by assumption) | exact vp_in_nI (by omega) (by omega)) dL_look_203 (fun Hz Lz hP hD hS => ?_)
                        rw [nI_clamp (by omega)] at hP hD
                        have hP : va_P G.1 vwCl [(u 0, .inl (G.2 1, 64, .inr (.inl zE_48))), (u 1, .inl (G.2 0, 8, .inl (Fz 1))), (u 2, .inl (G.2 0, 3, .inl (Fz 2))), (u 3, .inl (G.2 0, 3, .inl (upd (upd (Fz 3) i (sPb Tw i)) i ((sPb Tw i) + 262144)))), (u 4, .inl (G.2 0, 40, .inl (Fz 4))), (u 5, .inl (G.2 0, 40, .inl (Fz 5))), (u 6, .inl (G.2 0, 9, .inl (Fz 6))), (u 7, .inl (G.2 0, 12, .inl (Fz 7))), (u 8, .inl (G.2 0, 12, .inl (Fz 8))), (u 9, .inl (G.2 0, 10, .inl (upd ((upd (Fz 9) 1 (nI (Nw 1 + 1)))) 1 (nI (((sNote Nw Tw 3 (-1) (nI i)).1) 1 + 1)))))] Hz := hP
                        have hD : va_D A [(u 0, .inl (G.2 1, 64, .inr (.inl zE_48))), (u 1, .inl (G.2 0, 8, .inl (Fz 1))), (u 2, .inl (G.2 0, 3, .inl (Fz 2))), (u 3, .inl (G.2 0, 3, .inl (upd (upd (Fz 3) i (sPb Tw i)) i ((sPb Tw i) + 262144)))), (u 4, .inl (G.2 0, 40, .inl (Fz 4))), (u 5, .inl (G.2 0, 40, .inl (Fz 5))), (u 6, .inl (G.2 0, 9, .inl (Fz 6))), (u 7, .inl (G.2 0, 12, .inl (Fz 7))), (u 8, .inl (G.2 0, 12, .inl (Fz 8))), (u 9, .inl (G.2 0, 10, .inl (upd ((upd (Fz 9) 1 (nI (Nw 1 + 1)))) 1 (nI (((sNote Nw Tw 3 (-1) (nI i)).1) 1 + 1)))))] := hD
                        rw [upd_twice] at hP hD
                        have hP : va_P G.1 vwCl [(u 0, .inl (G.2 1, 64, .inr (.inl zE_48))), (u 1, .inl (G.2 0, 8, .inl (Fz 1))), (u 2, .inl (G.2 0, 3, .inl (Fz 2))), (u 3, .inl (G.2 0, 3, .inl (upd (Fz 3) i ((sPb Tw i) + 262144)))), (u 4, .inl (G.2 0, 40, .inl (Fz 4))), (u 5, .inl (G.2 0, 40, .inl (Fz 5))), (u 6, .inl (G.2 0, 9, .inl (Fz 6))), (u 7, .inl (G.2 0, 12, .inl (Fz 7))), (u 8, .inl (G.2 0, 12, .inl (Fz 8))), (u 9, .inl (G.2 0, 10, .inl (upd ((upd (Fz 9) 1 (nI (Nw 1 + 1)))) 1 (nI (((sNote Nw Tw 3 (-1) (nI i)).1) 1 + 1)))))] Hz := hP
                        have hD : va_D A [(u 0, .inl (G.2 1, 64, .inr (.inl zE_48))), (u 1, .inl (G.2 0, 8, .inl (Fz 1))), (u 2, .inl (G.2 0, 3, .inl (Fz 2))), (u 3, .inl (G.2 0, 3, .inl (upd (Fz 3) i ((sPb Tw i) + 262144)))), (u 4, .inl (G.2 0, 40, .inl (Fz 4))), (u 5, .inl (G.2 0, 40, .inl (Fz 5))), (u 6, .inl (G.2 0, 9, .inl (Fz 6))), (u 7, .inl (G.2 0, 12, .inl (Fz 7))), (u 8, .inl (G.2 0, 12, .inl (Fz 8))), (u 9, .inl (G.2 0, 10, .inl (upd ((upd (Fz 9) 1 (nI (Nw 1 + 1)))) 1 (nI (((sNote Nw Tw 3 (-1) (nI i)).1) 1 + 1)))))] := hD
                        have heqw : sWatch Nw Tw i = ((sNote ((sNote Nw Tw 3 (-1) (nI i)).1) (va_up ((sNote Nw Tw 3 (-1) (nI i)).2) 3 (upd (((sNote Nw Tw 3 (-1) (nI i)).2) 3) (Tw 14 i).toNatClampNeg (zb (decide (Tw 15 i = 1))))) 0 (-1) (Tw 14 i + if decide (Tw 15 i = 1) = true then (10 : Int32) else 0)).1, va_up (sNote ((sNote Nw Tw 3 (-1) (nI i)).1) (va_up ((sNote Nw Tw 3 (-1) (nI i)).2) 3 (upd (((sNote Nw Tw 3 (-1) (nI i)).2) 3) (Tw 14 i).toNatClampNeg (zb (decide (Tw 15 i = 1))))) 0 (-1) (Tw 14 i + if decide (Tw 15 i = 1) = true then (10 : Int32) else 0)).2 16 (upd ((sNote ((sNote Nw Tw 3 (-1) (nI i)).1) (va_up ((sNote Nw Tw 3 (-1) (nI i)).2) 3 (upd (((sNote Nw Tw 3 (-1) (nI i)).2) 3) (Tw 14 i).toNatClampNeg (zb (decide (Tw 15 i = 1))))) 0 (-1) (Tw 14 i + if decide (Tw 15 i = 1) = true then (10 : Int32) else 0)).2 16) i 1)) := by rw [sWatch_go hmet hs1, hra]; refine (sWatch1_t hon).trans ?_; exact congrArg (fun S : zS => (S.1, va_up S.2 16 (upd (S.2 16) i 1))) (sTurn_y h3e)
                        have hRn : sLR (sWatches (i + 1) N T).1 (sWatches (i + 1) N T).2 zE_48 (va_up (va_up (va_up Fz 3 (upd (Fz 3) i ((sPb Tw i) + 262144))) 9 (upd (Fz 9) 1 (nI (Nw 1 + 1)))) 9 (upd ((upd (Fz 9) 1 (nI (Nw 1 + 1)))) 1 (nI (((sNote Nw Tw 3 (-1) (nI i)).1) 1 + 1)))) := by
                          show sLR (sWatch (sWatches i N T).1 (sWatches i N T).2 i).1 (sWatch (sWatches i N T).1 (sWatches i N T).2 i).2 _ _
                          rw [hst]
                          exact sLR_w (i := i) hRw sWatch_keep sWatch_6.1 sWatch_6.2.1 sWatch_6.2.2.1 (by rw [heqw]; exact hzE_48) (fun k hk3 hk9 => by simp [va_up, hk3, hk9]) (fun j => by rw [heqw]; exact nt2) (by rw [heqw]; show (upd (Fz 3) i ((sPb Tw i) + 262144)) = upd (Fz 3) i (sPb Tw i + 262144 * upd (((sNote Nw Tw 3 (-1) (nI i)).2) 16) i 1 i); rw [upd_at, Int32.mul_one]) (fun a ha => by rw [heqw]; exact upd_no ha)
                        refine lv_iinc (v := (nI (i + 1))) (lv' := [(5, .int (nI (i + 1))), (6, .int 1), (10, .int (zb (decide (Tw 15 i = 1)))), (9, .int (Tw 14 i)), (8, .int (Tw 12 i)), (7, .int (Tw 6 (Tw 11 i).toNatClampNeg)), (0, .ref (u 0)), (1, .ref (u 2)), (2, .ref (u 3)), (3, .ref (u 4)), (4, .ref (u 9))]) hx hb dL_look_204 hl (k := 10) rfl (by first | exact nI_1 _ | rfl) (by decide) rfl (fun ls hl => ?_)
                        refine lv_goto (tgt := 3) hx hb dL_look_207 (by decide) ?_
                        have hl2 := lv_sub (l' := [(0, .ref (u 0)), (1, .ref (u 2)), (2, .ref (u 3)), (3, .ref (u 4)), (4, .ref (u 9)), (5, .int (nI (i + 1)))]) hl [6, 7, 8, 9, 10, 0] rfl
                        exact ih (i + 1) (by omega) (by omega) _ _ hRn _ _ hP hD hS ls hl2
                      refine lv_iload hx hb dL_look_166 (lv_at hl 0 rfl) ?_
                      refine lv_if_eq (tgt := 176) hx hb dL_look_168 (by decide) (fun zc_50 => ?_) (fun zc_50 => ?_)
                      · skip
                        have zc_50 := zb_0.mp zc_50
                        refine lv_iconst (v := 0) hx hb dL_look_176 (by decide) ?_
                        exact W.eq (congrArg (fun z : Int32 => F0 m 177 ls [.int z, .int (Tw 14 i), .int (-1), .int 0, .ref (u 9), .ref (u 0)]) (show (0 : Int32) = if decide (Tw 15 i = 1) = true then (10 : Int32) else 0 from (by simp [zc_50]))) cut_177
                      · skip
                        have zc_50 := zb_n0 zc_50
                        refine lv_bipush (v := 10) hx hb dL_look_171 (by decide) ?_
                        refine lv_goto (tgt := 177) hx hb dL_look_173 (by decide) ?_
                        exact W.eq (congrArg (fun z : Int32 => F0 m 177 ls [.int z, .int (Tw 14 i), .int (-1), .int 0, .ref (u 9), .ref (u 0)]) (show (10 : Int32) = if decide (Tw 15 i = 1) = true then (10 : Int32) else 0 from (by simp [zc_50]))) cut_177
            · skip
              have zd_27 := Int32.not_le.mp zc_27
              have hmet : sMet Tw i = false := by rw [sMet, if_neg h13]; exact decide_eq_false zc_27
              refine lv_goto (tgt := 204) hx hb dL_look_100 (by decide) ?_
              have heqw : sWatch Nw Tw i = (Nw, va_up Tw 16 (upd (Tw 16) i 0)) := sWatch_un hmet
              have hRn : sLR (sWatches (i + 1) N T).1 (sWatches (i + 1) N T).2 Ez (va_up Fz 3 (upd (Fz 3) i (sPb Tw i))) := by
                show sLR (sWatch (sWatches i N T).1 (sWatches i N T).2 i).1 (sWatch (sWatches i N T).1 (sWatches i N T).2 i).2 _ _
                rw [hst]
                exact sLR_w (i := i) hRw sWatch_keep sWatch_6.1 sWatch_6.2.1 sWatch_6.2.2.1 (by rw [heqw]; exact hRw.1) (fun k hk3 hk9 => by simp [va_up, hk3, hk9]) (fun j => by rw [heqw]; exact nt0 hR9w.2.1) (by rw [heqw]; show (upd (Fz 3) i (sPb Tw i)) = upd (Fz 3) i (sPb Tw i + 262144 * upd (Tw 16) i 0 i); rw [upd_at, Int32.mul_zero, Int32.add_zero]) (fun a ha => by rw [heqw]; exact upd_no ha)
              refine lv_iinc (v := (nI (i + 1))) (lv' := [(5, .int (nI (i + 1))), (10, .int (zb (decide (Tw 15 i = 1)))), (9, .int (Tw 14 i)), (8, .int (Tw 12 i)), (7, .int (Tw 6 (Tw 11 i).toNatClampNeg)), (6, .int (Tw 16 i)), (0, .ref (u 0)), (1, .ref (u 2)), (2, .ref (u 3)), (3, .ref (u 4)), (4, .ref (u 9))]) hx hb dL_look_204 hl (k := 10) rfl (by first | exact nI_1 _ | rfl) (by decide) rfl (fun ls hl => ?_)
              refine lv_goto (tgt := 3) hx hb dL_look_207 (by decide) ?_
              have hl2 := lv_sub (l' := [(0, .ref (u 0)), (1, .ref (u 2)), (2, .ref (u 3)), (3, .ref (u 4)), (4, .ref (u 9)), (5, .int (nI (i + 1)))]) hl [6, 7, 8, 9, 10, 0] rfl
              exact ih (i + 1) (by omega) (by omega) _ _ hRn _ _ hP hD hS ls hl2
        refine lv_icmp_ne (tgt := 72) hx hb dL_look_65 (by decide) (fun zc_51 => ?_) (fun zc_51 => ?_)
        · skip
          refine lv_iconst (v := 0) hx hb dL_look_72 (by decide) ?_
          exact W.eq (congrArg (fun z : Int32 => F0 m 73 ls [.int z]) (show (0 : Int32) = zb (decide (Tw 15 i = 1)) from (by simp [zb, zc_51]))) cut_73
        · skip
          refine lv_iconst (v := 1) hx hb dL_look_68 (by decide) ?_
          refine lv_goto (tgt := 73) hx hb dL_look_69 (by decide) ?_
          exact W.eq (congrArg (fun z : Int32 => F0 m 73 ls [.int z]) (show (1 : Int32) = zb (decide (Tw 15 i = 1)) from (by simp [zb, zc_51]))) cut_73
  exact key_3 (N 3 + 1) 0 (Nat.zero_le _) (by omega) E F hR _ _ hP hD hS ls (lv_sub hl [1, 2, 3, 4, 5, 0] rfl)
