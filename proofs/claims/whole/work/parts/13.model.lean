set_option maxHeartbeats 4000000 in
set_option maxRecDepth 100000 in
theorem c_X7_meant (l : Launch) (G : zG) (q : Nat → Nat) (th : Int32) (N : Nat → Nat) (T : Nat → Nat → Int32) (E : Nat → Int64) (hg ag mn sd tk : Nat → Int32) (sg : Int32) (sn : Nat → Int32)  (hn4 : N 4 ≤ 40) : Met l yX7_meant wsX7_meant ({ frames := 0, cells := 0, slots := 0, locals := 0 }) (va_Pc [.ref (q 0)] (zPp G (mW G q th N T E hg ag mn sd tk sg sn))) (zQi (fun r : Int32 => r = sMeant (T 17) (N 4))) 0 0 (fun _ => False) := by
  refine Met.ofW (cc := cX7_meant) (maxL := 4) (ret := (some .int)) (by decide) rfl ?_
  intro p e s m args below meth c s₁ B hml hv
  obtain ⟨rfl, hP, hK⟩ := hv
  have hx := B.exec
  have hb := B.bytes
  have hr := B.returns
  have hts := atoms_spec (ws := wsX7_meant) B.pre
  have hown : s.vm.findClass RX7 = some m.cls := findClass_of_methodNamed B.named
  have hlocks := B.notSynchronized
  have hi_X7 : ∀ w ∈ u_ws RX7 TX7 32, w ∈ wsX7_meant := (fun _ h => List.mem_cons_of_mem _ (List.mem_append_right _ h))
  have hP : va_P G.1 vwCl [(q 0, .inr (8, [.int th, .int (nI (N 0)), .int (nI (N 1)), .ref (q 1), .int (T 19 0), .ref (q 2), .ref (q 3), .ref (q 4), .ref (q 5), .ref (q 6), .ref (q 7), .int (T 19 1), .int (nI (N 2)), .ref (q 8), .ref (q 9), .ref (q 10), .int (nI (N 3)), .ref (q 11), .ref (q 12), .ref (q 13), .ref (q 14), .ref (q 15), .ref (q 16), .int (nI (N 4)), .ref (q 17), .int (nI (N 5)), .ref (q 18), .ref (q 19), .int (nI (N 6)), .ref (q 20), .int sg, .ref (q 21)])), (q 1, .inl (G.2 1, 12500, .inr (.inl E))), (q 2, .inl (G.2 0, 9, .inl (T 1))), (q 3, .inl (G.2 2, 9, .inl (T 2))), (q 4, .inl (G.2 2, 8, .inl (T 3))), (q 5, .inl (G.2 0, 8, .inl (T 4))), (q 6, .inl (G.2 0, 8, .inl (T 5))), (q 7, .inl (G.2 0, 3, .inl (T 6))), (q 8, .inl (G.2 0, 40, .inl hg)), (q 9, .inl (G.2 0, 40, .inl (T 7))), (q 10, .inl (G.2 0, 40, .inl ag)), (q 11, .inl (G.2 0, 10, .inl (T 11))), (q 12, .inl (G.2 0, 10, .inl (T 12))), (q 13, .inl (G.2 2, 10, .inl (T 13))), (q 14, .inl (G.2 0, 10, .inl (T 14))), (q 15, .inl (G.2 2, 10, .inl (T 15))), (q 16, .inl (G.2 0, 10, .inl (T 16))), (q 17, .inl (G.2 3, 40, .inl (T 17))), (q 18, .inl (G.2 0, 60, .inl mn)), (q 19, .inl (G.2 3, 2400, .inl sd)), (q 20, .inl (G.2 0, 60, .inl tk)), (q 21, .inl (G.2 0, 40, .inl sn))] s.heap := hP
  have hl := lv_entry ([.ref (q 0)]) (n := 4) (Nat.le_of_ble_eq_true rfl)
  rw [lg_entry_eq]
  generalize (lg_sl ([.ref (q 0)]) ++ List.replicate (4 - (lg_sl ([.ref (q 0)])).length) Slot.unset).toArray = ls at hl ⊢
  have hl : lv_has ls 4 [(0, .ref (q 0))] := hl
  refine lv_iconst (v := (-1)) hx hb dX7_meant_0 (by decide) ?_
  refine lv_istore_n (lv' := [(1, .int (-1)), (0, .ref (q 0))]) hx hb dX7_meant_1 rfl hl (by decide) rfl (fun ls hl => ?_)
  refine lv_iconst (v := 0) hx hb dX7_meant_2 (by decide) ?_
  refine lv_istore_n (lv' := [(2, .int 0), (1, .int (-1)), (0, .ref (q 0))]) hx hb dX7_meant_3 rfl hl (by decide) rfl (fun ls hl => ?_)
  have key_4 : ∀ (n i : Nat), i ≤ N 4 - 1 → N 4 - 1 < i + n → ∀ ls : Array Slot, lv_has ls 4 [(0, .ref (q 0)), (1, .int (sMeantTo (T 17) i)), (2, .int (nI i))] → W p l e (headSpec wsX7_meant ({ frames := 0, cells := 0, slots := 0, locals := 0 })).room s m ([.ref (q 0)] : List Value).toArray below meth c s.heap [] 0 0 (MQ below (zQi (fun r : Int32 => r = sMeant (T 17) (N 4))) ([.ref (q 0)] : List Value).toArray s 0 0 (fun _ => False)) (F0 m 4 ls []) := by
    intro n
    induction n with
    | zero => intro i h1 h2; exact absurd h2 (by omega)
    | succ n ih =>
      intro i hi hn ls hl
      refine lv_iload_n hx hb dX7_meant_4 rfl (lv_at hl 2 rfl) ?_
      refine lv_iconst (v := 1) hx hb dX7_meant_5 (by decide) ?_
      refine lv_iadd hx hb dX7_meant_6 ?_
      refine W.eq (g2 := F0 m 7 ls [.int (nI (i + 1))]) (by first | (rw [nI_1]; done) | (rw [nI_1]; rfl)) ?_
      refine lv_aload_n hx hb dX7_meant_7 rfl (lv_at hl 0 rfl) ?_
      refine va_get (D := G.1) (ci := 8) (v := .int (nI (N 4))) (C := RX7) (T := TX7) (N := 32) hx hb hts hi_X7 hown hK hP 0 rfl rfl 23 (by decide) (hts (.fieldLink RX7 155 "BoilerLogModel" "length" "I") (List.mem_of_getElem? (i := 1) rfl)) (fun _ h9 => h9) rfl dX7_meant_8 ?_
      refine lv_icmp_ge (tgt := 83) hx hb dX7_meant_11 (by decide) (fun zc_1 => ?_) (fun zc_1 => ?_)
      · skip
        have zd_1 := Int32.not_lt.mpr zc_1
        have zhc := (nI_leI (by omega) (by omega)).mp zc_1
        have zie : i = N 4 - 1 := by omega
        subst zie
        refine lv_iload_n hx hb dX7_meant_83 rfl (lv_at hl 1 rfl) ?_
        exact W.iret (v := sMeantTo (T 17) (N 4 - 1)) hx hb hr (fun t ht hW => ⟨sMeantTo (T 17) (N 4 - 1), rfl, (show sMeantTo (T 17) _ = sMeantTo (T 17) (N 4 - 1) from by rw [show N 4 - 1 = (N 4 - 1) from rfl]), ht⟩) (fun _ h => nomatch h) dX7_meant_84
      · skip
        have zd_1 := Int32.not_le.mp zc_1
        have zhc := Nat.lt_of_not_le (fun z => zc_1 ((nI_leI (by omega) (by omega)).mpr z))
        have cut_56 : W p l e (headSpec wsX7_meant ({ frames := 0, cells := 0, slots := 0, locals := 0 })).room s m ([.ref (q 0)] : List Value).toArray below meth c s.heap [] 0 0 (MQ below (zQi (fun r : Int32 => r = sMeant (T 17) (N 4))) ([.ref (q 0)] : List Value).toArray s 0 0 (fun _ => False)) (F0 m 56 ls [.int (zb (sCalls (T 17) i))]) := by
          refine lv_istore_n (lv' := [(3, .int (zb (sCalls (T 17) i))), (0, .ref (q 0)), (1, .int (sMeantTo (T 17) i)), (2, .int (nI i))]) hx hb dX7_meant_56 rfl hl (by decide) rfl (fun ls hl => ?_)
          have cut_76 : W p l e (headSpec wsX7_meant ({ frames := 0, cells := 0, slots := 0, locals := 0 })).room s m ([.ref (q 0)] : List Value).toArray below meth c s.heap [] 0 0 (MQ below (zQi (fun r : Int32 => r = sMeant (T 17) (N 4))) ([.ref (q 0)] : List Value).toArray s 0 0 (fun _ => False)) (F0 m 76 ls [.int (sMeantTo (T 17) (i + 1))]) := by
            refine lv_istore_n (lv' := [(1, .int (sMeantTo (T 17) (i + 1))), (3, .int (zb (sCalls (T 17) i))), (0, .ref (q 0)), (2, .int (nI i))]) hx hb dX7_meant_76 rfl hl (by decide) rfl (fun ls hl => ?_)
            refine lv_iinc (v := (nI (i + 1))) (lv' := [(2, .int (nI (i + 1))), (1, .int (sMeantTo (T 17) (i + 1))), (3, .int (zb (sCalls (T 17) i))), (0, .ref (q 0))]) hx hb dX7_meant_77 hl (k := 3) rfl (by first | exact nI_1 _ | rfl) (by decide) rfl (fun ls hl => ?_)
            refine lv_goto (tgt := 4) hx hb dX7_meant_80 (by decide) ?_
            have hl2 := lv_sub (l' := [(0, .ref (q 0)), (1, .int (sMeantTo (T 17) (i + 1))), (2, .int (nI (i + 1)))]) hl [3, 1, 0] rfl
            exact ih (i + 1) (by omega) (by omega) ls hl2
          refine lv_iload_n hx hb dX7_meant_57 rfl (lv_at hl 0 rfl) ?_
          refine lv_if_eq (tgt := 75) hx hb dX7_meant_58 (by decide) (fun zc_2 => ?_) (fun zc_2 => ?_)
          · skip
            have zc_2 := zb_0.mp zc_2
            refine lv_iload_n hx hb dX7_meant_75 rfl (lv_at hl 2 rfl) ?_
            exact W.eq (congrArg (fun z : Int32 => F0 m 76 ls [.int z]) (show (sMeantTo (T 17) i : Int32) = sMeantTo (T 17) (i + 1) from (by simp [sMeant_step, zc_2]))) cut_76
          · skip
            have zc_2 := zb_n0 zc_2
            refine lv_aload_n hx hb dX7_meant_61 rfl (lv_at hl 1 rfl) ?_
            refine va_get (D := G.1) (ci := 8) (v := .ref (q 17)) (C := RX7) (T := TX7) (N := 32) hx hb hts hi_X7 hown hK hP 0 rfl rfl 24 (by decide) (hts (.fieldLink RX7 60 "BoilerLogModel" "text" "[C") (List.mem_of_getElem? (i := 2) rfl)) (fun _ h9 => h9) rfl dX7_meant_62 ?_
            refine lv_iload_n hx hb dX7_meant_65 rfl (lv_at hl 3 rfl) ?_
            refine lv_iconst (v := 1) hx hb dX7_meant_66 (by decide) ?_
            refine lv_iadd hx hb dX7_meant_67 ?_
            refine W.eq (g2 := F0 m 68 ls [.int (nI (i + 1)), .ref (q 17)]) (by first | (rw [nI_1]; done) | (rw [nI_1]; rfl)) ?_
            refine va_cald hx hb hK hP 17 3 rfl rfl (vp_in_nI (by omega) (by omega)) dX7_meant_68 ?_
            refine W.eq (g2 := F0 m 69 ls [.int ((T 17) (i + 1))]) (by first | (rw [nI_clamp (by omega)]; done) | (rw [nI_clamp (by omega)]; rfl)) ?_
            refine lv_bipush (v := 48) hx hb dX7_meant_69 (by decide) ?_
            refine lv_isub hx hb dX7_meant_71 ?_
            refine lv_goto (tgt := 76) hx hb dX7_meant_72 (by decide) ?_
            exact W.eq (congrArg (fun z : Int32 => F0 m 76 ls [.int z]) (show (((T 17) (i + 1)) - 48 : Int32) = sMeantTo (T 17) (i + 1) from (by simp [sMeant_step, zc_2]))) cut_76
        refine lv_aload_n hx hb dX7_meant_14 rfl (lv_at hl 0 rfl) ?_
        refine va_get (D := G.1) (ci := 8) (v := .ref (q 17)) (C := RX7) (T := TX7) (N := 32) hx hb hts hi_X7 hown hK hP 0 rfl rfl 24 (by decide) (hts (.fieldLink RX7 60 "BoilerLogModel" "text" "[C") (List.mem_of_getElem? (i := 2) rfl)) (fun _ h9 => h9) rfl dX7_meant_15 ?_
        refine lv_iload_n hx hb dX7_meant_18 rfl (lv_at hl 2 rfl) ?_
        refine va_cald hx hb hK hP 17 3 rfl rfl (vp_in_nI (by omega) (by omega)) dX7_meant_19 ?_
        refine W.eq (g2 := F0 m 20 ls [.int ((T 17) i)]) (by first | (rw [nI_clamp (by omega)]; done) | (rw [nI_clamp (by omega)]; rfl)) ?_
        refine lv_bipush (v := 64) hx hb dX7_meant_20 (by decide) ?_
        refine lv_icmp_ne (tgt := 55) hx hb dX7_meant_22 (by decide) (fun zc_3 => ?_) (fun zc_3 => ?_)
        · skip
          refine lv_iconst (v := 0) hx hb dX7_meant_55 (by decide) ?_
          exact W.eq (congrArg (fun z : Int32 => F0 m 56 ls [.int z]) (show (0 : Int32) = zb (sCalls (T 17) i) from (by simp [zb_t, zb_f, sCalls, zc_1, zd_1, zc_3]))) cut_56
        · skip
          refine lv_aload_n hx hb dX7_meant_25 rfl (lv_at hl 0 rfl) ?_
          refine va_get (D := G.1) (ci := 8) (v := .ref (q 17)) (C := RX7) (T := TX7) (N := 32) hx hb hts hi_X7 hown hK hP 0 rfl rfl 24 (by decide) (hts (.fieldLink RX7 60 "BoilerLogModel" "text" "[C") (List.mem_of_getElem? (i := 2) rfl)) (fun _ h9 => h9) rfl dX7_meant_26 ?_
          refine lv_iload_n hx hb dX7_meant_29 rfl (lv_at hl 2 rfl) ?_
          refine lv_iconst (v := 1) hx hb dX7_meant_30 (by decide) ?_
          refine lv_iadd hx hb dX7_meant_31 ?_
          refine W.eq (g2 := F0 m 32 ls [.int (nI (i + 1)), .ref (q 17)]) (by first | (rw [nI_1]; done) | (rw [nI_1]; rfl)) ?_
          refine va_cald hx hb hK hP 17 3 rfl rfl (vp_in_nI (by omega) (by omega)) dX7_meant_32 ?_
          refine W.eq (g2 := F0 m 33 ls [.int ((T 17) (i + 1))]) (by first | (rw [nI_clamp (by omega)]; done) | (rw [nI_clamp (by omega)]; rfl)) ?_
          refine lv_bipush (v := 48) hx hb dX7_meant_33 (by decide) ?_
          refine lv_icmp_lt (tgt := 55) hx hb dX7_meant_35 (by decide) (fun zc_4 => ?_) (fun zc_4 => ?_)
          · skip
            have zd_4 := Int32.not_le.mpr zc_4
            refine lv_iconst (v := 0) hx hb dX7_meant_55 (by decide) ?_
            exact W.eq (congrArg (fun z : Int32 => F0 m 56 ls [.int z]) (show (0 : Int32) = zb (sCalls (T 17) i) from (by simp [zb_t, zb_f, sCalls, zc_1, zd_1, zc_3, zc_4, zd_4]))) cut_56
          · skip
            have zd_4 := Int32.not_lt.mp zc_4
            refine lv_aload_n hx hb dX7_meant_38 rfl (lv_at hl 0 rfl) ?_
            refine va_get (D := G.1) (ci := 8) (v := .ref (q 17)) (C := RX7) (T := TX7) (N := 32) hx hb hts hi_X7 hown hK hP 0 rfl rfl 24 (by decide) (hts (.fieldLink RX7 60 "BoilerLogModel" "text" "[C") (List.mem_of_getElem? (i := 2) rfl)) (fun _ h9 => h9) rfl dX7_meant_39 ?_
            refine lv_iload_n hx hb dX7_meant_42 rfl (lv_at hl 2 rfl) ?_
            refine lv_iconst (v := 1) hx hb dX7_meant_43 (by decide) ?_
            refine lv_iadd hx hb dX7_meant_44 ?_
            refine W.eq (g2 := F0 m 45 ls [.int (nI (i + 1)), .ref (q 17)]) (by first | (rw [nI_1]; done) | (rw [nI_1]; rfl)) ?_
            refine va_cald hx hb hK hP 17 3 rfl rfl (vp_in_nI (by omega) (by omega)) dX7_meant_45 ?_
            refine W.eq (g2 := F0 m 46 ls [.int ((T 17) (i + 1))]) (by first | (rw [nI_clamp (by omega)]; done) | (rw [nI_clamp (by omega)]; rfl)) ?_
            refine lv_bipush (v := 56) hx hb dX7_meant_46 (by decide) ?_
            refine lv_icmp_gt (tgt := 55) hx hb dX7_meant_48 (by decide) (fun zc_5 => ?_) (fun zc_5 => ?_)
            · skip
              have zd_5 := Int32.not_le.mpr zc_5
              refine lv_iconst (v := 0) hx hb dX7_meant_55 (by decide) ?_
              exact W.eq (congrArg (fun z : Int32 => F0 m 56 ls [.int z]) (show (0 : Int32) = zb (sCalls (T 17) i) from (by simp [zb_t, zb_f, sCalls, zc_1, zd_1, zc_3, zc_4, zd_4, zc_5, zd_5]))) cut_56
            · skip
              have zd_5 := Int32.not_lt.mp zc_5
              refine lv_iconst (v := 1) hx hb dX7_meant_51 (by decide) ?_
              refine lv_goto (tgt := 56) hx hb dX7_meant_52 (by decide) ?_
              exact W.eq (congrArg (fun z : Int32 => F0 m 56 ls [.int z]) (show (1 : Int32) = zb (sCalls (T 17) i) from (by simp [zb_t, zb_f, sCalls, zc_1, zd_1, zc_3, zc_4, zd_4, zc_5, zd_5]))) cut_56
  exact key_4 (N 4 - 1 + 1) 0 (Nat.zero_le _) (by omega) ls (lv_sub hl [2, 1, 0] rfl)
