set_option maxHeartbeats 4000000 in
set_option maxRecDepth 100000 in
theorem c_L_low (l : Launch) (G : zG) (v : Int32) (n : Nat) (hn0 : 0 < n) (hn2 : n < 2 ^ 31) : Met l yL_low wsL_low ({ frames := 0, cells := 0, slots := 0, locals := 0 }) (va_Pc [.int v, .int (nI n)] (zPp G ([] : va_W))) (zQi (fun r : Int32 => ∃ j : Nat, j < n ∧ r = nI j)) 0 0 (fun _ => False) := by
  refine Met.ofW (cc := cL_low) (maxL := 2) (ret := (some .int)) (by decide) rfl ?_
  intro p e s m args below meth c s₁ B hml hv
  obtain ⟨rfl, hP, hK⟩ := hv
  have hx := B.exec
  have hb := B.bytes
  have hr := B.returns
  have hts := atoms_spec (ws := wsL_low) B.pre
  have hown : s.vm.findClass RL = some m.cls := findClass_of_methodNamed B.named
  have hlocks := B.notSynchronized
  have hl := lv_entry ([.int v, .int (nI n)]) (n := 2) (Nat.le_of_ble_eq_true rfl)
  rw [lg_entry_eq]
  generalize (lg_sl ([.int v, .int (nI n)]) ++ List.replicate (2 - (lg_sl ([.int v, .int (nI n)])).length) Slot.unset).toArray = ls at hl ⊢
  have hl : lv_has ls 2 [(0, .int v), (1, .int (nI n))] := hl
  refine lv_iload_n hx hb dL_low_0 rfl (lv_at hl 0 rfl) ?_
  refine lv_iconst (v := 1) hx hb dL_low_1 (by decide) ?_
  refine lv_iushr (v := (v.toUInt32 >>> ((1 : Int32).toUInt32 &&& Int32.toUInt32 31)).toInt32) hx hb dL_low_2 rfl ?_
  refine lv_iload_n hx hb dL_low_3 rfl (lv_at hl 1 rfl) ?_
  refine lv_irem hx hb dL_low_4 (nI_ne0 hn0 hn2) ?_
  exact W.iret (v := ((v.toUInt32 >>> ((1 : Int32).toUInt32 &&& Int32.toUInt32 31)).toInt32) - ((v.toUInt32 >>> ((1 : Int32).toUInt32 &&& Int32.toUInt32 31)).toInt32) / (nI n) * (nI n)) hx hb hr (fun t ht hW => ⟨((v.toUInt32 >>> ((1 : Int32).toUInt32 &&& Int32.toUInt32 31)).toInt32) - ((v.toUInt32 >>> ((1 : Int32).toUInt32 &&& Int32.toUInt32 31)).toInt32) / (nI n) * (nI n), rfl, (z_low hn0 hn2), ht⟩) (fun _ h => nomatch h) dL_low_5

set_option maxHeartbeats 4000000 in
set_option maxRecDepth 100000 in
theorem c_L_kind (l : Launch) (G : zG) (a1 : Int32)  : Met l yL_kind wsL_kind ({ frames := 0, cells := 0, slots := 0, locals := 0 }) (va_Pc [.int a1] (zPp G ([] : va_W))) (zQi (fun r : Int32 => r = zK2 a1)) 0 0 (fun _ => False) := by
  refine Met.ofW (cc := cL_kind) (maxL := 1) (ret := (some .int)) (by decide) rfl ?_
  intro p e s m args below meth c s₁ B hml hv
  obtain ⟨rfl, hP, hK⟩ := hv
  have hx := B.exec
  have hb := B.bytes
  have hr := B.returns
  have hts := atoms_spec (ws := wsL_kind) B.pre
  have hown : s.vm.findClass RL = some m.cls := findClass_of_methodNamed B.named
  have hlocks := B.notSynchronized
  have hl := lv_entry ([.int a1]) (n := 1) (Nat.le_of_ble_eq_true rfl)
  rw [lg_entry_eq]
  generalize (lg_sl ([.int a1]) ++ List.replicate (1 - (lg_sl ([.int a1])).length) Slot.unset).toArray = ls at hl ⊢
  have hl : lv_has ls 1 [(0, .int a1)] := hl
  refine lv_iload_n hx hb dL_kind_0 rfl (lv_at hl 0 rfl) ?_
  refine lv_sipush (v := 1000) hx hb dL_kind_1 (by decide) ?_
  refine lv_idiv hx hb dL_kind_4 (by decide) ?_
  refine lv_bipush (v := 10) hx hb dL_kind_5 (by decide) ?_
  refine lv_irem hx hb dL_kind_7 (by decide) ?_
  exact W.iret (v := (a1 / 1000) - (a1 / 1000) / 10 * 10) hx hb hr (fun t ht hW => ⟨(a1 / 1000) - (a1 / 1000) / 10 * 10, rfl, rfl, ht⟩) (fun _ h => nomatch h) dL_kind_8

set_option maxHeartbeats 4000000 in
set_option maxRecDepth 100000 in
theorem c_L_who (l : Launch) (G : zG) (a1 : Int32)  : Met l yL_who wsL_who ({ frames := 0, cells := 0, slots := 0, locals := 0 }) (va_Pc [.int a1] (zPp G ([] : va_W))) (zQi (fun r : Int32 => r = zWo a1)) 0 0 (fun _ => False) := by
  refine Met.ofW (cc := cL_who) (maxL := 1) (ret := (some .int)) (by decide) rfl ?_
  intro p e s m args below meth c s₁ B hml hv
  obtain ⟨rfl, hP, hK⟩ := hv
  have hx := B.exec
  have hb := B.bytes
  have hr := B.returns
  have hts := atoms_spec (ws := wsL_who) B.pre
  have hown : s.vm.findClass RL = some m.cls := findClass_of_methodNamed B.named
  have hlocks := B.notSynchronized
  have hl := lv_entry ([.int a1]) (n := 1) (Nat.le_of_ble_eq_true rfl)
  rw [lg_entry_eq]
  generalize (lg_sl ([.int a1]) ++ List.replicate (1 - (lg_sl ([.int a1])).length) Slot.unset).toArray = ls at hl ⊢
  have hl : lv_has ls 1 [(0, .int a1)] := hl
  refine lv_iload_n hx hb dL_who_0 rfl (lv_at hl 0 rfl) ?_
  refine lv_bipush (v := 100) hx hb dL_who_1 (by decide) ?_
  refine lv_idiv hx hb dL_who_3 (by decide) ?_
  refine lv_bipush (v := 10) hx hb dL_who_4 (by decide) ?_
  refine lv_irem hx hb dL_who_6 (by decide) ?_
  refine lv_iconst (v := 1) hx hb dL_who_7 (by decide) ?_
  refine lv_isub hx hb dL_who_8 ?_
  exact W.iret (v := ((a1 / 100) - (a1 / 100) / 10 * 10) - 1) hx hb hr (fun t ht hW => ⟨((a1 / 100) - (a1 / 100) / 10 * 10) - 1, rfl, rfl, ht⟩) (fun _ h => nomatch h) dL_who_9

set_option maxHeartbeats 4000000 in
set_option maxRecDepth 100000 in
theorem c_L_letter (l : Launch) (G : zG) (k : Nat) (hk : k < 8) : Met l yL_letter wsL_letter ({ frames := 0, cells := 0, slots := 0, locals := 0 }) (va_Pc [.int (nI k)] (zPp G ([] : va_W))) (zQi (fun r : Int32 => r = zLt k)) 0 0 (fun _ => False) := by
  refine Met.ofW (cc := cL_letter) (maxL := 1) (ret := (some .char)) (by decide) rfl ?_
  intro p e s m args below meth c s₁ B hml hv
  obtain ⟨rfl, hP, hK⟩ := hv
  have hx := B.exec
  have hb := B.bytes
  have hr := B.returns
  have hts := atoms_spec (ws := wsL_letter) B.pre
  have hown : s.vm.findClass RL = some m.cls := findClass_of_methodNamed B.named
  have hlocks := B.notSynchronized
  have hl := lv_entry ([.int (nI k)]) (n := 1) (Nat.le_of_ble_eq_true rfl)
  rw [lg_entry_eq]
  generalize (lg_sl ([.int (nI k)]) ++ List.replicate (1 - (lg_sl ([.int (nI k)])).length) Slot.unset).toArray = ls at hl ⊢
  have hl : lv_has ls 1 [(0, .int (nI k))] := hl
  refine lv_iload_n hx hb dL_letter_0 rfl (lv_at hl 0 rfl) ?_
  refine lv_if_ne (tgt := 9) hx hb dL_letter_1 (by decide) (fun zc_1 => ?_) (fun zc_1 => ?_)
  · skip
    refine lv_iload_n hx hb dL_letter_9 rfl (lv_at hl 0 rfl) ?_
    refine lv_iconst (v := 1) hx hb dL_letter_10 (by decide) ?_
    refine lv_icmp_ne (tgt := 19) hx hb dL_letter_11 (by decide) (fun zc_2 => ?_) (fun zc_2 => ?_)
    · skip
      refine lv_iload_n hx hb dL_letter_19 rfl (lv_at hl 0 rfl) ?_
      refine lv_iconst (v := 2) hx hb dL_letter_20 (by decide) ?_
      refine lv_icmp_ne (tgt := 29) hx hb dL_letter_21 (by decide) (fun zc_3 => ?_) (fun zc_3 => ?_)
      · skip
        refine lv_iload_n hx hb dL_letter_29 rfl (lv_at hl 0 rfl) ?_
        refine lv_iconst (v := 3) hx hb dL_letter_30 (by decide) ?_
        refine lv_icmp_ne (tgt := 39) hx hb dL_letter_31 (by decide) (fun zc_4 => ?_) (fun zc_4 => ?_)
        · skip
          refine lv_iload_n hx hb dL_letter_39 rfl (lv_at hl 0 rfl) ?_
          refine lv_iconst (v := 4) hx hb dL_letter_40 (by decide) ?_
          refine lv_icmp_ne (tgt := 49) hx hb dL_letter_41 (by decide) (fun zc_5 => ?_) (fun zc_5 => ?_)
          · skip
            refine lv_iload_n hx hb dL_letter_49 rfl (lv_at hl 0 rfl) ?_
            refine lv_iconst (v := 5) hx hb dL_letter_50 (by decide) ?_
            refine lv_icmp_ne (tgt := 59) hx hb dL_letter_51 (by decide) (fun zc_6 => ?_) (fun zc_6 => ?_)
            · skip
              refine lv_iload_n hx hb dL_letter_59 rfl (lv_at hl 0 rfl) ?_
              refine lv_bipush (v := 6) hx hb dL_letter_60 (by decide) ?_
              refine lv_icmp_ne (tgt := 70) hx hb dL_letter_62 (by decide) (fun zc_7 => ?_) (fun zc_7 => ?_)
              · skip
                refine lv_bipush (v := 49) hx hb dL_letter_70 (by decide) ?_
                exact W.zret (v := 49) hx hb hr rfl (fun t ht hW => ⟨49, rfl, (by rcases (show k = 0 ∨ k = 1 ∨ k = 2 ∨ k = 3 ∨ k = 4 ∨ k = 5 ∨ k = 6 ∨ k = 7 by omega) with rfl | rfl | rfl | rfl | rfl | rfl | rfl | rfl <;> first | rfl | exact absurd rfl zc_1 | exact absurd rfl zc_2 | exact absurd rfl zc_3 | exact absurd rfl zc_4 | exact absurd rfl zc_5 | exact absurd rfl zc_6 | exact absurd rfl zc_7 | exact absurd zc_1 (by decide) | exact absurd zc_2 (by decide) | exact absurd zc_3 (by decide) | exact absurd zc_4 (by decide) | exact absurd zc_5 (by decide) | exact absurd zc_6 (by decide) | exact absurd zc_7 (by decide)), ht⟩) (fun _ h => nomatch h) dL_letter_72
              · skip
                refine lv_ldc (v := 56832) hx hb hown (hts _ (List.mem_of_getElem? (i := 2) rfl)) dL_letter_65 ?_
                refine lv_goto (tgt := 72) hx hb dL_letter_67 (by decide) ?_
                exact W.zret (v := 56832) hx hb hr rfl (fun t ht hW => ⟨56832, rfl, (by rcases (show k = 0 ∨ k = 1 ∨ k = 2 ∨ k = 3 ∨ k = 4 ∨ k = 5 ∨ k = 6 ∨ k = 7 by omega) with rfl | rfl | rfl | rfl | rfl | rfl | rfl | rfl <;> first | rfl | exact absurd rfl zc_1 | exact absurd rfl zc_2 | exact absurd rfl zc_3 | exact absurd rfl zc_4 | exact absurd rfl zc_5 | exact absurd rfl zc_6 | exact absurd rfl zc_7 | exact absurd zc_1 (by decide) | exact absurd zc_2 (by decide) | exact absurd zc_3 (by decide) | exact absurd zc_4 (by decide) | exact absurd zc_5 (by decide) | exact absurd zc_6 (by decide) | exact absurd zc_7 (by decide)), ht⟩) (fun _ h => nomatch h) dL_letter_72
            · skip
              refine lv_ldc (v := 55357) hx hb hown (hts _ (List.mem_of_getElem? (i := 1) rfl)) dL_letter_54 ?_
              refine lv_goto (tgt := 72) hx hb dL_letter_56 (by decide) ?_
              exact W.zret (v := 55357) hx hb hr rfl (fun t ht hW => ⟨55357, rfl, (by rcases (show k = 0 ∨ k = 1 ∨ k = 2 ∨ k = 3 ∨ k = 4 ∨ k = 5 ∨ k = 6 ∨ k = 7 by omega) with rfl | rfl | rfl | rfl | rfl | rfl | rfl | rfl <;> first | rfl | exact absurd rfl zc_1 | exact absurd rfl zc_2 | exact absurd rfl zc_3 | exact absurd rfl zc_4 | exact absurd rfl zc_5 | exact absurd rfl zc_6 | exact absurd zc_1 (by decide) | exact absurd zc_2 (by decide) | exact absurd zc_3 (by decide) | exact absurd zc_4 (by decide) | exact absurd zc_5 (by decide) | exact absurd zc_6 (by decide)), ht⟩) (fun _ h => nomatch h) dL_letter_72
          · skip
            refine lv_bipush (v := 97) hx hb dL_letter_44 (by decide) ?_
            refine lv_goto (tgt := 72) hx hb dL_letter_46 (by decide) ?_
            exact W.zret (v := 97) hx hb hr rfl (fun t ht hW => ⟨97, rfl, (by rcases (show k = 0 ∨ k = 1 ∨ k = 2 ∨ k = 3 ∨ k = 4 ∨ k = 5 ∨ k = 6 ∨ k = 7 by omega) with rfl | rfl | rfl | rfl | rfl | rfl | rfl | rfl <;> first | rfl | exact absurd rfl zc_1 | exact absurd rfl zc_2 | exact absurd rfl zc_3 | exact absurd rfl zc_4 | exact absurd rfl zc_5 | exact absurd zc_1 (by decide) | exact absurd zc_2 (by decide) | exact absurd zc_3 (by decide) | exact absurd zc_4 (by decide) | exact absurd zc_5 (by decide)), ht⟩) (fun _ h => nomatch h) dL_letter_72
        · skip
          refine lv_bipush (v := 57) hx hb dL_letter_34 (by decide) ?_
          refine lv_goto (tgt := 72) hx hb dL_letter_36 (by decide) ?_
          exact W.zret (v := 57) hx hb hr rfl (fun t ht hW => ⟨57, rfl, (by rcases (show k = 0 ∨ k = 1 ∨ k = 2 ∨ k = 3 ∨ k = 4 ∨ k = 5 ∨ k = 6 ∨ k = 7 by omega) with rfl | rfl | rfl | rfl | rfl | rfl | rfl | rfl <;> first | rfl | exact absurd rfl zc_1 | exact absurd rfl zc_2 | exact absurd rfl zc_3 | exact absurd rfl zc_4 | exact absurd zc_1 (by decide) | exact absurd zc_2 (by decide) | exact absurd zc_3 (by decide) | exact absurd zc_4 (by decide)), ht⟩) (fun _ h => nomatch h) dL_letter_72
      · skip
        refine lv_bipush (v := 56) hx hb dL_letter_24 (by decide) ?_
        refine lv_goto (tgt := 72) hx hb dL_letter_26 (by decide) ?_
        exact W.zret (v := 56) hx hb hr rfl (fun t ht hW => ⟨56, rfl, (by rcases (show k = 0 ∨ k = 1 ∨ k = 2 ∨ k = 3 ∨ k = 4 ∨ k = 5 ∨ k = 6 ∨ k = 7 by omega) with rfl | rfl | rfl | rfl | rfl | rfl | rfl | rfl <;> first | rfl | exact absurd rfl zc_1 | exact absurd rfl zc_2 | exact absurd rfl zc_3 | exact absurd zc_1 (by decide) | exact absurd zc_2 (by decide) | exact absurd zc_3 (by decide)), ht⟩) (fun _ h => nomatch h) dL_letter_72
    · skip
      refine lv_bipush (v := 48) hx hb dL_letter_14 (by decide) ?_
      refine lv_goto (tgt := 72) hx hb dL_letter_16 (by decide) ?_
      exact W.zret (v := 48) hx hb hr rfl (fun t ht hW => ⟨48, rfl, (by rcases (show k = 0 ∨ k = 1 ∨ k = 2 ∨ k = 3 ∨ k = 4 ∨ k = 5 ∨ k = 6 ∨ k = 7 by omega) with rfl | rfl | rfl | rfl | rfl | rfl | rfl | rfl <;> first | rfl | exact absurd rfl zc_1 | exact absurd rfl zc_2 | exact absurd zc_1 (by decide) | exact absurd zc_2 (by decide)), ht⟩) (fun _ h => nomatch h) dL_letter_72
  · skip
    refine lv_bipush (v := 64) hx hb dL_letter_4 (by decide) ?_
    refine lv_goto (tgt := 72) hx hb dL_letter_6 (by decide) ?_
    exact W.zret (v := 64) hx hb hr rfl (fun t ht hW => ⟨64, rfl, (by rcases (show k = 0 ∨ k = 1 ∨ k = 2 ∨ k = 3 ∨ k = 4 ∨ k = 5 ∨ k = 6 ∨ k = 7 by omega) with rfl | rfl | rfl | rfl | rfl | rfl | rfl | rfl <;> first | rfl | exact absurd rfl zc_1 | exact absurd zc_1 (by decide)), ht⟩) (fun _ h => nomatch h) dL_letter_72

set_option maxHeartbeats 4000000 in
set_option maxRecDepth 100000 in
theorem c_L_entry (l : Launch) (G : zG) (u : Nat → Nat) (E : Nat → Int64) (F : Nat → Nat → Int32) (N : Nat → Nat) (T : Nat → Nat → Int32) (i : Nat) (hQ : sLQ N T E F) (hi : i < N 1) : Met l yL_entry wsL_entry ({ frames := 0, cells := 0, slots := 0, locals := 0 }) (va_Pc [.ref (u 0), .int (nI i)] (zPp G (LW G u E F))) (zQi (fun r : Int32 => r = T 0 i)) 0 0 (fun _ => False) := by
  refine Met.ofW (cc := cL_entry) (maxL := 2) (ret := (some .int)) (by decide) rfl ?_
  intro p e s m args below meth c s₁ B hml hv
  obtain ⟨rfl, hP, hK⟩ := hv
  have hx := B.exec
  have hb := B.bytes
  have hr := B.returns
  have hts := atoms_spec (ws := wsL_entry) B.pre
  have hown : s.vm.findClass RL = some m.cls := findClass_of_methodNamed B.named
  have hlocks := B.notSynchronized
  have hP : va_P G.1 vwCl [(u 0, .inl (G.2 1, 64, .inr (.inl E))), (u 1, .inl (G.2 0, 8, .inl (F 1))), (u 2, .inl (G.2 0, 3, .inl (F 2))), (u 3, .inl (G.2 0, 3, .inl (F 3))), (u 4, .inl (G.2 0, 40, .inl (F 4))), (u 5, .inl (G.2 0, 40, .inl (F 5))), (u 6, .inl (G.2 0, 9, .inl (F 6))), (u 7, .inl (G.2 0, 12, .inl (F 7))), (u 8, .inl (G.2 0, 12, .inl (F 8))), (u 9, .inl (G.2 0, 10, .inl (F 9)))] s.heap := hP
  have hl := lv_entry ([.ref (u 0), .int (nI i)]) (n := 2) (Nat.le_of_ble_eq_true rfl)
  rw [lg_entry_eq]
  generalize (lg_sl ([.ref (u 0), .int (nI i)]) ++ List.replicate (2 - (lg_sl ([.ref (u 0), .int (nI i)])).length) Slot.unset).toArray = ls at hl ⊢
  have hl : lv_has ls 2 [(0, .ref (u 0)), (1, .int (nI i))] := hl
  have hnz := hQ.2.1
  refine lv_aload_n hx hb dL_entry_0 rfl (lv_at hl 0 rfl) ?_
  refine lv_iload_n hx hb dL_entry_1 rfl (lv_at hl 1 rfl) ?_
  refine lv_iconst (v := 2) hx hb dL_entry_2 (by decide) ?_
  refine lv_idiv hx hb dL_entry_3 (by decide) ?_
  refine W.eq (g2 := F0 m 4 ls [.int (nI (i / 2)), .ref (u 0)]) (by first | (rw [zDiv2 (by omega)]; done) | (rw [zDiv2 (by omega)]; rfl)) ?_
  refine va_lald hx hb hK hP 0 1 rfl rfl (vp_in_nI (by omega) (by omega)) dL_entry_4 ?_
  rw [nI_clamp (by omega)]
  refine lv_bipush (v := 32) hx hb dL_entry_5 (by decide) ?_
  refine lv_iload_n hx hb dL_entry_7 rfl (lv_at hl 1 rfl) ?_
  refine lv_iconst (v := 2) hx hb dL_entry_8 (by decide) ?_
  refine lv_irem hx hb dL_entry_9 (by decide) ?_
  refine W.eq (g2 := F0 m 10 ls [.int (nI (i % 2)), .int 32, .long (E (i / 2))]) (by first | (rw [zRem2 (by omega)]; done) | (rw [zRem2 (by omega)]; rfl)) ?_
  refine lv_imul hx hb dL_entry_10 ?_
  refine lv_lshr (v := (E (i / 2)) >>> ((32 * (nI (i % 2))).toInt64 &&& 63)) hx hb dL_entry_11 rfl ?_
  refine lv_ldc2 (v := 2147483647) hx hb hown (hts _ (List.mem_of_getElem? (i := 1) rfl)) dL_entry_12 ?_
  refine lv_land hx hb dL_entry_15 ?_
  refine lv_l2i (v := (((E (i / 2)) >>> ((32 * (nI (i % 2))).toInt64 &&& 63)) &&& 2147483647).toInt32) hx hb dL_entry_16 rfl ?_
  exact W.iret (v := (((E (i / 2)) >>> ((32 * (nI (i % 2))).toInt64 &&& 63)) &&& 2147483647).toInt32) hx hb hr (fun t ht hW => ⟨(((E (i / 2)) >>> ((32 * (nI (i % 2))).toInt64 &&& 63)) &&& 2147483647).toInt32, rfl, (sRE_get hQ.1 hi (by have := hQ.2.1; omega)), ht⟩) (fun _ h => nomatch h) dL_entry_17

set_option maxHeartbeats 4000000 in
set_option maxRecDepth 100000 in
theorem c_L_opened (l : Launch) (G : zG) (u : Nat → Nat) (E : Nat → Int64) (F : Nat → Nat → Int32) (N : Nat → Nat) (T : Nat → Nat → Int32) (a1 : Int32) (hQ : sLQ N T E F) (hv : vp_in a1 8) : Met l yL_opened wsL_opened ({ frames := 1, cells := 0, slots := 0, locals := 21 }) (va_Pc [.ref (u 0), .ref (u 9), .int a1] (zPp G (LW G u E F))) (zQi (fun r : Int32 => r = T 3 a1.toNatClampNeg)) 0 0 (fun _ => False) := by
  refine Met.ofW (cc := cL_opened) (maxL := 4) (ret := (some .boolean)) (by decide) rfl ?_
  intro p e s m args below meth c s₁ B hml hv
  obtain ⟨rfl, hP, hK⟩ := hv
  have hx := B.exec
  have hb := B.bytes
  have hr := B.returns
  have hts := atoms_spec (ws := wsL_opened) B.pre
  have hown : s.vm.findClass RL = some m.cls := findClass_of_methodNamed B.named
  have hlocks := B.notSynchronized
  have hP : va_P G.1 vwCl [(u 0, .inl (G.2 1, 64, .inr (.inl E))), (u 1, .inl (G.2 0, 8, .inl (F 1))), (u 2, .inl (G.2 0, 3, .inl (F 2))), (u 3, .inl (G.2 0, 3, .inl (F 3))), (u 4, .inl (G.2 0, 40, .inl (F 4))), (u 5, .inl (G.2 0, 40, .inl (F 5))), (u 6, .inl (G.2 0, 9, .inl (F 6))), (u 7, .inl (G.2 0, 12, .inl (F 7))), (u 8, .inl (G.2 0, 12, .inl (F 8))), (u 9, .inl (G.2 0, 10, .inl (F 9)))] s.heap := hP
  have hl := lv_entry ([.ref (u 0), .ref (u 9), .int a1]) (n := 4) (Nat.le_of_ble_eq_true rfl)
  rw [lg_entry_eq]
  generalize (lg_sl ([.ref (u 0), .ref (u 9), .int a1]) ++ List.replicate (4 - (lg_sl ([.ref (u 0), .ref (u 9), .int a1])).length) Slot.unset).toArray = ls at hl ⊢
  have hl : lv_has ls 4 [(0, .ref (u 0)), (1, .ref (u 9)), (2, .int a1)] := hl
  obtain ⟨hRE, ⟨hn1, hn2, hn0, hn6⟩, ⟨hq0, hq1, hq2, hq5⟩, hR4, hR6, hG, hH, hTg, hB2⟩ := id hQ
  refine lv_aload_n hx hb dL_opened_0 rfl (lv_at hl 1 rfl) ?_
  refine lv_iconst (v := 1) hx hb dL_opened_1 (by decide) ?_
  refine va_iald hx hb hK hP 9 0 rfl rfl (vp_in_nI (n := 1) (by decide) (by decide)) dL_opened_2 ?_
  refine W.eq (g2 := F0 m 3 ls [.int (nI (N 1))]) (by rw [show (F 9) (1 : Int32).toNatClampNeg = nI (N 1) from hq1]) ?_
  refine lv_iconst (v := 1) hx hb dL_opened_3 (by decide) ?_
  refine lv_isub hx hb dL_opened_4 ?_
  refine W.eq (g2 := F0 m 5 ls [.int (nI (N 1 - 0) - 1)]) (by first | (rfl; done) | (rfl; rfl)) ?_
  refine lv_istore_n (lv' := [(3, .int (nI (N 1 - 0) - 1)), (0, .ref (u 0)), (1, .ref (u 9)), (2, .int a1)]) hx hb dL_opened_5 rfl hl (by decide) rfl (fun ls hl => ?_)
  have key_6 : ∀ (n i : Nat), i ≤ N 1 → N 1 < i + n → (sOp2 (T 0) a1 (N 1) = sOp2 (T 0) a1 (N 1 - i)) → ∀ ls : Array Slot, lv_has ls 4 [(0, .ref (u 0)), (1, .ref (u 9)), (2, .int a1), (3, .int (nI (N 1 - i) - 1))] → W p l e (headSpec wsL_opened ({ frames := 1, cells := 0, slots := 0, locals := 21 })).room s m ([.ref (u 0), .ref (u 9), .int a1] : List Value).toArray below meth c s.heap [] 0 0 (MQ below (zQi (fun r : Int32 => r = T 3 a1.toNatClampNeg)) ([.ref (u 0), .ref (u 9), .int a1] : List Value).toArray s 0 0 (fun _ => False)) (F0 m 6 ls []) := by
    intro n
    induction n with
    | zero => intro i h1 h2; exact absurd h2 (by omega)
    | succ n ih =>
      intro i hi hn hme ls hl
      refine lv_iload_n hx hb dL_opened_6 rfl (lv_at hl 3 rfl) ?_
      refine lv_if_lt (tgt := 58) hx hb dL_opened_7 (by decide) (fun zc_1 => ?_) (fun zc_1 => ?_)
      · skip
        have zd_1 := Int32.not_le.mpr zc_1
        have zm := zNeg1 (by omega) zc_1
        refine lv_iconst (v := 0) hx hb dL_opened_58 (by decide) ?_
        exact W.zret (v := 0) hx hb hr rfl (fun t ht hW => ⟨0, rfl, (by rw [← hQ.op hv, hme, zm]; rfl), ht⟩) (fun _ h => nomatch h) dL_opened_59
      · skip
        have zd_1 := Int32.not_lt.mp zc_1
        have zm := zPos1 (by omega) zc_1
        have hnx : nI (N 1 - i) - 1 = nI (N 1 - i - 1) := by have hz9 := nI_pred (N 1 - i - 1); rw [show N 1 - i - 1 + 1 = N 1 - i by omega] at hz9; exact hz9
        rw [hnx] at hl
        refine lv_aload_n hx hb dL_opened_10 rfl (lv_at hl 0 rfl) ?_
        refine lv_iload_n hx hb dL_opened_11 rfl (lv_at hl 3 rfl) ?_
        refine z_csi (va_Run.run (va_runS (As := [.ref (u 0), .int (nI (N 1 - i - 1))]) (rest := []) ⟨hx, hb, hml, hown, hts⟩ (c_L_entry l G u E F N T (N 1 - i - 1) (by first | assumption | exact hQ | omega | exact vp_in_nI (by omega) (by omega)) (by first | assumption | exact hQ | omega | exact vp_in_nI (by omega) (by omega))) (va_cwS 2 hts gL_opened_L_entry rfl rfl rfl (by decide +kernel) ⟨Nat.le_of_ble_eq_true rfl, Nat.le_of_ble_eq_true rfl⟩) (z_ps hK hP) rfl rfl hl.1 rfl (lv_room (Nat.le_of_ble_eq_true rfl)) dL_opened_12 ⟨(Nat.zero_le _), (Nat.zero_le _)⟩)) (fun zr_2 hzr_2 => ?_)
        subst hzr_2
        refine z_csi (va_Run.run (va_runS (As := [.int (T 0 (N 1 - i - 1))]) (rest := []) ⟨hx, hb, hml, hown, hts⟩ (c_L_kind l G (T 0 (N 1 - i - 1))) (va_cwS 1 hts gL_opened_L_kind rfl rfl rfl (by decide +kernel) ⟨Nat.le_of_ble_eq_true rfl, Nat.le_of_ble_eq_true rfl⟩) (z_ps hK z_none) rfl rfl hl.1 rfl (lv_room (Nat.le_of_ble_eq_true rfl)) dL_opened_15 ⟨(Nat.zero_le _), (Nat.zero_le _)⟩)) (fun zr_3 hzr_3 => ?_)
        subst hzr_3
        refine lv_if_ne (tgt := 52) hx hb dL_opened_18 (by decide) (fun zc_4 => ?_) (fun zc_4 => ?_)
        · skip
          have hqn : ¬ (zK2 (T 0 (N 1 - i - 1)) = 0 ∧ zT2 (T 0 (N 1 - i - 1)) = a1) := fun z9 => zc_4 z9.1
          refine lv_iinc (v := ((nI (N 1 - i - 1)) + (-1))) (lv' := [(3, .int ((nI (N 1 - i - 1)) + (-1))), (0, .ref (u 0)), (1, .ref (u 9)), (2, .int a1)]) hx hb dL_opened_52 hl (k := 3) rfl (by first | exact rfl | rfl) (by decide) rfl (fun ls hl => ?_)
          refine lv_goto (tgt := 6) hx hb dL_opened_55 (by decide) ?_
          have hl2 := lv_sub (l' := [(0, .ref (u 0)), (1, .ref (u 9)), (2, .int a1), (3, .int ((nI (N 1 - i - 1)) + (-1)))]) hl [1, 2, 3, 0] rfl
          have e_3 : (nI (N 1 - i - 1)) + (-1) = nI (N 1 - (i + 1)) - 1 := by rw [show N 1 - (i + 1) = N 1 - i - 1 by omega]; exact (Int32.sub_eq_add_neg _ _).symm
          rw [e_3] at hl2
          exact ih (i + 1) (by omega) (by omega) (by rw [hme, show N 1 - i = N 1 - i - 1 + 1 by omega, sOp2, if_neg hqn, show N 1 - (i + 1) = N 1 - i - 1 by omega]) ls hl2
        · skip
          have hq1z := zc_4
          refine lv_aload_n hx hb dL_opened_21 rfl (lv_at hl 0 rfl) ?_
          refine lv_iload_n hx hb dL_opened_22 rfl (lv_at hl 3 rfl) ?_
          refine z_csi (va_Run.run (va_runS (As := [.ref (u 0), .int (nI (N 1 - i - 1))]) (rest := []) ⟨hx, hb, hml, hown, hts⟩ (c_L_entry l G u E F N T (N 1 - i - 1) (by first | assumption | exact hQ | omega | exact vp_in_nI (by omega) (by omega)) (by first | assumption | exact hQ | omega | exact vp_in_nI (by omega) (by omega))) (va_cwS 2 hts gL_opened_L_entry rfl rfl rfl (by decide +kernel) ⟨Nat.le_of_ble_eq_true rfl, Nat.le_of_ble_eq_true rfl⟩) (z_ps hK hP) rfl rfl hl.1 rfl (lv_room (Nat.le_of_ble_eq_true rfl)) dL_opened_23 ⟨(Nat.zero_le _), (Nat.zero_le _)⟩)) (fun zr_5 hzr_5 => ?_)
          subst hzr_5
          refine lv_bipush (v := 10) hx hb dL_opened_26 (by decide) ?_
          refine lv_irem hx hb dL_opened_28 (by decide) ?_
          refine W.eq (g2 := F0 m 29 ls [.int (zT2 (T 0 (N 1 - i - 1)))]) (by first | (rfl; done) | (rfl; rfl)) ?_
          refine lv_iload_n hx hb dL_opened_29 rfl (lv_at hl 2 rfl) ?_
          refine lv_icmp_ne (tgt := 52) hx hb dL_opened_30 (by decide) (fun zc_6 => ?_) (fun zc_6 => ?_)
          · skip
            have hqn : ¬ (zK2 (T 0 (N 1 - i - 1)) = 0 ∧ zT2 (T 0 (N 1 - i - 1)) = a1) := fun z9 => zc_6 z9.2
            refine lv_iinc (v := ((nI (N 1 - i - 1)) + (-1))) (lv' := [(3, .int ((nI (N 1 - i - 1)) + (-1))), (0, .ref (u 0)), (1, .ref (u 9)), (2, .int a1)]) hx hb dL_opened_52 hl (k := 3) rfl (by first | exact rfl | rfl) (by decide) rfl (fun ls hl => ?_)
            refine lv_goto (tgt := 6) hx hb dL_opened_55 (by decide) ?_
            have hl2 := lv_sub (l' := [(0, .ref (u 0)), (1, .ref (u 9)), (2, .int a1), (3, .int ((nI (N 1 - i - 1)) + (-1)))]) hl [1, 2, 3, 0] rfl
            have e_3 : (nI (N 1 - i - 1)) + (-1) = nI (N 1 - (i + 1)) - 1 := by rw [show N 1 - (i + 1) = N 1 - i - 1 by omega]; exact (Int32.sub_eq_add_neg _ _).symm
            rw [e_3] at hl2
            exact ih (i + 1) (by omega) (by omega) (by rw [hme, show N 1 - i = N 1 - i - 1 + 1 by omega, sOp2, if_neg hqn, show N 1 - (i + 1) = N 1 - i - 1 by omega]) ls hl2
          · skip
            have hq2z := zc_6
            refine lv_aload_n hx hb dL_opened_33 rfl (lv_at hl 0 rfl) ?_
            refine lv_iload_n hx hb dL_opened_34 rfl (lv_at hl 3 rfl) ?_
            refine z_csi (va_Run.run (va_runS (As := [.ref (u 0), .int (nI (N 1 - i - 1))]) (rest := []) ⟨hx, hb, hml, hown, hts⟩ (c_L_entry l G u E F N T (N 1 - i - 1) (by first | assumption | exact hQ | omega | exact vp_in_nI (by omega) (by omega)) (by first | assumption | exact hQ | omega | exact vp_in_nI (by omega) (by omega))) (va_cwS 2 hts gL_opened_L_entry rfl rfl rfl (by decide +kernel) ⟨Nat.le_of_ble_eq_true rfl, Nat.le_of_ble_eq_true rfl⟩) (z_ps hK hP) rfl rfl hl.1 rfl (lv_room (Nat.le_of_ble_eq_true rfl)) dL_opened_35 ⟨(Nat.zero_le _), (Nat.zero_le _)⟩)) (fun zr_7 hzr_7 => ?_)
            subst hzr_7
            refine lv_bipush (v := 100) hx hb dL_opened_38 (by decide) ?_
            refine lv_irem hx hb dL_opened_40 (by decide) ?_
            refine W.eq (g2 := F0 m 41 ls [.int (zWh (T 0 (N 1 - i - 1)))]) (by first | (rfl; done) | (rfl; rfl)) ?_
            refine lv_bipush (v := 9) hx hb dL_opened_41 (by decide) ?_
            refine lv_icmp_le (tgt := 50) hx hb dL_opened_43 (by decide) (fun zc_8 => ?_) (fun zc_8 => ?_)
            · skip
              have zd_8 := Int32.not_lt.mpr zc_8
              refine lv_iconst (v := 0) hx hb dL_opened_50 (by decide) ?_
              exact W.zret (v := 0) hx hb hr rfl (fun t ht hW => ⟨0, rfl, (by rw [← hQ.op hv, hme, show N 1 - i = N 1 - i - 1 + 1 by omega, sOp2, if_pos ⟨hq1z, hq2z⟩]; simp [zb, zc_8, zd_8]), ht⟩) (fun _ h => nomatch h) dL_opened_51
            · skip
              have zd_8 := Int32.not_le.mp zc_8
              refine lv_iconst (v := 1) hx hb dL_opened_46 (by decide) ?_
              refine lv_goto (tgt := 51) hx hb dL_opened_47 (by decide) ?_
              exact W.zret (v := 1) hx hb hr rfl (fun t ht hW => ⟨1, rfl, (by rw [← hQ.op hv, hme, show N 1 - i = N 1 - i - 1 + 1 by omega, sOp2, if_pos ⟨hq1z, hq2z⟩]; simp [zb, zc_8, zd_8]), ht⟩) (fun _ h => nomatch h) dL_opened_51
  exact key_6 (N 1 + 1) 0 (Nat.zero_le _) (by omega) rfl ls (lv_sub hl [1, 2, 3, 0] rfl)

set_option maxHeartbeats 4000000 in
set_option maxRecDepth 100000 in
theorem c_L_hasLeft (l : Launch) (G : zG) (u : Nat → Nat) (E : Nat → Int64) (F : Nat → Nat → Int32) (N : Nat → Nat) (T : Nat → Nat → Int32) (a1 : Int32) (hQ : sLQ N T E F) (hv : vp_in a1 9) : Met l yL_hasLeft wsL_hasLeft ({ frames := 1, cells := 0, slots := 0, locals := 21 }) (va_Pc [.ref (u 0), .ref (u 9), .int a1] (zPp G (LW G u E F))) (zQi (fun r : Int32 => r = T 2 a1.toNatClampNeg)) 0 0 (fun _ => False) := by
  refine Met.ofW (cc := cL_hasLeft) (maxL := 4) (ret := (some .boolean)) (by decide) rfl ?_
  intro p e s m args below meth c s₁ B hml hv
  obtain ⟨rfl, hP, hK⟩ := hv
  have hx := B.exec
  have hb := B.bytes
  have hr := B.returns
  have hts := atoms_spec (ws := wsL_hasLeft) B.pre
  have hown : s.vm.findClass RL = some m.cls := findClass_of_methodNamed B.named
  have hlocks := B.notSynchronized
  have hP : va_P G.1 vwCl [(u 0, .inl (G.2 1, 64, .inr (.inl E))), (u 1, .inl (G.2 0, 8, .inl (F 1))), (u 2, .inl (G.2 0, 3, .inl (F 2))), (u 3, .inl (G.2 0, 3, .inl (F 3))), (u 4, .inl (G.2 0, 40, .inl (F 4))), (u 5, .inl (G.2 0, 40, .inl (F 5))), (u 6, .inl (G.2 0, 9, .inl (F 6))), (u 7, .inl (G.2 0, 12, .inl (F 7))), (u 8, .inl (G.2 0, 12, .inl (F 8))), (u 9, .inl (G.2 0, 10, .inl (F 9)))] s.heap := hP
  have hl := lv_entry ([.ref (u 0), .ref (u 9), .int a1]) (n := 4) (Nat.le_of_ble_eq_true rfl)
  rw [lg_entry_eq]
  generalize (lg_sl ([.ref (u 0), .ref (u 9), .int a1]) ++ List.replicate (4 - (lg_sl ([.ref (u 0), .ref (u 9), .int a1])).length) Slot.unset).toArray = ls at hl ⊢
  have hl : lv_has ls 4 [(0, .ref (u 0)), (1, .ref (u 9)), (2, .int a1)] := hl
  obtain ⟨hRE, ⟨hn1, hn2, hn0, hn6⟩, ⟨hq0, hq1, hq2, hq5⟩, hR4, hR6, hG, hH, hTg, hB2⟩ := id hQ
  refine lv_iconst (v := 0) hx hb dL_hasLeft_0 (by decide) ?_
  refine lv_istore_n (lv' := [(3, .int 0), (0, .ref (u 0)), (1, .ref (u 9)), (2, .int a1)]) hx hb dL_hasLeft_1 rfl hl (by decide) rfl (fun ls hl => ?_)
  have key_2 : ∀ (n i : Nat), i ≤ N 1 → N 1 < i + n → (sLf (T 0) a1 i = false) → ∀ ls : Array Slot, lv_has ls 4 [(0, .ref (u 0)), (1, .ref (u 9)), (2, .int a1), (3, .int (nI i))] → W p l e (headSpec wsL_hasLeft ({ frames := 1, cells := 0, slots := 0, locals := 21 })).room s m ([.ref (u 0), .ref (u 9), .int a1] : List Value).toArray below meth c s.heap [] 0 0 (MQ below (zQi (fun r : Int32 => r = T 2 a1.toNatClampNeg)) ([.ref (u 0), .ref (u 9), .int a1] : List Value).toArray s 0 0 (fun _ => False)) (F0 m 2 ls []) := by
    intro n
    induction n with
    | zero => intro i h1 h2; exact absurd h2 (by omega)
    | succ n ih =>
      intro i hi hn hme ls hl
      refine lv_iload_n hx hb dL_hasLeft_2 rfl (lv_at hl 3 rfl) ?_
      refine lv_aload_n hx hb dL_hasLeft_3 rfl (lv_at hl 1 rfl) ?_
      refine lv_iconst (v := 1) hx hb dL_hasLeft_4 (by decide) ?_
      refine va_iald hx hb hK hP 9 0 rfl rfl (vp_in_nI (n := 1) (by decide) (by decide)) dL_hasLeft_5 ?_
      refine W.eq (g2 := F0 m 6 ls [.int (nI (N 1)), .int (nI i)]) (by rw [show (F 9) (1 : Int32).toNatClampNeg = nI (N 1) from hq1]) ?_
      refine lv_icmp_ge (tgt := 41) hx hb dL_hasLeft_6 (by decide) (fun zc_1 => ?_) (fun zc_1 => ?_)
      · skip
        have zd_1 := Int32.not_lt.mpr zc_1
        have zhc := (nI_leI (by omega) (by omega)).mp zc_1
        have zie := Nat.le_antisymm hi zhc
        subst zie
        refine lv_iconst (v := 0) hx hb dL_hasLeft_41 (by decide) ?_
        exact W.zret (v := 0) hx hb hr rfl (fun t ht hW => ⟨0, rfl, (by rw [← hQ.lf hv, hme]; rfl), ht⟩) (fun _ h => nomatch h) dL_hasLeft_42
      · skip
        have zd_1 := Int32.not_le.mp zc_1
        have zhc := Nat.lt_of_not_le (fun z => zc_1 ((nI_leI (by omega) (by omega)).mpr z))
        refine lv_aload_n hx hb dL_hasLeft_9 rfl (lv_at hl 0 rfl) ?_
        refine lv_iload_n hx hb dL_hasLeft_10 rfl (lv_at hl 3 rfl) ?_
        refine z_csi (va_Run.run (va_runS (As := [.ref (u 0), .int (nI i)]) (rest := []) ⟨hx, hb, hml, hown, hts⟩ (c_L_entry l G u E F N T i (by first | assumption | exact hQ | omega | exact vp_in_nI (by omega) (by omega)) (by first | assumption | exact hQ | omega | exact vp_in_nI (by omega) (by omega))) (va_cwS 2 hts gL_hasLeft_L_entry rfl rfl rfl (by decide +kernel) ⟨Nat.le_of_ble_eq_true rfl, Nat.le_of_ble_eq_true rfl⟩) (z_ps hK hP) rfl rfl hl.1 rfl (lv_room (Nat.le_of_ble_eq_true rfl)) dL_hasLeft_11 ⟨(Nat.zero_le _), (Nat.zero_le _)⟩)) (fun zr_2 hzr_2 => ?_)
        subst hzr_2
        refine z_csi (va_Run.run (va_runS (As := [.int (T 0 i)]) (rest := []) ⟨hx, hb, hml, hown, hts⟩ (c_L_kind l G (T 0 i)) (va_cwS 1 hts gL_hasLeft_L_kind rfl rfl rfl (by decide +kernel) ⟨Nat.le_of_ble_eq_true rfl, Nat.le_of_ble_eq_true rfl⟩) (z_ps hK z_none) rfl rfl hl.1 rfl (lv_room (Nat.le_of_ble_eq_true rfl)) dL_hasLeft_14 ⟨(Nat.zero_le _), (Nat.zero_le _)⟩)) (fun zr_3 hzr_3 => ?_)
        subst hzr_3
        refine lv_iconst (v := 4) hx hb dL_hasLeft_17 (by decide) ?_
        refine lv_icmp_ne (tgt := 35) hx hb dL_hasLeft_18 (by decide) (fun zc_4 => ?_) (fun zc_4 => ?_)
        · skip
          refine lv_iinc (v := (nI (i + 1))) (lv' := [(3, .int (nI (i + 1))), (0, .ref (u 0)), (1, .ref (u 9)), (2, .int a1)]) hx hb dL_hasLeft_35 hl (k := 3) rfl (by first | exact nI_1 _ | rfl) (by decide) rfl (fun ls hl => ?_)
          refine lv_goto (tgt := 2) hx hb dL_hasLeft_38 (by decide) ?_
          have hl2 := lv_sub (l' := [(0, .ref (u 0)), (1, .ref (u 9)), (2, .int a1), (3, .int (nI (i + 1)))]) hl [1, 2, 3, 0] rfl
          exact ih (i + 1) (by omega) (by omega) (by have hz8 := hme; rw [sLf] at hz8 ⊢; rw [sAny, hz8]; simp [zc_4]) ls hl2
        · skip
          refine lv_aload_n hx hb dL_hasLeft_21 rfl (lv_at hl 0 rfl) ?_
          refine lv_iload_n hx hb dL_hasLeft_22 rfl (lv_at hl 3 rfl) ?_
          refine z_csi (va_Run.run (va_runS (As := [.ref (u 0), .int (nI i)]) (rest := []) ⟨hx, hb, hml, hown, hts⟩ (c_L_entry l G u E F N T i (by first | assumption | exact hQ | omega | exact vp_in_nI (by omega) (by omega)) (by first | assumption | exact hQ | omega | exact vp_in_nI (by omega) (by omega))) (va_cwS 2 hts gL_hasLeft_L_entry rfl rfl rfl (by decide +kernel) ⟨Nat.le_of_ble_eq_true rfl, Nat.le_of_ble_eq_true rfl⟩) (z_ps hK hP) rfl rfl hl.1 rfl (lv_room (Nat.le_of_ble_eq_true rfl)) dL_hasLeft_23 ⟨(Nat.zero_le _), (Nat.zero_le _)⟩)) (fun zr_5 hzr_5 => ?_)
          subst hzr_5
          refine z_csi (va_Run.run (va_runS (As := [.int (T 0 i)]) (rest := []) ⟨hx, hb, hml, hown, hts⟩ (c_L_who l G (T 0 i)) (va_cwS 1 hts gL_hasLeft_L_who rfl rfl rfl (by decide +kernel) ⟨Nat.le_of_ble_eq_true rfl, Nat.le_of_ble_eq_true rfl⟩) (z_ps hK z_none) rfl rfl hl.1 rfl (lv_room (Nat.le_of_ble_eq_true rfl)) dL_hasLeft_26 ⟨(Nat.zero_le _), (Nat.zero_le _)⟩)) (fun zr_6 hzr_6 => ?_)
          subst hzr_6
          refine lv_iload_n hx hb dL_hasLeft_29 rfl (lv_at hl 2 rfl) ?_
          refine lv_icmp_ne (tgt := 35) hx hb dL_hasLeft_30 (by decide) (fun zc_7 => ?_) (fun zc_7 => ?_)
          · skip
            refine lv_iinc (v := (nI (i + 1))) (lv' := [(3, .int (nI (i + 1))), (0, .ref (u 0)), (1, .ref (u 9)), (2, .int a1)]) hx hb dL_hasLeft_35 hl (k := 3) rfl (by first | exact nI_1 _ | rfl) (by decide) rfl (fun ls hl => ?_)
            refine lv_goto (tgt := 2) hx hb dL_hasLeft_38 (by decide) ?_
            have hl2 := lv_sub (l' := [(0, .ref (u 0)), (1, .ref (u 9)), (2, .int a1), (3, .int (nI (i + 1)))]) hl [1, 2, 3, 0] rfl
            exact ih (i + 1) (by omega) (by omega) (by have hz8 := hme; rw [sLf] at hz8 ⊢; rw [sAny, hz8]; simp [zc_7]) ls hl2
          · skip
            refine lv_iconst (v := 1) hx hb dL_hasLeft_33 (by decide) ?_
            exact W.zret (v := 1) hx hb hr rfl (fun t ht hW => ⟨1, rfl, (by rw [← hQ.lf hv, show sLf (T 0) a1 (N 1) = true from sAny_iff.mpr ⟨i, by omega, by simp [zc_4, zc_7]⟩]; rfl), ht⟩) (fun _ h => nomatch h) dL_hasLeft_34
  exact key_2 (N 1 + 1) 0 (Nat.zero_le _) (by omega) rfl ls (lv_sub hl [1, 2, 3, 0] rfl)

set_option maxHeartbeats 4000000 in
set_option maxRecDepth 100000 in
theorem c_L_hanger (l : Launch) (G : zG) (u : Nat → Nat) (E : Nat → Int64) (F : Nat → Nat → Int32) (N : Nat → Nat) (T : Nat → Nat → Int32) (a1 : Int32) (hQ : sLQ N T E F) (hv : vp_in a1 (N 2)) : Met l yL_hanger wsL_hanger ({ frames := 1, cells := 0, slots := 0, locals := 21 }) (va_Pc [.ref (u 0), .ref (u 9), .int a1] (zPp G (LW G u E F))) (zQi (fun r : Int32 => r = sHo T a1)) 0 0 (fun _ => False) := by
  refine Met.ofW (cc := cL_hanger) (maxL := 6) (ret := (some .int)) (by decide) rfl ?_
  intro p e s m args below meth c s₁ B hml hv
  obtain ⟨rfl, hP, hK⟩ := hv
  have hx := B.exec
  have hb := B.bytes
  have hr := B.returns
  have hts := atoms_spec (ws := wsL_hanger) B.pre
  have hown : s.vm.findClass RL = some m.cls := findClass_of_methodNamed B.named
  have hlocks := B.notSynchronized
  have hP : va_P G.1 vwCl [(u 0, .inl (G.2 1, 64, .inr (.inl E))), (u 1, .inl (G.2 0, 8, .inl (F 1))), (u 2, .inl (G.2 0, 3, .inl (F 2))), (u 3, .inl (G.2 0, 3, .inl (F 3))), (u 4, .inl (G.2 0, 40, .inl (F 4))), (u 5, .inl (G.2 0, 40, .inl (F 5))), (u 6, .inl (G.2 0, 9, .inl (F 6))), (u 7, .inl (G.2 0, 12, .inl (F 7))), (u 8, .inl (G.2 0, 12, .inl (F 8))), (u 9, .inl (G.2 0, 10, .inl (F 9)))] s.heap := hP
  have hl := lv_entry ([.ref (u 0), .ref (u 9), .int a1]) (n := 6) (Nat.le_of_ble_eq_true rfl)
  rw [lg_entry_eq]
  generalize (lg_sl ([.ref (u 0), .ref (u 9), .int a1]) ++ List.replicate (6 - (lg_sl ([.ref (u 0), .ref (u 9), .int a1])).length) Slot.unset).toArray = ls at hl ⊢
  have hl : lv_has ls 6 [(0, .ref (u 0)), (1, .ref (u 9)), (2, .int a1)] := hl
  obtain ⟨hRE, ⟨hn1, hn2, hn0, hn6⟩, ⟨hq0, hq1, hq2, hq5⟩, hR4, hR6, hG, hH, hTg, hB2⟩ := id hQ
  refine lv_iconst (v := (-1)) hx hb dL_hanger_0 (by decide) ?_
  refine lv_istore_n (lv' := [(3, .int (-1)), (0, .ref (u 0)), (1, .ref (u 9)), (2, .int a1)]) hx hb dL_hanger_1 rfl hl (by decide) rfl (fun ls hl => ?_)
  refine lv_iconst (v := 0) hx hb dL_hanger_2 (by decide) ?_
  refine lv_istore (lv' := [(4, .int 0), (3, .int (-1)), (0, .ref (u 0)), (1, .ref (u 9)), (2, .int a1)]) hx hb dL_hanger_3 hl (by decide) rfl (fun ls hl => ?_)
  have key_5 : ∀ (n i : Nat), i ≤ N 1 → N 1 < i + n → ∀ ls : Array Slot, lv_has ls 6 [(0, .ref (u 0)), (1, .ref (u 9)), (2, .int a1), (3, .int (sHr (T 0) a1 i)), (4, .int (nI i))] → W p l e (headSpec wsL_hanger ({ frames := 1, cells := 0, slots := 0, locals := 21 })).room s m ([.ref (u 0), .ref (u 9), .int a1] : List Value).toArray below meth c s.heap [] 0 0 (MQ below (zQi (fun r : Int32 => r = sHo T a1)) ([.ref (u 0), .ref (u 9), .int a1] : List Value).toArray s 0 0 (fun _ => False)) (F0 m 5 ls []) := by
    intro n
    induction n with
    | zero => intro i h1 h2; exact absurd h2 (by omega)
    | succ n ih =>
      intro i hi hn ls hl
      refine lv_iload hx hb dL_hanger_5 (lv_at hl 4 rfl) ?_
      refine lv_aload_n hx hb dL_hanger_7 rfl (lv_at hl 1 rfl) ?_
      refine lv_iconst (v := 1) hx hb dL_hanger_8 (by decide) ?_
      refine va_iald hx hb hK hP 9 0 rfl rfl (vp_in_nI (n := 1) (by decide) (by decide)) dL_hanger_9 ?_
      refine W.eq (g2 := F0 m 10 ls [.int (nI (N 1)), .int (nI i)]) (by rw [show (F 9) (1 : Int32).toNatClampNeg = nI (N 1) from hq1]) ?_
      refine lv_icmp_ge (tgt := 76) hx hb dL_hanger_10 (by decide) (fun zc_1 => ?_) (fun zc_1 => ?_)
      · skip
        have zd_1 := Int32.not_lt.mpr zc_1
        have zhc := (nI_leI (by omega) (by omega)).mp zc_1
        have zie := Nat.le_antisymm hi zhc
        subst zie
        refine lv_iload_n hx hb dL_hanger_76 rfl (lv_at hl 3 rfl) ?_
        exact W.iret (v := sHr (T 0) a1 (N 1)) hx hb hr (fun t ht hW => ⟨sHr (T 0) a1 (N 1), rfl, (by rw [← hQ.hr hv]), ht⟩) (fun _ h => nomatch h) dL_hanger_77
      · skip
        have zd_1 := Int32.not_le.mp zc_1
        have zhc := Nat.lt_of_not_le (fun z => zc_1 ((nI_leI (by omega) (by omega)).mpr z))
        refine lv_aload_n hx hb dL_hanger_13 rfl (lv_at hl 0 rfl) ?_
        refine lv_iload hx hb dL_hanger_14 (lv_at hl 4 rfl) ?_
        refine z_csi (va_Run.run (va_runS (As := [.ref (u 0), .int (nI i)]) (rest := []) ⟨hx, hb, hml, hown, hts⟩ (c_L_entry l G u E F N T i (by first | assumption | exact hQ | omega | exact vp_in_nI (by omega) (by omega)) (by first | assumption | exact hQ | omega | exact vp_in_nI (by omega) (by omega))) (va_cwS 2 hts gL_hanger_L_entry rfl rfl rfl (by decide +kernel) ⟨Nat.le_of_ble_eq_true rfl, Nat.le_of_ble_eq_true rfl⟩) (z_ps hK hP) rfl rfl hl.1 rfl (lv_room (Nat.le_of_ble_eq_true rfl)) dL_hanger_16 ⟨(Nat.zero_le _), (Nat.zero_le _)⟩)) (fun zr_2 hzr_2 => ?_)
        subst hzr_2
        refine lv_istore (lv' := [(5, .int (T 0 i)), (0, .ref (u 0)), (1, .ref (u 9)), (2, .int a1), (3, .int (sHr (T 0) a1 i)), (4, .int (nI i))]) hx hb dL_hanger_19 hl (by decide) rfl (fun ls hl => ?_)
        refine lv_iload hx hb dL_hanger_21 (lv_at hl 0 rfl) ?_
        refine lv_bipush (v := 100) hx hb dL_hanger_23 (by decide) ?_
        refine lv_irem hx hb dL_hanger_25 (by decide) ?_
        refine W.eq (g2 := F0 m 26 ls [.int (zWh (T 0 i))]) (by first | (rfl; done) | (rfl; rfl)) ?_
        refine lv_iload_n hx hb dL_hanger_26 rfl (lv_at hl 3 rfl) ?_
        refine lv_icmp_ne (tgt := 70) hx hb dL_hanger_27 (by decide) (fun zc_3 => ?_) (fun zc_3 => ?_)
        · skip
          refine lv_iinc (v := (nI (i + 1))) (lv' := [(4, .int (nI (i + 1))), (5, .int (T 0 i)), (0, .ref (u 0)), (1, .ref (u 9)), (2, .int a1), (3, .int (sHr (T 0) a1 i))]) hx hb dL_hanger_70 hl (k := 5) rfl (by first | exact nI_1 _ | rfl) (by decide) rfl (fun ls hl => ?_)
          refine lv_goto (tgt := 5) hx hb dL_hanger_73 (by decide) ?_
          have hl2 := lv_sub (l' := [(0, .ref (u 0)), (1, .ref (u 9)), (2, .int a1), (3, .int (sHr (T 0) a1 i)), (4, .int (nI (i + 1)))]) hl [2, 3, 4, 5, 0] rfl
          have e_3 : sHr (T 0) a1 i = sHr (T 0) a1 (i + 1) := by first | (rw [sHr]; simp [zc_3]; done) | exact absurd (show zK2 (T 0 i) = 1 by assumption) (by assumption)
          rw [e_3] at hl2
          exact ih (i + 1) (by omega) (by omega) ls hl2
        · skip
          refine lv_iload hx hb dL_hanger_30 (lv_at hl 0 rfl) ?_
          refine z_csi (va_Run.run (va_runS (As := [.int (T 0 i)]) (rest := []) ⟨hx, hb, hml, hown, hts⟩ (c_L_kind l G (T 0 i)) (va_cwS 1 hts gL_hanger_L_kind rfl rfl rfl (by decide +kernel) ⟨Nat.le_of_ble_eq_true rfl, Nat.le_of_ble_eq_true rfl⟩) (z_ps hK z_none) rfl rfl hl.1 rfl (lv_room (Nat.le_of_ble_eq_true rfl)) dL_hanger_32 ⟨(Nat.zero_le _), (Nat.zero_le _)⟩)) (fun zr_4 hzr_4 => ?_)
          subst hzr_4
          refine lv_iconst (v := 1) hx hb dL_hanger_35 (by decide) ?_
          refine lv_icmp_eq (tgt := 51) hx hb dL_hanger_36 (by decide) (fun zc_5 => ?_) (fun zc_5 => ?_)
          · skip
            refine lv_iload hx hb dL_hanger_51 (lv_at hl 0 rfl) ?_
            refine z_csi (va_Run.run (va_runS (As := [.int (T 0 i)]) (rest := []) ⟨hx, hb, hml, hown, hts⟩ (c_L_kind l G (T 0 i)) (va_cwS 1 hts gL_hanger_L_kind rfl rfl rfl (by decide +kernel) ⟨Nat.le_of_ble_eq_true rfl, Nat.le_of_ble_eq_true rfl⟩) (z_ps hK z_none) rfl rfl hl.1 rfl (lv_room (Nat.le_of_ble_eq_true rfl)) dL_hanger_53 ⟨(Nat.zero_le _), (Nat.zero_le _)⟩)) (fun zr_6 hzr_6 => ?_)
            subst hzr_6
            refine lv_iconst (v := 1) hx hb dL_hanger_56 (by decide) ?_
            refine lv_icmp_ne (tgt := 68) hx hb dL_hanger_57 (by decide) (fun zc_7 => ?_) (fun zc_7 => ?_)
            · skip
              refine lv_iconst (v := (-1)) hx hb dL_hanger_68 (by decide) ?_
              refine lv_istore_n (lv' := [(3, .int (-1)), (5, .int (T 0 i)), (0, .ref (u 0)), (1, .ref (u 9)), (2, .int a1), (4, .int (nI i))]) hx hb dL_hanger_69 rfl hl (by decide) rfl (fun ls hl => ?_)
              refine lv_iinc (v := (nI (i + 1))) (lv' := [(4, .int (nI (i + 1))), (3, .int (-1)), (5, .int (T 0 i)), (0, .ref (u 0)), (1, .ref (u 9)), (2, .int a1)]) hx hb dL_hanger_70 hl (k := 5) rfl (by first | exact nI_1 _ | rfl) (by decide) rfl (fun ls hl => ?_)
              refine lv_goto (tgt := 5) hx hb dL_hanger_73 (by decide) ?_
              have hl2 := lv_sub (l' := [(0, .ref (u 0)), (1, .ref (u 9)), (2, .int a1), (3, .int (-1)), (4, .int (nI (i + 1)))]) hl [3, 4, 5, 1, 0] rfl
              have e_3 : (-1) = sHr (T 0) a1 (i + 1) := by first | (rw [sHr]; simp [zc_3, zc_5, zc_7]; done) | exact absurd (show zK2 (T 0 i) = 1 by assumption) (by assumption)
              rw [e_3] at hl2
              exact ih (i + 1) (by omega) (by omega) ls hl2
            · skip
              refine lv_iload hx hb dL_hanger_60 (lv_at hl 0 rfl) ?_
              refine z_csi (va_Run.run (va_runS (As := [.int (T 0 i)]) (rest := []) ⟨hx, hb, hml, hown, hts⟩ (c_L_who l G (T 0 i)) (va_cwS 1 hts gL_hanger_L_who rfl rfl rfl (by decide +kernel) ⟨Nat.le_of_ble_eq_true rfl, Nat.le_of_ble_eq_true rfl⟩) (z_ps hK z_none) rfl rfl hl.1 rfl (lv_room (Nat.le_of_ble_eq_true rfl)) dL_hanger_62 ⟨(Nat.zero_le _), (Nat.zero_le _)⟩)) (fun zr_8 hzr_8 => ?_)
              subst hzr_8
              refine lv_goto (tgt := 69) hx hb dL_hanger_65 (by decide) ?_
              refine lv_istore_n (lv' := [(3, .int (zWo (T 0 i))), (5, .int (T 0 i)), (0, .ref (u 0)), (1, .ref (u 9)), (2, .int a1), (4, .int (nI i))]) hx hb dL_hanger_69 rfl hl (by decide) rfl (fun ls hl => ?_)
              refine lv_iinc (v := (nI (i + 1))) (lv' := [(4, .int (nI (i + 1))), (3, .int (zWo (T 0 i))), (5, .int (T 0 i)), (0, .ref (u 0)), (1, .ref (u 9)), (2, .int a1)]) hx hb dL_hanger_70 hl (k := 5) rfl (by first | exact nI_1 _ | rfl) (by decide) rfl (fun ls hl => ?_)
              refine lv_goto (tgt := 5) hx hb dL_hanger_73 (by decide) ?_
              have hl2 := lv_sub (l' := [(0, .ref (u 0)), (1, .ref (u 9)), (2, .int a1), (3, .int (zWo (T 0 i))), (4, .int (nI (i + 1)))]) hl [3, 4, 5, 1, 0] rfl
              have e_3 : zWo (T 0 i) = sHr (T 0) a1 (i + 1) := by first | (rw [sHr]; simp [zc_3, zc_5, zc_7]; done) | exact absurd (show zK2 (T 0 i) = 1 by assumption) (by assumption)
              rw [e_3] at hl2
              exact ih (i + 1) (by omega) (by omega) ls hl2
          · skip
            refine lv_iload hx hb dL_hanger_39 (lv_at hl 0 rfl) ?_
            refine z_csi (va_Run.run (va_runS (As := [.int (T 0 i)]) (rest := []) ⟨hx, hb, hml, hown, hts⟩ (c_L_kind l G (T 0 i)) (va_cwS 1 hts gL_hanger_L_kind rfl rfl rfl (by decide +kernel) ⟨Nat.le_of_ble_eq_true rfl, Nat.le_of_ble_eq_true rfl⟩) (z_ps hK z_none) rfl rfl hl.1 rfl (lv_room (Nat.le_of_ble_eq_true rfl)) dL_hanger_41 ⟨(Nat.zero_le _), (Nat.zero_le _)⟩)) (fun zr_9 hzr_9 => ?_)
            subst hzr_9
            refine lv_iconst (v := 2) hx hb dL_hanger_44 (by decide) ?_
            refine lv_icmp_eq (tgt := 51) hx hb dL_hanger_45 (by decide) (fun zc_10 => ?_) (fun zc_10 => ?_)
            · skip
              refine lv_iload hx hb dL_hanger_51 (lv_at hl 0 rfl) ?_
              refine z_csi (va_Run.run (va_runS (As := [.int (T 0 i)]) (rest := []) ⟨hx, hb, hml, hown, hts⟩ (c_L_kind l G (T 0 i)) (va_cwS 1 hts gL_hanger_L_kind rfl rfl rfl (by decide +kernel) ⟨Nat.le_of_ble_eq_true rfl, Nat.le_of_ble_eq_true rfl⟩) (z_ps hK z_none) rfl rfl hl.1 rfl (lv_room (Nat.le_of_ble_eq_true rfl)) dL_hanger_53 ⟨(Nat.zero_le _), (Nat.zero_le _)⟩)) (fun zr_11 hzr_11 => ?_)
              subst hzr_11
              refine lv_iconst (v := 1) hx hb dL_hanger_56 (by decide) ?_
              refine lv_icmp_ne (tgt := 68) hx hb dL_hanger_57 (by decide) (fun zc_12 => ?_) (fun zc_12 => ?_)
              · skip
                refine lv_iconst (v := (-1)) hx hb dL_hanger_68 (by decide) ?_
                refine lv_istore_n (lv' := [(3, .int (-1)), (5, .int (T 0 i)), (0, .ref (u 0)), (1, .ref (u 9)), (2, .int a1), (4, .int (nI i))]) hx hb dL_hanger_69 rfl hl (by decide) rfl (fun ls hl => ?_)
                refine lv_iinc (v := (nI (i + 1))) (lv' := [(4, .int (nI (i + 1))), (3, .int (-1)), (5, .int (T 0 i)), (0, .ref (u 0)), (1, .ref (u 9)), (2, .int a1)]) hx hb dL_hanger_70 hl (k := 5) rfl (by first | exact nI_1 _ | rfl) (by decide) rfl (fun ls hl => ?_)
                refine lv_goto (tgt := 5) hx hb dL_hanger_73 (by decide) ?_
                have hl2 := lv_sub (l' := [(0, .ref (u 0)), (1, .ref (u 9)), (2, .int a1), (3, .int (-1)), (4, .int (nI (i + 1)))]) hl [3, 4, 5, 1, 0] rfl
                have e_3 : (-1) = sHr (T 0) a1 (i + 1) := by first | (rw [sHr]; simp [zc_3, zc_5, zc_10, zc_12]; done) | exact absurd (show zK2 (T 0 i) = 1 by assumption) (by assumption)
                rw [e_3] at hl2
                exact ih (i + 1) (by omega) (by omega) ls hl2
              · skip
                refine lv_iload hx hb dL_hanger_60 (lv_at hl 0 rfl) ?_
                refine z_csi (va_Run.run (va_runS (As := [.int (T 0 i)]) (rest := []) ⟨hx, hb, hml, hown, hts⟩ (c_L_who l G (T 0 i)) (va_cwS 1 hts gL_hanger_L_who rfl rfl rfl (by decide +kernel) ⟨Nat.le_of_ble_eq_true rfl, Nat.le_of_ble_eq_true rfl⟩) (z_ps hK z_none) rfl rfl hl.1 rfl (lv_room (Nat.le_of_ble_eq_true rfl)) dL_hanger_62 ⟨(Nat.zero_le _), (Nat.zero_le _)⟩)) (fun zr_13 hzr_13 => ?_)
                subst hzr_13
                refine lv_goto (tgt := 69) hx hb dL_hanger_65 (by decide) ?_
                refine lv_istore_n (lv' := [(3, .int (zWo (T 0 i))), (5, .int (T 0 i)), (0, .ref (u 0)), (1, .ref (u 9)), (2, .int a1), (4, .int (nI i))]) hx hb dL_hanger_69 rfl hl (by decide) rfl (fun ls hl => ?_)
                refine lv_iinc (v := (nI (i + 1))) (lv' := [(4, .int (nI (i + 1))), (3, .int (zWo (T 0 i))), (5, .int (T 0 i)), (0, .ref (u 0)), (1, .ref (u 9)), (2, .int a1)]) hx hb dL_hanger_70 hl (k := 5) rfl (by first | exact nI_1 _ | rfl) (by decide) rfl (fun ls hl => ?_)
                refine lv_goto (tgt := 5) hx hb dL_hanger_73 (by decide) ?_
                have hl2 := lv_sub (l' := [(0, .ref (u 0)), (1, .ref (u 9)), (2, .int a1), (3, .int (zWo (T 0 i))), (4, .int (nI (i + 1)))]) hl [3, 4, 5, 1, 0] rfl
                have e_3 : zWo (T 0 i) = sHr (T 0) a1 (i + 1) := by first | (rw [sHr]; simp [zc_3, zc_5, zc_10, zc_12]; done) | exact absurd (show zK2 (T 0 i) = 1 by assumption) (by assumption)
                rw [e_3] at hl2
                exact ih (i + 1) (by omega) (by omega) ls hl2
            · skip
              refine lv_goto (tgt := 70) hx hb dL_hanger_48 (by decide) ?_
              refine lv_iinc (v := (nI (i + 1))) (lv' := [(4, .int (nI (i + 1))), (5, .int (T 0 i)), (0, .ref (u 0)), (1, .ref (u 9)), (2, .int a1), (3, .int (sHr (T 0) a1 i))]) hx hb dL_hanger_70 hl (k := 5) rfl (by first | exact nI_1 _ | rfl) (by decide) rfl (fun ls hl => ?_)
              refine lv_goto (tgt := 5) hx hb dL_hanger_73 (by decide) ?_
              have hl2 := lv_sub (l' := [(0, .ref (u 0)), (1, .ref (u 9)), (2, .int a1), (3, .int (sHr (T 0) a1 i)), (4, .int (nI (i + 1)))]) hl [2, 3, 4, 5, 0] rfl
              have e_3 : sHr (T 0) a1 i = sHr (T 0) a1 (i + 1) := by first | (rw [sHr]; simp [zc_3, zc_5, zc_10]; done) | exact absurd (show zK2 (T 0 i) = 1 by assumption) (by assumption)
              rw [e_3] at hl2
              exact ih (i + 1) (by omega) (by omega) ls hl2
  exact key_5 (N 1 + 1) 0 (Nat.zero_le _) (by omega) ls (lv_sub hl [2, 3, 4, 1, 0] rfl)

set_option maxHeartbeats 4000000 in
set_option maxRecDepth 100000 in
theorem c_L_task (l : Launch) (G : zG) (u : Nat → Nat) (E : Nat → Int64) (F : Nat → Nat → Int32) (N : Nat → Nat) (T : Nat → Nat → Int32) (a1 : Int32) (hQ : sLQ N T E F) (hv : vp_in a1 100) : Met l yL_task wsL_task ({ frames := 1, cells := 0, slots := 0, locals := 21 }) (va_Pc [.ref (u 0), .ref (u 9), .int a1] (zPp G (LW G u E F))) (zQi (fun r : Int32 => r = T 18 a1.toNatClampNeg)) 0 0 (fun _ => False) := by
  refine Met.ofW (cc := cL_task) (maxL := 4) (ret := (some .int)) (by decide) rfl ?_
  intro p e s m args below meth c s₁ B hml hv
  obtain ⟨rfl, hP, hK⟩ := hv
  have hx := B.exec
  have hb := B.bytes
  have hr := B.returns
  have hts := atoms_spec (ws := wsL_task) B.pre
  have hown : s.vm.findClass RL = some m.cls := findClass_of_methodNamed B.named
  have hlocks := B.notSynchronized
  have hP : va_P G.1 vwCl [(u 0, .inl (G.2 1, 64, .inr (.inl E))), (u 1, .inl (G.2 0, 8, .inl (F 1))), (u 2, .inl (G.2 0, 3, .inl (F 2))), (u 3, .inl (G.2 0, 3, .inl (F 3))), (u 4, .inl (G.2 0, 40, .inl (F 4))), (u 5, .inl (G.2 0, 40, .inl (F 5))), (u 6, .inl (G.2 0, 9, .inl (F 6))), (u 7, .inl (G.2 0, 12, .inl (F 7))), (u 8, .inl (G.2 0, 12, .inl (F 8))), (u 9, .inl (G.2 0, 10, .inl (F 9)))] s.heap := hP
  have hl := lv_entry ([.ref (u 0), .ref (u 9), .int a1]) (n := 4) (Nat.le_of_ble_eq_true rfl)
  rw [lg_entry_eq]
  generalize (lg_sl ([.ref (u 0), .ref (u 9), .int a1]) ++ List.replicate (4 - (lg_sl ([.ref (u 0), .ref (u 9), .int a1])).length) Slot.unset).toArray = ls at hl ⊢
  have hl : lv_has ls 4 [(0, .ref (u 0)), (1, .ref (u 9)), (2, .int a1)] := hl
  obtain ⟨hRE, ⟨hn1, hn2, hn0, hn6⟩, ⟨hq0, hq1, hq2, hq5⟩, hR4, hR6, hG, hH, hTg, hB2⟩ := id hQ
  refine lv_aload_n hx hb dL_task_0 rfl (lv_at hl 1 rfl) ?_
  refine lv_iconst (v := 1) hx hb dL_task_1 (by decide) ?_
  refine va_iald hx hb hK hP 9 0 rfl rfl (vp_in_nI (n := 1) (by decide) (by decide)) dL_task_2 ?_
  refine W.eq (g2 := F0 m 3 ls [.int (nI (N 1))]) (by rw [show (F 9) (1 : Int32).toNatClampNeg = nI (N 1) from hq1]) ?_
  refine lv_iconst (v := 1) hx hb dL_task_3 (by decide) ?_
  refine lv_isub hx hb dL_task_4 ?_
  refine W.eq (g2 := F0 m 5 ls [.int (nI (N 1 - 0) - 1)]) (by first | (rfl; done) | (rfl; rfl)) ?_
  refine lv_istore_n (lv' := [(3, .int (nI (N 1 - 0) - 1)), (0, .ref (u 0)), (1, .ref (u 9)), (2, .int a1)]) hx hb dL_task_5 rfl hl (by decide) rfl (fun ls hl => ?_)
  have key_6 : ∀ (n i : Nat), i ≤ N 1 → N 1 < i + n → (sTk (T 0) a1 (N 1) = sTk (T 0) a1 (N 1 - i)) → ∀ ls : Array Slot, lv_has ls 4 [(0, .ref (u 0)), (1, .ref (u 9)), (2, .int a1), (3, .int (nI (N 1 - i) - 1))] → W p l e (headSpec wsL_task ({ frames := 1, cells := 0, slots := 0, locals := 21 })).room s m ([.ref (u 0), .ref (u 9), .int a1] : List Value).toArray below meth c s.heap [] 0 0 (MQ below (zQi (fun r : Int32 => r = T 18 a1.toNatClampNeg)) ([.ref (u 0), .ref (u 9), .int a1] : List Value).toArray s 0 0 (fun _ => False)) (F0 m 6 ls []) := by
    intro n
    induction n with
    | zero => intro i h1 h2; exact absurd h2 (by omega)
    | succ n ih =>
      intro i hi hn hme ls hl
      refine lv_iload_n hx hb dL_task_6 rfl (lv_at hl 3 rfl) ?_
      refine lv_if_lt (tgt := 65) hx hb dL_task_7 (by decide) (fun zc_1 => ?_) (fun zc_1 => ?_)
      · skip
        have zd_1 := Int32.not_le.mpr zc_1
        have zm := zNeg1 (by omega) zc_1
        refine lv_iconst (v := (-1)) hx hb dL_task_65 (by decide) ?_
        exact W.iret (v := (-1)) hx hb hr (fun t ht hW => ⟨(-1), rfl, (by rw [← hQ.tk hv, hme, zm]; rfl), ht⟩) (fun _ h => nomatch h) dL_task_66
      · skip
        have zd_1 := Int32.not_lt.mp zc_1
        have zm := zPos1 (by omega) zc_1
        have hnx : nI (N 1 - i) - 1 = nI (N 1 - i - 1) := by have hz9 := nI_pred (N 1 - i - 1); rw [show N 1 - i - 1 + 1 = N 1 - i by omega] at hz9; exact hz9
        rw [hnx] at hl
        refine lv_aload_n hx hb dL_task_10 rfl (lv_at hl 0 rfl) ?_
        refine lv_iload_n hx hb dL_task_11 rfl (lv_at hl 3 rfl) ?_
        refine z_csi (va_Run.run (va_runS (As := [.ref (u 0), .int (nI (N 1 - i - 1))]) (rest := []) ⟨hx, hb, hml, hown, hts⟩ (c_L_entry l G u E F N T (N 1 - i - 1) (by first | assumption | exact hQ | omega | exact vp_in_nI (by omega) (by omega)) (by first | assumption | exact hQ | omega | exact vp_in_nI (by omega) (by omega))) (va_cwS 2 hts gL_task_L_entry rfl rfl rfl (by decide +kernel) ⟨Nat.le_of_ble_eq_true rfl, Nat.le_of_ble_eq_true rfl⟩) (z_ps hK hP) rfl rfl hl.1 rfl (lv_room (Nat.le_of_ble_eq_true rfl)) dL_task_12 ⟨(Nat.zero_le _), (Nat.zero_le _)⟩)) (fun zr_2 hzr_2 => ?_)
        subst hzr_2
        refine z_csi (va_Run.run (va_runS (As := [.int (T 0 (N 1 - i - 1))]) (rest := []) ⟨hx, hb, hml, hown, hts⟩ (c_L_kind l G (T 0 (N 1 - i - 1))) (va_cwS 1 hts gL_task_L_kind rfl rfl rfl (by decide +kernel) ⟨Nat.le_of_ble_eq_true rfl, Nat.le_of_ble_eq_true rfl⟩) (z_ps hK z_none) rfl rfl hl.1 rfl (lv_room (Nat.le_of_ble_eq_true rfl)) dL_task_15 ⟨(Nat.zero_le _), (Nat.zero_le _)⟩)) (fun zr_3 hzr_3 => ?_)
        subst hzr_3
        refine lv_iconst (v := 4) hx hb dL_task_18 (by decide) ?_
        refine lv_icmp_le (tgt := 59) hx hb dL_task_19 (by decide) (fun zc_4 => ?_) (fun zc_4 => ?_)
        · skip
          have zd_4 := Int32.not_lt.mpr zc_4
          have hqn : ¬ (4 < zK2 (T 0 (N 1 - i - 1)) ∧ zWh (T 0 (N 1 - i - 1)) = a1) := fun z9 => absurd z9.1 zd_4
          refine lv_iinc (v := ((nI (N 1 - i - 1)) + (-1))) (lv' := [(3, .int ((nI (N 1 - i - 1)) + (-1))), (0, .ref (u 0)), (1, .ref (u 9)), (2, .int a1)]) hx hb dL_task_59 hl (k := 3) rfl (by first | exact rfl | rfl) (by decide) rfl (fun ls hl => ?_)
          refine lv_goto (tgt := 6) hx hb dL_task_62 (by decide) ?_
          have hl2 := lv_sub (l' := [(0, .ref (u 0)), (1, .ref (u 9)), (2, .int a1), (3, .int ((nI (N 1 - i - 1)) + (-1)))]) hl [1, 2, 3, 0] rfl
          have e_3 : (nI (N 1 - i - 1)) + (-1) = nI (N 1 - (i + 1)) - 1 := by rw [show N 1 - (i + 1) = N 1 - i - 1 by omega]; exact (Int32.sub_eq_add_neg _ _).symm
          rw [e_3] at hl2
          exact ih (i + 1) (by omega) (by omega) (by rw [hme, show N 1 - i = N 1 - i - 1 + 1 by omega, sTk, if_neg hqn, show N 1 - (i + 1) = N 1 - i - 1 by omega]) ls hl2
        · skip
          have zd_4 := Int32.not_le.mp zc_4
          have hq1z := zd_4
          refine lv_aload_n hx hb dL_task_22 rfl (lv_at hl 0 rfl) ?_
          refine lv_iload_n hx hb dL_task_23 rfl (lv_at hl 3 rfl) ?_
          refine z_csi (va_Run.run (va_runS (As := [.ref (u 0), .int (nI (N 1 - i - 1))]) (rest := []) ⟨hx, hb, hml, hown, hts⟩ (c_L_entry l G u E F N T (N 1 - i - 1) (by first | assumption | exact hQ | omega | exact vp_in_nI (by omega) (by omega)) (by first | assumption | exact hQ | omega | exact vp_in_nI (by omega) (by omega))) (va_cwS 2 hts gL_task_L_entry rfl rfl rfl (by decide +kernel) ⟨Nat.le_of_ble_eq_true rfl, Nat.le_of_ble_eq_true rfl⟩) (z_ps hK hP) rfl rfl hl.1 rfl (lv_room (Nat.le_of_ble_eq_true rfl)) dL_task_24 ⟨(Nat.zero_le _), (Nat.zero_le _)⟩)) (fun zr_5 hzr_5 => ?_)
          subst hzr_5
          refine lv_bipush (v := 100) hx hb dL_task_27 (by decide) ?_
          refine lv_irem hx hb dL_task_29 (by decide) ?_
          refine W.eq (g2 := F0 m 30 ls [.int (zWh (T 0 (N 1 - i - 1)))]) (by first | (rfl; done) | (rfl; rfl)) ?_
          refine lv_iload_n hx hb dL_task_30 rfl (lv_at hl 2 rfl) ?_
          refine lv_icmp_ne (tgt := 59) hx hb dL_task_31 (by decide) (fun zc_6 => ?_) (fun zc_6 => ?_)
          · skip
            have hqn : ¬ (4 < zK2 (T 0 (N 1 - i - 1)) ∧ zWh (T 0 (N 1 - i - 1)) = a1) := fun z9 => zc_6 z9.2
            refine lv_iinc (v := ((nI (N 1 - i - 1)) + (-1))) (lv' := [(3, .int ((nI (N 1 - i - 1)) + (-1))), (0, .ref (u 0)), (1, .ref (u 9)), (2, .int a1)]) hx hb dL_task_59 hl (k := 3) rfl (by first | exact rfl | rfl) (by decide) rfl (fun ls hl => ?_)
            refine lv_goto (tgt := 6) hx hb dL_task_62 (by decide) ?_
            have hl2 := lv_sub (l' := [(0, .ref (u 0)), (1, .ref (u 9)), (2, .int a1), (3, .int ((nI (N 1 - i - 1)) + (-1)))]) hl [1, 2, 3, 0] rfl
            have e_3 : (nI (N 1 - i - 1)) + (-1) = nI (N 1 - (i + 1)) - 1 := by rw [show N 1 - (i + 1) = N 1 - i - 1 by omega]; exact (Int32.sub_eq_add_neg _ _).symm
            rw [e_3] at hl2
            exact ih (i + 1) (by omega) (by omega) (by rw [hme, show N 1 - i = N 1 - i - 1 + 1 by omega, sTk, if_neg hqn, show N 1 - (i + 1) = N 1 - i - 1 by omega]) ls hl2
          · skip
            have hq2z := zc_6
            refine lv_aload_n hx hb dL_task_34 rfl (lv_at hl 0 rfl) ?_
            refine lv_iload_n hx hb dL_task_35 rfl (lv_at hl 3 rfl) ?_
            refine z_csi (va_Run.run (va_runS (As := [.ref (u 0), .int (nI (N 1 - i - 1))]) (rest := []) ⟨hx, hb, hml, hown, hts⟩ (c_L_entry l G u E F N T (N 1 - i - 1) (by first | assumption | exact hQ | omega | exact vp_in_nI (by omega) (by omega)) (by first | assumption | exact hQ | omega | exact vp_in_nI (by omega) (by omega))) (va_cwS 2 hts gL_task_L_entry rfl rfl rfl (by decide +kernel) ⟨Nat.le_of_ble_eq_true rfl, Nat.le_of_ble_eq_true rfl⟩) (z_ps hK hP) rfl rfl hl.1 rfl (lv_room (Nat.le_of_ble_eq_true rfl)) dL_task_36 ⟨(Nat.zero_le _), (Nat.zero_le _)⟩)) (fun zr_7 hzr_7 => ?_)
            subst hzr_7
            refine z_csi (va_Run.run (va_runS (As := [.int (T 0 (N 1 - i - 1))]) (rest := []) ⟨hx, hb, hml, hown, hts⟩ (c_L_kind l G (T 0 (N 1 - i - 1))) (va_cwS 1 hts gL_task_L_kind rfl rfl rfl (by decide +kernel) ⟨Nat.le_of_ble_eq_true rfl, Nat.le_of_ble_eq_true rfl⟩) (z_ps hK z_none) rfl rfl hl.1 rfl (lv_room (Nat.le_of_ble_eq_true rfl)) dL_task_39 ⟨(Nat.zero_le _), (Nat.zero_le _)⟩)) (fun zr_8 hzr_8 => ?_)
            subst hzr_8
            refine lv_iconst (v := 5) hx hb dL_task_42 (by decide) ?_
            refine lv_icmp_ne (tgt := 57) hx hb dL_task_43 (by decide) (fun zc_9 => ?_) (fun zc_9 => ?_)
            · skip
              refine lv_iconst (v := (-1)) hx hb dL_task_57 (by decide) ?_
              exact W.iret (v := (-1)) hx hb hr (fun t ht hW => ⟨(-1), rfl, (by rw [← hQ.tk hv, hme, show N 1 - i = N 1 - i - 1 + 1 by omega, sTk, if_pos ⟨hq1z, hq2z⟩]; simp [zc_9]), ht⟩) (fun _ h => nomatch h) dL_task_58
            · skip
              refine lv_aload_n hx hb dL_task_46 rfl (lv_at hl 0 rfl) ?_
              refine lv_iload_n hx hb dL_task_47 rfl (lv_at hl 3 rfl) ?_
              refine z_csi (va_Run.run (va_runS (As := [.ref (u 0), .int (nI (N 1 - i - 1))]) (rest := []) ⟨hx, hb, hml, hown, hts⟩ (c_L_entry l G u E F N T (N 1 - i - 1) (by first | assumption | exact hQ | omega | exact vp_in_nI (by omega) (by omega)) (by first | assumption | exact hQ | omega | exact vp_in_nI (by omega) (by omega))) (va_cwS 2 hts gL_task_L_entry rfl rfl rfl (by decide +kernel) ⟨Nat.le_of_ble_eq_true rfl, Nat.le_of_ble_eq_true rfl⟩) (z_ps hK hP) rfl rfl hl.1 rfl (lv_room (Nat.le_of_ble_eq_true rfl)) dL_task_48 ⟨(Nat.zero_le _), (Nat.zero_le _)⟩)) (fun zr_10 hzr_10 => ?_)
              subst hzr_10
              refine z_csi (va_Run.run (va_runS (As := [.int (T 0 (N 1 - i - 1))]) (rest := []) ⟨hx, hb, hml, hown, hts⟩ (c_L_who l G (T 0 (N 1 - i - 1))) (va_cwS 1 hts gL_task_L_who rfl rfl rfl (by decide +kernel) ⟨Nat.le_of_ble_eq_true rfl, Nat.le_of_ble_eq_true rfl⟩) (z_ps hK z_none) rfl rfl hl.1 rfl (lv_room (Nat.le_of_ble_eq_true rfl)) dL_task_51 ⟨(Nat.zero_le _), (Nat.zero_le _)⟩)) (fun zr_11 hzr_11 => ?_)
              subst hzr_11
              refine lv_goto (tgt := 58) hx hb dL_task_54 (by decide) ?_
              exact W.iret (v := zWo (T 0 (N 1 - i - 1))) hx hb hr (fun t ht hW => ⟨zWo (T 0 (N 1 - i - 1)), rfl, (by rw [← hQ.tk hv, hme, show N 1 - i = N 1 - i - 1 + 1 by omega, sTk, if_pos ⟨hq1z, hq2z⟩]; simp [zc_9]), ht⟩) (fun _ h => nomatch h) dL_task_58
  exact key_6 (N 1 + 1) 0 (Nat.zero_le _) (by omega) rfl ls (lv_sub hl [1, 2, 3, 0] rfl)

set_option maxHeartbeats 4000000 in
set_option maxRecDepth 100000 in
theorem c_L_why (l : Launch) (G : zG) (u : Nat → Nat) (E : Nat → Int64) (F : Nat → Nat → Int32) (N : Nat → Nat) (T : Nat → Nat → Int32) (a1 : Int32) (a2 : Int32) (hQ : sLQ N T E F) (hv : vp_in a1 9) : Met l yL_why wsL_why ({ frames := 2, cells := 0, slots := 0, locals := 46 }) (va_Pc [.ref (u 0), .ref (u 4), .ref (u 6), .ref (u 9), .int a1, .int a2] (zPp G (LW G u E F))) (zQi (fun r : Int32 => r = sBars N T a1 a2)) 0 0 (fun _ => False) := by
  refine Met.ofW (cc := cL_why) (maxL := 7) (ret := (some .int)) (by decide) rfl ?_
  intro p e s m args below meth c s₁ B hml hv
  obtain ⟨rfl, hP, hK⟩ := hv
  have hx := B.exec
  have hb := B.bytes
  have hr := B.returns
  have hts := atoms_spec (ws := wsL_why) B.pre
  have hown : s.vm.findClass RL = some m.cls := findClass_of_methodNamed B.named
  have hlocks := B.notSynchronized
  have hP : va_P G.1 vwCl [(u 0, .inl (G.2 1, 64, .inr (.inl E))), (u 1, .inl (G.2 0, 8, .inl (F 1))), (u 2, .inl (G.2 0, 3, .inl (F 2))), (u 3, .inl (G.2 0, 3, .inl (F 3))), (u 4, .inl (G.2 0, 40, .inl (F 4))), (u 5, .inl (G.2 0, 40, .inl (F 5))), (u 6, .inl (G.2 0, 9, .inl (F 6))), (u 7, .inl (G.2 0, 12, .inl (F 7))), (u 8, .inl (G.2 0, 12, .inl (F 8))), (u 9, .inl (G.2 0, 10, .inl (F 9)))] s.heap := hP
  have hl := lv_entry ([.ref (u 0), .ref (u 4), .ref (u 6), .ref (u 9), .int a1, .int a2]) (n := 7) (Nat.le_of_ble_eq_true rfl)
  rw [lg_entry_eq]
  generalize (lg_sl ([.ref (u 0), .ref (u 4), .ref (u 6), .ref (u 9), .int a1, .int a2]) ++ List.replicate (7 - (lg_sl ([.ref (u 0), .ref (u 4), .ref (u 6), .ref (u 9), .int a1, .int a2])).length) Slot.unset).toArray = ls at hl ⊢
  have hl : lv_has ls 7 [(0, .ref (u 0)), (1, .ref (u 4)), (2, .ref (u 6)), (3, .ref (u 9)), (4, .int a1), (5, .int a2)] := hl
  obtain ⟨hRE, ⟨hn1, hn2, hn0, hn6⟩, ⟨hq0, hq1, hq2, hq5⟩, hR4, hR6, hG, hH, hTg, hB2⟩ := id hQ
  refine lv_aload_n hx hb dL_why_0 rfl (lv_at hl 3 rfl) ?_
  refine lv_iconst (v := 0) hx hb dL_why_1 (by decide) ?_
  refine va_iald hx hb hK hP 9 0 rfl rfl (vp_in_nI (n := 0) (by decide) (by decide)) dL_why_2 ?_
  refine W.eq (g2 := F0 m 3 ls [.int (nI (N 0))]) (by rw [show (F 9) (0 : Int32).toNatClampNeg = nI (N 0) from hq0]) ?_
  refine lv_bipush (v := 8) hx hb dL_why_3 (by decide) ?_
  refine lv_idiv hx hb dL_why_5 (by decide) ?_
  refine lv_iload hx hb dL_why_6 (lv_at hl 4 rfl) ?_
  refine lv_isub hx hb dL_why_8 ?_
  refine lv_iconst (v := 3) hx hb dL_why_9 (by decide) ?_
  refine lv_irem hx hb dL_why_10 (by decide) ?_
  refine lv_if_ne (tgt := 24) hx hb dL_why_11 (by decide) (fun zc_1 => ?_) (fun zc_1 => ?_)
  · skip
    have hmz : ¬ (a1 - a1 / 3 * 3 = nI (N 0) / 8 - nI (N 0) / 8 / 3 * 3) := fun z9 => zc_1 ((z_mod3 hv hn0).mpr z9)
    refine lv_iconst (v := 1) hx hb dL_why_24 (by decide) ?_
    exact W.iret (v := 1) hx hb hr (fun t ht hW => ⟨1, rfl, (by rw [sBars, if_pos (by simp [sDuty, hmz])]), ht⟩) (fun _ h => nomatch h) dL_why_25
  · skip
    have hmz : a1 - a1 / 3 * 3 = nI (N 0) / 8 - nI (N 0) / 8 / 3 * 3 := (z_mod3 hv hn0).mp zc_1
    refine lv_aload_n hx hb dL_why_14 rfl (lv_at hl 0 rfl) ?_
    refine lv_aload_n hx hb dL_why_15 rfl (lv_at hl 3 rfl) ?_
    refine lv_iload hx hb dL_why_16 (lv_at hl 4 rfl) ?_
    refine z_csi (va_Run.run (va_runS (As := [.ref (u 0), .ref (u 9), .int a1]) (rest := []) ⟨hx, hb, hml, hown, hts⟩ (c_L_hasLeft l G u E F N T a1 (by first | assumption | exact hQ | omega | exact vp_in_nI (by omega) (by omega)) (by first | assumption | exact hQ | omega | exact vp_in_nI (by omega) (by omega))) (va_cwS 3 hts gL_why_L_hasLeft rfl rfl rfl (by decide +kernel) ⟨Nat.le_of_ble_eq_true rfl, Nat.le_of_ble_eq_true rfl⟩) (z_ps hK hP) rfl rfl hl.1 rfl (lv_room (Nat.le_of_ble_eq_true rfl)) dL_why_18 ⟨(Nat.zero_le _), (Nat.zero_le _)⟩)) (fun zr_2 hzr_2 => ?_)
    subst hzr_2
    refine lv_if_eq (tgt := 26) hx hb dL_why_21 (by decide) (fun zc_3 => ?_) (fun zc_3 => ?_)
    · skip
      have hduz : sDuty N T a1 = true := by simp [sDuty, hmz, zc_3]
      refine lv_aload_n hx hb dL_why_26 rfl (lv_at hl 2 rfl) ?_
      refine lv_iload hx hb dL_why_27 (lv_at hl 4 rfl) ?_
      refine va_iald hx hb hK hP 6 0 rfl rfl hv dL_why_29 ?_
      refine W.eq (g2 := F0 m 30 ls [.int (T 1 a1.toNatClampNeg)]) (by first | (rw [hR6 _ (zCl hv (by omega)).1]; done) | (rw [hR6 _ (zCl hv (by omega)).1]; rfl)) ?_
      refine lv_aload_n hx hb dL_why_30 rfl (lv_at hl 3 rfl) ?_
      refine lv_iconst (v := 2) hx hb dL_why_31 (by decide) ?_
      refine va_iald hx hb hK hP 9 0 rfl rfl (vp_in_nI (n := 2) (by decide) (by decide)) dL_why_32 ?_
      refine W.eq (g2 := F0 m 33 ls [.int (T 19 0), .int (T 1 a1.toNatClampNeg)]) (by rw [show (F 9) (2 : Int32).toNatClampNeg = T 19 0 from hq2]) ?_
      refine lv_icmp_ge (tgt := 38) hx hb dL_why_33 (by decide) (fun zc_4 => ?_) (fun zc_4 => ?_)
      · skip
        have zd_4 := Int32.not_lt.mpr zc_4
        have hmyz : sMay N T a1 = true := by rw [sMay, hduz]; simp [zc_1, zc_3, zc_4, zd_4]
        refine lv_iconst (v := 0) hx hb dL_why_38 (by decide) ?_
        refine lv_istore (lv' := [(6, .int 0), (0, .ref (u 0)), (1, .ref (u 4)), (2, .ref (u 6)), (3, .ref (u 9)), (4, .int a1), (5, .int a2)]) hx hb dL_why_39 hl (by decide) rfl (fun ls hl => ?_)
        have key_41 : ∀ (n i : Nat), i ≤ N 2 → N 2 < i + n → (sAny (fun t => decide (T 10 t = 0) && decide (T 8 t = a2) && !decide (T 7 t = a1)) i = false) → ∀ ls : Array Slot, lv_has ls 7 [(0, .ref (u 0)), (1, .ref (u 4)), (2, .ref (u 6)), (3, .ref (u 9)), (4, .int a1), (5, .int a2), (6, .int (nI i))] → W p l e (headSpec wsL_why ({ frames := 2, cells := 0, slots := 0, locals := 46 })).room s m ([.ref (u 0), .ref (u 4), .ref (u 6), .ref (u 9), .int a1, .int a2] : List Value).toArray below meth c s.heap [] 0 0 (MQ below (zQi (fun r : Int32 => r = sBars N T a1 a2)) ([.ref (u 0), .ref (u 4), .ref (u 6), .ref (u 9), .int a1, .int a2] : List Value).toArray s 0 0 (fun _ => False)) (F0 m 41 ls []) := by
          intro n
          induction n with
          | zero => intro i h1 h2; exact absurd h2 (by omega)
          | succ n ih =>
            intro i hi hn hme ls hl
            refine lv_iload hx hb dL_why_41 (lv_at hl 6 rfl) ?_
            refine lv_aload_n hx hb dL_why_43 rfl (lv_at hl 3 rfl) ?_
            refine lv_iconst (v := 5) hx hb dL_why_44 (by decide) ?_
            refine va_iald hx hb hK hP 9 0 rfl rfl (vp_in_nI (n := 5) (by decide) (by decide)) dL_why_45 ?_
            refine W.eq (g2 := F0 m 46 ls [.int (nI (N 2)), .int (nI i)]) (by rw [show (F 9) (5 : Int32).toNatClampNeg = nI (N 2) from hq5]) ?_
            refine lv_icmp_ge (tgt := 88) hx hb dL_why_46 (by decide) (fun zc_5 => ?_) (fun zc_5 => ?_)
            · skip
              have zd_5 := Int32.not_lt.mpr zc_5
              have zhc := (nI_leI (by omega) (by omega)).mp zc_5
              have zie := Nat.le_antisymm hi zhc
              subst zie
              refine lv_iconst (v := 0) hx hb dL_why_88 (by decide) ?_
              exact W.iret (v := 0) hx hb hr (fun t ht hW => ⟨0, rfl, (by rw [sBars, if_neg (by rw [hduz]; decide), if_neg (by rw [hmyz]; decide), if_neg (by rw [sBar, hme]; decide)]), ht⟩) (fun _ h => nomatch h) dL_why_89
            · skip
              have zd_5 := Int32.not_le.mp zc_5
              have zhc := Nat.lt_of_not_le (fun z => zc_5 ((nI_leI (by omega) (by omega)).mpr z))
              refine lv_aload_n hx hb dL_why_49 rfl (lv_at hl 1 rfl) ?_
              refine lv_iload hx hb dL_why_50 (lv_at hl 6 rfl) ?_
              refine va_iald hx hb hK hP 4 0 rfl rfl (by first | assumption | exact vp_in_nI (by omega) (by omega)) dL_why_52 ?_
              refine W.eq (g2 := F0 m 53 ls [.int (T 8 i)]) (by first | (rw [nI_clamp (by omega), hR4 _ (by omega)]; done) | (rw [nI_clamp (by omega), hR4 _ (by omega)]; rfl)) ?_
              refine lv_iload hx hb dL_why_53 (lv_at hl 5 rfl) ?_
              refine lv_icmp_ne (tgt := 82) hx hb dL_why_55 (by decide) (fun zc_6 => ?_) (fun zc_6 => ?_)
              · skip
                refine lv_iinc (v := (nI (i + 1))) (lv' := [(6, .int (nI (i + 1))), (0, .ref (u 0)), (1, .ref (u 4)), (2, .ref (u 6)), (3, .ref (u 9)), (4, .int a1), (5, .int a2)]) hx hb dL_why_82 hl (k := 6) rfl (by first | exact nI_1 _ | rfl) (by decide) rfl (fun ls hl => ?_)
                refine lv_goto (tgt := 41) hx hb dL_why_85 (by decide) ?_
                have hl2 := lv_sub (l' := [(0, .ref (u 0)), (1, .ref (u 4)), (2, .ref (u 6)), (3, .ref (u 9)), (4, .int a1), (5, .int a2), (6, .int (nI (i + 1)))]) hl [1, 2, 3, 4, 5, 6, 0] rfl
                exact ih (i + 1) (by omega) (by omega) (by rw [sAny, hme]; simp [zc_6]) ls hl2
              · skip
                refine lv_aload_n hx hb dL_why_58 rfl (lv_at hl 0 rfl) ?_
                refine lv_aload_n hx hb dL_why_59 rfl (lv_at hl 3 rfl) ?_
                refine lv_iload hx hb dL_why_60 (lv_at hl 6 rfl) ?_
                refine z_csi (va_Run.run (va_runS (As := [.ref (u 0), .ref (u 9), .int (nI i)]) (rest := []) ⟨hx, hb, hml, hown, hts⟩ (c_L_hanger l G u E F N T (nI i) (by first | assumption | exact hQ | omega | exact vp_in_nI (by omega) (by omega)) (by first | assumption | exact hQ | omega | exact vp_in_nI (by omega) (by omega))) (va_cwS 3 hts gL_why_L_hanger rfl rfl rfl (by decide +kernel) ⟨Nat.le_of_ble_eq_true rfl, Nat.le_of_ble_eq_true rfl⟩) (z_ps hK hP) rfl rfl hl.1 rfl (lv_room (Nat.le_of_ble_eq_true rfl)) dL_why_62 ⟨(Nat.zero_le _), (Nat.zero_le _)⟩)) (fun zr_7 hzr_7 => ?_)
                subst hzr_7
                refine lv_if_lt (tgt := 82) hx hb dL_why_65 (by decide) (fun zc_8 => ?_) (fun zc_8 => ?_)
                · skip
                  have zd_8 := Int32.not_le.mpr zc_8
                  have zh := (sHo_n hTg (by omega) hn2).1.mp zc_8
                  refine lv_iinc (v := (nI (i + 1))) (lv' := [(6, .int (nI (i + 1))), (0, .ref (u 0)), (1, .ref (u 4)), (2, .ref (u 6)), (3, .ref (u 9)), (4, .int a1), (5, .int a2)]) hx hb dL_why_82 hl (k := 6) rfl (by first | exact nI_1 _ | rfl) (by decide) rfl (fun ls hl => ?_)
                  refine lv_goto (tgt := 41) hx hb dL_why_85 (by decide) ?_
                  have hl2 := lv_sub (l' := [(0, .ref (u 0)), (1, .ref (u 4)), (2, .ref (u 6)), (3, .ref (u 9)), (4, .int a1), (5, .int a2), (6, .int (nI (i + 1)))]) hl [1, 2, 3, 4, 5, 6, 0] rfl
                  exact ih (i + 1) (by omega) (by omega) (by rw [sAny, hme]; simp [zd_8, zh]) ls hl2
                · skip
                  have zd_8 := Int32.not_lt.mp zc_8
                  have zh : T 10 i = 0 := Decidable.byContradiction (fun z9 => zc_8 ((sHo_n hTg (by omega) hn2).1.mpr z9))
                  have ho9 := (sHo_n hTg (by omega) hn2).2 zh
                  refine lv_aload_n hx hb dL_why_68 rfl (lv_at hl 0 rfl) ?_
                  refine lv_aload_n hx hb dL_why_69 rfl (lv_at hl 3 rfl) ?_
                  refine lv_iload hx hb dL_why_70 (lv_at hl 6 rfl) ?_
                  refine z_csi (va_Run.run (va_runS (As := [.ref (u 0), .ref (u 9), .int (nI i)]) (rest := []) ⟨hx, hb, hml, hown, hts⟩ (c_L_hanger l G u E F N T (nI i) (by first | assumption | exact hQ | omega | exact vp_in_nI (by omega) (by omega)) (by first | assumption | exact hQ | omega | exact vp_in_nI (by omega) (by omega))) (va_cwS 3 hts gL_why_L_hanger rfl rfl rfl (by decide +kernel) ⟨Nat.le_of_ble_eq_true rfl, Nat.le_of_ble_eq_true rfl⟩) (z_ps hK hP) rfl rfl hl.1 rfl (lv_room (Nat.le_of_ble_eq_true rfl)) dL_why_72 ⟨(Nat.zero_le _), (Nat.zero_le _)⟩)) (fun zr_9 hzr_9 => ?_)
                  subst hzr_9
                  refine lv_iload hx hb dL_why_75 (lv_at hl 4 rfl) ?_
                  refine lv_icmp_eq (tgt := 82) hx hb dL_why_77 (by decide) (fun zc_10 => ?_) (fun zc_10 => ?_)
                  · skip
                    rw [ho9] at zc_10
                    refine lv_iinc (v := (nI (i + 1))) (lv' := [(6, .int (nI (i + 1))), (0, .ref (u 0)), (1, .ref (u 4)), (2, .ref (u 6)), (3, .ref (u 9)), (4, .int a1), (5, .int a2)]) hx hb dL_why_82 hl (k := 6) rfl (by first | exact nI_1 _ | rfl) (by decide) rfl (fun ls hl => ?_)
                    refine lv_goto (tgt := 41) hx hb dL_why_85 (by decide) ?_
                    have hl2 := lv_sub (l' := [(0, .ref (u 0)), (1, .ref (u 4)), (2, .ref (u 6)), (3, .ref (u 9)), (4, .int a1), (5, .int a2), (6, .int (nI (i + 1)))]) hl [1, 2, 3, 4, 5, 6, 0] rfl
                    exact ih (i + 1) (by omega) (by omega) (by rw [sAny, hme]; simp [zc_10, zh, ho9]) ls hl2
                  · skip
                    rw [ho9] at zc_10
                    refine lv_iconst (v := 3) hx hb dL_why_80 (by decide) ?_
                    exact W.iret (v := 3) hx hb hr (fun t ht hW => ⟨3, rfl, (by rw [sBars, if_neg (by rw [hduz]; decide), if_neg (by rw [hmyz]; decide), if_pos (show sBar N T a1 a2 = true from sAny_iff.mpr ⟨i, by omega, by simp [zc_6, zc_8, zd_8, zc_10, zh, ho9]⟩)]), ht⟩) (fun _ h => nomatch h) dL_why_81
        exact key_41 (N 2 + 1) 0 (Nat.zero_le _) (by omega) rfl ls (lv_sub hl [1, 2, 3, 4, 5, 6, 0] rfl)
      · skip
        have zd_4 := Int32.not_le.mp zc_4
        refine lv_iconst (v := 2) hx hb dL_why_36 (by decide) ?_
        exact W.iret (v := 2) hx hb hr (fun t ht hW => ⟨2, rfl, (by rw [sBars, if_neg (by rw [hduz]; decide), if_pos (by rw [sMay, hduz]; simp [zc_4, zd_4])]), ht⟩) (fun _ h => nomatch h) dL_why_37
    · skip
      refine lv_iconst (v := 1) hx hb dL_why_24 (by decide) ?_
      exact W.iret (v := 1) hx hb hr (fun t ht hW => ⟨1, rfl, (by rw [sBars, if_pos (by simp [sDuty, zc_3])]), ht⟩) (fun _ h => nomatch h) dL_why_25

set_option maxHeartbeats 4000000 in
set_option maxRecDepth 100000 in
theorem c_L_mayAct (l : Launch) (G : zG) (u : Nat → Nat) (E : Nat → Int64) (F : Nat → Nat → Int32) (N : Nat → Nat) (T : Nat → Nat → Int32) (a1 : Int32) (hQ : sLQ N T E F) (hv : vp_in a1 9) : Met l yL_mayAct wsL_mayAct ({ frames := 3, cells := 0, slots := 0, locals := 72 }) (va_Pc [.ref (u 0), .ref (u 4), .ref (u 6), .ref (u 9), .int a1] (zPp G (LW G u E F))) (zQi (fun r : Int32 => r = zb (sMay N T a1))) 0 0 (fun _ => False) := by
  refine Met.ofW (cc := cL_mayAct) (maxL := 5) (ret := (some .boolean)) (by decide) rfl ?_
  intro p e s m args below meth c s₁ B hml hv
  obtain ⟨rfl, hP, hK⟩ := hv
  have hx := B.exec
  have hb := B.bytes
  have hr := B.returns
  have hts := atoms_spec (ws := wsL_mayAct) B.pre
  have hown : s.vm.findClass RL = some m.cls := findClass_of_methodNamed B.named
  have hlocks := B.notSynchronized
  have hP : va_P G.1 vwCl [(u 0, .inl (G.2 1, 64, .inr (.inl E))), (u 1, .inl (G.2 0, 8, .inl (F 1))), (u 2, .inl (G.2 0, 3, .inl (F 2))), (u 3, .inl (G.2 0, 3, .inl (F 3))), (u 4, .inl (G.2 0, 40, .inl (F 4))), (u 5, .inl (G.2 0, 40, .inl (F 5))), (u 6, .inl (G.2 0, 9, .inl (F 6))), (u 7, .inl (G.2 0, 12, .inl (F 7))), (u 8, .inl (G.2 0, 12, .inl (F 8))), (u 9, .inl (G.2 0, 10, .inl (F 9)))] s.heap := hP
  have hl := lv_entry ([.ref (u 0), .ref (u 4), .ref (u 6), .ref (u 9), .int a1]) (n := 5) (Nat.le_of_ble_eq_true rfl)
  rw [lg_entry_eq]
  generalize (lg_sl ([.ref (u 0), .ref (u 4), .ref (u 6), .ref (u 9), .int a1]) ++ List.replicate (5 - (lg_sl ([.ref (u 0), .ref (u 4), .ref (u 6), .ref (u 9), .int a1])).length) Slot.unset).toArray = ls at hl ⊢
  have hl : lv_has ls 5 [(0, .ref (u 0)), (1, .ref (u 4)), (2, .ref (u 6)), (3, .ref (u 9)), (4, .int a1)] := hl
  obtain ⟨hRE, ⟨hn1, hn2, hn0, hn6⟩, ⟨hq0, hq1, hq2, hq5⟩, hR4, hR6, hG, hH, hTg, hB2⟩ := id hQ
  refine lv_aload_n hx hb dL_mayAct_0 rfl (lv_at hl 0 rfl) ?_
  refine lv_aload_n hx hb dL_mayAct_1 rfl (lv_at hl 1 rfl) ?_
  refine lv_aload_n hx hb dL_mayAct_2 rfl (lv_at hl 2 rfl) ?_
  refine lv_aload_n hx hb dL_mayAct_3 rfl (lv_at hl 3 rfl) ?_
  refine lv_iload hx hb dL_mayAct_4 (lv_at hl 4 rfl) ?_
  refine lv_bipush (v := 9) hx hb dL_mayAct_6 (by decide) ?_
  refine z_csi (va_Run.run (va_runS (As := [.ref (u 0), .ref (u 4), .ref (u 6), .ref (u 9), .int a1, .int 9]) (rest := []) ⟨hx, hb, hml, hown, hts⟩ (c_L_why l G u E F N T a1 9 (by first | assumption | exact hQ | omega | exact vp_in_nI (by omega) (by omega)) (by first | assumption | exact hQ | omega | exact vp_in_nI (by omega) (by omega))) (va_cwS 6 hts gL_mayAct_L_why rfl rfl rfl (by decide +kernel) ⟨Nat.le_of_ble_eq_true rfl, Nat.le_of_ble_eq_true rfl⟩) (z_ps hK hP) rfl rfl hl.1 rfl (lv_room (Nat.le_of_ble_eq_true rfl)) dL_mayAct_8 ⟨(Nat.zero_le _), (Nat.zero_le _)⟩)) (fun zr_1 hzr_1 => ?_)
  subst hzr_1
  refine lv_if_ne (tgt := 18) hx hb dL_mayAct_11 (by decide) (fun zc_2 => ?_) (fun zc_2 => ?_)
  · skip
    refine lv_iconst (v := 0) hx hb dL_mayAct_18 (by decide) ?_
    exact W.zret (v := 0) hx hb hr rfl (fun t ht hW => ⟨0, rfl, (by rw [z_mayn hTg zc_2]; rfl), ht⟩) (fun _ h => nomatch h) dL_mayAct_19
  · skip
    refine lv_iconst (v := 1) hx hb dL_mayAct_14 (by decide) ?_
    refine lv_goto (tgt := 19) hx hb dL_mayAct_15 (by decide) ?_
    exact W.zret (v := 1) hx hb hr rfl (fun t ht hW => ⟨1, rfl, (by rw [z_may hTg zc_2]; rfl), ht⟩) (fun _ h => nomatch h) dL_mayAct_19

set_option maxHeartbeats 4000000 in
set_option maxRecDepth 100000 in
theorem c_L_hanging (l : Launch) (G : zG) (u : Nat → Nat) (E : Nat → Int64) (F : Nat → Nat → Int32) (N : Nat → Nat) (T : Nat → Nat → Int32) (a1 : Int32) (hQ : sLQ N T E F) : Met l yL_hanging wsL_hanging ({ frames := 2, cells := 0, slots := 0, locals := 46 }) (va_Pc [.ref (u 0), .ref (u 4), .ref (u 9), .int a1] (zPp G (LW G u E F))) (zQi (fun r : Int32 => r = nI (sOn N T a1))) 0 0 (fun _ => False) := by
  refine Met.ofW (cc := cL_hanging) (maxL := 6) (ret := (some .int)) (by decide) rfl ?_
  intro p e s m args below meth c s₁ B hml hv
  obtain ⟨rfl, hP, hK⟩ := hv
  have hx := B.exec
  have hb := B.bytes
  have hr := B.returns
  have hts := atoms_spec (ws := wsL_hanging) B.pre
  have hown : s.vm.findClass RL = some m.cls := findClass_of_methodNamed B.named
  have hlocks := B.notSynchronized
  have hP : va_P G.1 vwCl [(u 0, .inl (G.2 1, 64, .inr (.inl E))), (u 1, .inl (G.2 0, 8, .inl (F 1))), (u 2, .inl (G.2 0, 3, .inl (F 2))), (u 3, .inl (G.2 0, 3, .inl (F 3))), (u 4, .inl (G.2 0, 40, .inl (F 4))), (u 5, .inl (G.2 0, 40, .inl (F 5))), (u 6, .inl (G.2 0, 9, .inl (F 6))), (u 7, .inl (G.2 0, 12, .inl (F 7))), (u 8, .inl (G.2 0, 12, .inl (F 8))), (u 9, .inl (G.2 0, 10, .inl (F 9)))] s.heap := hP
  have hl := lv_entry ([.ref (u 0), .ref (u 4), .ref (u 9), .int a1]) (n := 6) (Nat.le_of_ble_eq_true rfl)
  rw [lg_entry_eq]
  generalize (lg_sl ([.ref (u 0), .ref (u 4), .ref (u 9), .int a1]) ++ List.replicate (6 - (lg_sl ([.ref (u 0), .ref (u 4), .ref (u 9), .int a1])).length) Slot.unset).toArray = ls at hl ⊢
  have hl : lv_has ls 6 [(0, .ref (u 0)), (1, .ref (u 4)), (2, .ref (u 9)), (3, .int a1)] := hl
  obtain ⟨hRE, ⟨hn1, hn2, hn0, hn6⟩, ⟨hq0, hq1, hq2, hq5⟩, hR4, hR6, hG, hH, hTg, hB2⟩ := id hQ
  refine lv_iconst (v := 0) hx hb dL_hanging_0 (by decide) ?_
  refine lv_istore (lv' := [(4, .int 0), (0, .ref (u 0)), (1, .ref (u 4)), (2, .ref (u 9)), (3, .int a1)]) hx hb dL_hanging_1 hl (by decide) rfl (fun ls hl => ?_)
  refine lv_iconst (v := 0) hx hb dL_hanging_3 (by decide) ?_
  refine lv_istore (lv' := [(5, .int 0), (4, .int 0), (0, .ref (u 0)), (1, .ref (u 4)), (2, .ref (u 9)), (3, .int a1)]) hx hb dL_hanging_4 hl (by decide) rfl (fun ls hl => ?_)
  have key_6 : ∀ (n i : Nat), i ≤ N 2 → N 2 < i + n → ∀ ls : Array Slot, lv_has ls 6 [(0, .ref (u 0)), (1, .ref (u 4)), (2, .ref (u 9)), (3, .int a1), (4, .int (nI (sCnt (fun t => decide (T 10 t = 0) && decide (T 8 t = a1)) i))), (5, .int (nI i))] → W p l e (headSpec wsL_hanging ({ frames := 2, cells := 0, slots := 0, locals := 46 })).room s m ([.ref (u 0), .ref (u 4), .ref (u 9), .int a1] : List Value).toArray below meth c s.heap [] 0 0 (MQ below (zQi (fun r : Int32 => r = nI (sOn N T a1))) ([.ref (u 0), .ref (u 4), .ref (u 9), .int a1] : List Value).toArray s 0 0 (fun _ => False)) (F0 m 6 ls []) := by
    intro n
    induction n with
    | zero => intro i h1 h2; exact absurd h2 (by omega)
    | succ n ih =>
      intro i hi hn ls hl
      refine lv_iload hx hb dL_hanging_6 (lv_at hl 5 rfl) ?_
      refine lv_aload_n hx hb dL_hanging_8 rfl (lv_at hl 2 rfl) ?_
      refine lv_iconst (v := 5) hx hb dL_hanging_9 (by decide) ?_
      refine va_iald hx hb hK hP 9 0 rfl rfl (vp_in_nI (n := 5) (by decide) (by decide)) dL_hanging_10 ?_
      refine W.eq (g2 := F0 m 11 ls [.int (nI (N 2)), .int (nI i)]) (by rw [show (F 9) (5 : Int32).toNatClampNeg = nI (N 2) from hq5]) ?_
      refine lv_icmp_ge (tgt := 48) hx hb dL_hanging_11 (by decide) (fun zc_1 => ?_) (fun zc_1 => ?_)
      · skip
        have zd_1 := Int32.not_lt.mpr zc_1
        have zhc := (nI_leI (by omega) (by omega)).mp zc_1
        have zie := Nat.le_antisymm hi zhc
        subst zie
        refine lv_iload hx hb dL_hanging_48 (lv_at hl 4 rfl) ?_
        exact W.iret (v := nI (sCnt (fun t => decide (T 10 t = 0) && decide (T 8 t = a1)) (N 2))) hx hb hr (fun t ht hW => ⟨nI (sCnt (fun t => decide (T 10 t = 0) && decide (T 8 t = a1)) (N 2)), rfl, rfl, ht⟩) (fun _ h => nomatch h) dL_hanging_50
      · skip
        have zd_1 := Int32.not_le.mp zc_1
        have zhc := Nat.lt_of_not_le (fun z => zc_1 ((nI_leI (by omega) (by omega)).mpr z))
        refine lv_iload hx hb dL_hanging_14 (lv_at hl 4 rfl) ?_
        refine lv_aload_n hx hb dL_hanging_16 rfl (lv_at hl 1 rfl) ?_
        refine lv_iload hx hb dL_hanging_17 (lv_at hl 5 rfl) ?_
        refine va_iald hx hb hK hP 4 0 rfl rfl (by first | assumption | exact vp_in_nI (by omega) (by omega)) dL_hanging_19 ?_
        refine W.eq (g2 := F0 m 20 ls [.int (T 8 i), .int (nI (sCnt (fun t => decide (T 10 t = 0) && decide (T 8 t = a1)) i))]) (by first | (rw [nI_clamp (by omega), hR4 _ (by omega)]; done) | (rw [nI_clamp (by omega), hR4 _ (by omega)]; rfl)) ?_
        refine lv_iload_n hx hb dL_hanging_20 rfl (lv_at hl 3 rfl) ?_
        refine lv_icmp_ne (tgt := 38) hx hb dL_hanging_21 (by decide) (fun zc_2 => ?_) (fun zc_2 => ?_)
        · skip
          refine lv_iconst (v := 0) hx hb dL_hanging_38 (by decide) ?_
          refine lv_iadd hx hb dL_hanging_39 ?_
          refine lv_istore (lv' := [(4, .int ((nI (sCnt (fun t => decide (T 10 t = 0) && decide (T 8 t = a1)) i)) + 0)), (0, .ref (u 0)), (1, .ref (u 4)), (2, .ref (u 9)), (3, .int a1), (5, .int (nI i))]) hx hb dL_hanging_40 hl (by decide) rfl (fun ls hl => ?_)
          refine lv_iinc (v := (nI (i + 1))) (lv' := [(5, .int (nI (i + 1))), (4, .int ((nI (sCnt (fun t => decide (T 10 t = 0) && decide (T 8 t = a1)) i)) + 0)), (0, .ref (u 0)), (1, .ref (u 4)), (2, .ref (u 9)), (3, .int a1)]) hx hb dL_hanging_42 hl (k := 5) rfl (by first | exact nI_1 _ | rfl) (by decide) rfl (fun ls hl => ?_)
          refine lv_goto (tgt := 6) hx hb dL_hanging_45 (by decide) ?_
          have hl2 := lv_sub (l' := [(0, .ref (u 0)), (1, .ref (u 4)), (2, .ref (u 9)), (3, .int a1), (4, .int ((nI (sCnt (fun t => decide (T 10 t = 0) && decide (T 8 t = a1)) i)) + 0)), (5, .int (nI (i + 1)))]) hl [2, 3, 4, 5, 1, 0] rfl
          have e_4 : (nI (sCnt (fun t => decide (T 10 t = 0) && decide (T 8 t = a1)) i)) + 0 = nI (sCnt (fun t => decide (T 10 t = 0) && decide (T 8 t = a1)) (i + 1)) := by simp [sCnt, nI_succ, zd_1, zc_2]
          rw [e_4] at hl2
          exact ih (i + 1) (by omega) (by omega) ls hl2
        · skip
          refine lv_aload_n hx hb dL_hanging_24 rfl (lv_at hl 0 rfl) ?_
          refine lv_aload_n hx hb dL_hanging_25 rfl (lv_at hl 2 rfl) ?_
          refine lv_iload hx hb dL_hanging_26 (lv_at hl 5 rfl) ?_
          refine z_csi (va_Run.run (va_runS (As := [.ref (u 0), .ref (u 9), .int (nI i)]) (rest := [.int (nI (sCnt (fun t => decide (T 10 t = 0) && decide (T 8 t = a1)) i))]) ⟨hx, hb, hml, hown, hts⟩ (c_L_hanger l G u E F N T (nI i) (by first | assumption | exact hQ | omega | exact vp_in_nI (by omega) (by omega)) (by first | assumption | exact hQ | omega | exact vp_in_nI (by omega) (by omega))) (va_cwS 3 hts gL_hanging_L_hanger rfl rfl rfl (by decide +kernel) ⟨Nat.le_of_ble_eq_true rfl, Nat.le_of_ble_eq_true rfl⟩) (z_ps hK hP) rfl rfl hl.1 rfl (lv_room (Nat.le_of_ble_eq_true rfl)) dL_hanging_28 ⟨(Nat.zero_le _), (Nat.zero_le _)⟩)) (fun zr_3 hzr_3 => ?_)
          subst hzr_3
          refine lv_if_lt (tgt := 38) hx hb dL_hanging_31 (by decide) (fun zc_4 => ?_) (fun zc_4 => ?_)
          · skip
            have zd_4 := Int32.not_le.mpr zc_4
            have zh := (sHo_n hTg (by omega) hn2).1.mp zc_4
            refine lv_iconst (v := 0) hx hb dL_hanging_38 (by decide) ?_
            refine lv_iadd hx hb dL_hanging_39 ?_
            refine lv_istore (lv' := [(4, .int ((nI (sCnt (fun t => decide (T 10 t = 0) && decide (T 8 t = a1)) i)) + 0)), (0, .ref (u 0)), (1, .ref (u 4)), (2, .ref (u 9)), (3, .int a1), (5, .int (nI i))]) hx hb dL_hanging_40 hl (by decide) rfl (fun ls hl => ?_)
            refine lv_iinc (v := (nI (i + 1))) (lv' := [(5, .int (nI (i + 1))), (4, .int ((nI (sCnt (fun t => decide (T 10 t = 0) && decide (T 8 t = a1)) i)) + 0)), (0, .ref (u 0)), (1, .ref (u 4)), (2, .ref (u 9)), (3, .int a1)]) hx hb dL_hanging_42 hl (k := 5) rfl (by first | exact nI_1 _ | rfl) (by decide) rfl (fun ls hl => ?_)
            refine lv_goto (tgt := 6) hx hb dL_hanging_45 (by decide) ?_
            have hl2 := lv_sub (l' := [(0, .ref (u 0)), (1, .ref (u 4)), (2, .ref (u 9)), (3, .int a1), (4, .int ((nI (sCnt (fun t => decide (T 10 t = 0) && decide (T 8 t = a1)) i)) + 0)), (5, .int (nI (i + 1)))]) hl [2, 3, 4, 5, 1, 0] rfl
            have e_4 : (nI (sCnt (fun t => decide (T 10 t = 0) && decide (T 8 t = a1)) i)) + 0 = nI (sCnt (fun t => decide (T 10 t = 0) && decide (T 8 t = a1)) (i + 1)) := by simp [sCnt, nI_succ, zd_1, zc_2, zc_4, zd_4, zh]
            rw [e_4] at hl2
            exact ih (i + 1) (by omega) (by omega) ls hl2
          · skip
            have zd_4 := Int32.not_lt.mp zc_4
            have zh : T 10 i = 0 := Decidable.byContradiction (fun z9 => zc_4 ((sHo_n hTg (by omega) hn2).1.mpr z9))
            refine lv_iconst (v := 1) hx hb dL_hanging_34 (by decide) ?_
            refine lv_goto (tgt := 39) hx hb dL_hanging_35 (by decide) ?_
            refine lv_iadd hx hb dL_hanging_39 ?_
            refine lv_istore (lv' := [(4, .int ((nI (sCnt (fun t => decide (T 10 t = 0) && decide (T 8 t = a1)) i)) + 1)), (0, .ref (u 0)), (1, .ref (u 4)), (2, .ref (u 9)), (3, .int a1), (5, .int (nI i))]) hx hb dL_hanging_40 hl (by decide) rfl (fun ls hl => ?_)
            refine lv_iinc (v := (nI (i + 1))) (lv' := [(5, .int (nI (i + 1))), (4, .int ((nI (sCnt (fun t => decide (T 10 t = 0) && decide (T 8 t = a1)) i)) + 1)), (0, .ref (u 0)), (1, .ref (u 4)), (2, .ref (u 9)), (3, .int a1)]) hx hb dL_hanging_42 hl (k := 5) rfl (by first | exact nI_1 _ | rfl) (by decide) rfl (fun ls hl => ?_)
            refine lv_goto (tgt := 6) hx hb dL_hanging_45 (by decide) ?_
            have hl2 := lv_sub (l' := [(0, .ref (u 0)), (1, .ref (u 4)), (2, .ref (u 9)), (3, .int a1), (4, .int ((nI (sCnt (fun t => decide (T 10 t = 0) && decide (T 8 t = a1)) i)) + 1)), (5, .int (nI (i + 1)))]) hl [2, 3, 4, 5, 1, 0] rfl
            have e_4 : (nI (sCnt (fun t => decide (T 10 t = 0) && decide (T 8 t = a1)) i)) + 1 = nI (sCnt (fun t => decide (T 10 t = 0) && decide (T 8 t = a1)) (i + 1)) := by simp [sCnt, nI_succ, zd_1, zc_2, zc_4, zd_4, zh]
            rw [e_4] at hl2
            exact ih (i + 1) (by omega) (by omega) ls hl2
  exact key_6 (N 2 + 1) 0 (Nat.zero_le _) (by omega) ls (lv_sub hl [2, 3, 4, 5, 1, 0] rfl)

set_option maxHeartbeats 4000000 in
set_option maxRecDepth 100000 in
theorem c_L_isWhole (l : Launch) (G : zG) (u : Nat → Nat) (E : Nat → Int64) (F : Nat → Nat → Int32) (N : Nat → Nat) (T : Nat → Nat → Int32) (hRt : sRt N T F) (hx8 : F 9 8 = nI (N 4)) (hn4 : N 4 ≤ 9) : Met l yL_isWhole wsL_isWhole ({ frames := 0, cells := 0, slots := 0, locals := 0 }) (va_Pc [.ref (u 9)] (zPp G (LW G u E F))) (zQi (fun r : Int32 => r = zb (sGood (T 17) (N 4)))) 0 0 (fun _ => False) := by
  refine Met.ofW (cc := cL_isWhole) (maxL := 3) (ret := (some .boolean)) (by decide) rfl ?_
  intro p e s m args below meth c s₁ B hml hv
  obtain ⟨rfl, hP, hK⟩ := hv
  have hx := B.exec
  have hb := B.bytes
  have hr := B.returns
  have hts := atoms_spec (ws := wsL_isWhole) B.pre
  have hown : s.vm.findClass RL = some m.cls := findClass_of_methodNamed B.named
  have hlocks := B.notSynchronized
  have hP : va_P G.1 vwCl [(u 0, .inl (G.2 1, 64, .inr (.inl E))), (u 1, .inl (G.2 0, 8, .inl (F 1))), (u 2, .inl (G.2 0, 3, .inl (F 2))), (u 3, .inl (G.2 0, 3, .inl (F 3))), (u 4, .inl (G.2 0, 40, .inl (F 4))), (u 5, .inl (G.2 0, 40, .inl (F 5))), (u 6, .inl (G.2 0, 9, .inl (F 6))), (u 7, .inl (G.2 0, 12, .inl (F 7))), (u 8, .inl (G.2 0, 12, .inl (F 8))), (u 9, .inl (G.2 0, 10, .inl (F 9)))] s.heap := hP
  have hl := lv_entry ([.ref (u 9)]) (n := 3) (Nat.le_of_ble_eq_true rfl)
  rw [lg_entry_eq]
  generalize (lg_sl ([.ref (u 9)]) ++ List.replicate (3 - (lg_sl ([.ref (u 9)])).length) Slot.unset).toArray = ls at hl ⊢
  have hl : lv_has ls 3 [(0, .ref (u 9))] := hl
  obtain ⟨D, hX, hx9⟩ := hRt
  have hD8 := hX.1
  refine lv_iconst (v := 0) hx hb dL_isWhole_0 (by decide) ?_
  refine lv_istore_n (lv' := [(1, .int 0), (0, .ref (u 9))]) hx hb dL_isWhole_1 rfl hl (by decide) rfl (fun ls hl => ?_)
  have key_2 : ∀ (n i : Nat), i ≤ N 4 → N 4 < i + n → (sG (T 17) i = true ∧ sW (T 17) i = false) → ∀ ls : Array Slot, lv_has ls 3 [(0, .ref (u 9)), (1, .int (nI i))] → W p l e (headSpec wsL_isWhole ({ frames := 0, cells := 0, slots := 0, locals := 0 })).room s m ([.ref (u 9)] : List Value).toArray below meth c s.heap [] 0 0 (MQ below (zQi (fun r : Int32 => r = zb (sGood (T 17) (N 4)))) ([.ref (u 9)] : List Value).toArray s 0 0 (fun _ => False)) (F0 m 2 ls []) := by
    intro n
    induction n with
    | zero => intro i h1 h2; exact absurd h2 (by omega)
    | succ n ih =>
      intro i hi hn hg ls hl
      refine lv_iload_n hx hb dL_isWhole_2 rfl (lv_at hl 1 rfl) ?_
      refine lv_aload_n hx hb dL_isWhole_3 rfl (lv_at hl 0 rfl) ?_
      refine lv_bipush (v := 8) hx hb dL_isWhole_4 (by decide) ?_
      refine va_iald hx hb hK hP 9 0 rfl rfl (vp_in_nI (n := 8) (by decide) (by decide)) dL_isWhole_6 ?_
      refine W.eq (g2 := F0 m 7 ls [.int (nI (N 4)), .int (nI i)]) (by rw [show (F 9) (8 : Int32).toNatClampNeg = nI (N 4) from hx8]) ?_
      refine lv_icmp_ge (tgt := 79) hx hb dL_isWhole_7 (by decide) (fun zc_1 => ?_) (fun zc_1 => ?_)
      · skip
        have zd_1 := Int32.not_lt.mpr zc_1
        have zhc := (nI_leI (by omega) (by omega)).mp zc_1
        have zie := Nat.le_antisymm hi zhc
        subst zie
        refine lv_aload_n hx hb dL_isWhole_79 rfl (lv_at hl 0 rfl) ?_
        refine lv_bipush (v := 8) hx hb dL_isWhole_80 (by decide) ?_
        refine va_iald hx hb hK hP 9 0 rfl rfl (vp_in_nI (n := 8) (by decide) (by decide)) dL_isWhole_82 ?_
        refine W.eq (g2 := F0 m 83 ls [.int (nI (N 4))]) (by rw [show (F 9) (8 : Int32).toNatClampNeg = nI (N 4) from hx8]) ?_
        refine lv_if_le (tgt := 90) hx hb dL_isWhole_83 (by decide) (fun zc_2 => ?_) (fun zc_2 => ?_)
        · skip
          have zd_2 := Int32.not_lt.mpr zc_2
          have hzerz : N 4 = 0 := (sLe0 (by omega)).mp zc_2
          refine lv_iconst (v := 0) hx hb dL_isWhole_90 (by decide) ?_
          exact W.zret (v := 0) hx hb hr rfl (fun t ht hW => ⟨0, rfl, (by simp [sGood, zb, hg.1, hg.2, hzerz]), ht⟩) (fun _ h => nomatch h) dL_isWhole_91
        · skip
          have zd_2 := Int32.not_le.mp zc_2
          have hposz : 0 < N 4 := sLe0n (by omega) zc_2
          refine lv_iconst (v := 1) hx hb dL_isWhole_86 (by decide) ?_
          refine lv_goto (tgt := 91) hx hb dL_isWhole_87 (by decide) ?_
          exact W.zret (v := 1) hx hb hr rfl (fun t ht hW => ⟨1, rfl, (by simp [sGood, zb, hg.1, hg.2, hposz]), ht⟩) (fun _ h => nomatch h) dL_isWhole_91
      · skip
        have zd_1 := Int32.not_le.mp zc_1
        have zhc := Nat.lt_of_not_le (fun z => zc_1 ((nI_leI (by omega) (by omega)).mpr z))
        have hilt : i < N 4 := zhc
        refine lv_aload_n hx hb dL_isWhole_10 rfl (lv_at hl 0 rfl) ?_
        refine lv_bipush (v := 9) hx hb dL_isWhole_11 (by decide) ?_
        refine va_iald hx hb hK hP 9 0 rfl rfl (vp_in_nI (n := 9) (by decide) (by decide)) dL_isWhole_13 ?_
        refine W.eq (g2 := F0 m 14 ls [.int ((F 9) 9)]) (by rw [show (F 9) (9 : Int32).toNatClampNeg = (F 9) 9 from rfl]) ?_
        refine lv_iconst (v := 3) hx hb dL_isWhole_14 (by decide) ?_
        refine lv_iload_n hx hb dL_isWhole_15 rfl (lv_at hl 1 rfl) ?_
        refine lv_imul hx hb dL_isWhole_16 ?_
        refine lv_ishr hx hb dL_isWhole_17 ?_
        refine lv_bipush (v := 7) hx hb dL_isWhole_18 (by decide) ?_
        refine lv_iand hx hb dL_isWhole_20 ?_
        refine W.eq (g2 := F0 m 21 ls [.int (nI (D i))]) (by first | (rw [sP8_at hx9 hD8 (by omega) hn4]; done) | (rw [sP8_at hx9 hD8 (by omega) hn4]; rfl)) ?_
        refine lv_istore_n (lv' := [(2, .int (nI (D i))), (0, .ref (u 9)), (1, .int (nI i))]) hx hb dL_isWhole_21 rfl hl (by decide) rfl (fun ls hl => ?_)
        refine lv_iload_n hx hb dL_isWhole_22 rfl (lv_at hl 0 rfl) ?_
        refine lv_bipush (v := 6) hx hb dL_isWhole_23 (by decide) ?_
        refine lv_icmp_eq (tgt := 61) hx hb dL_isWhole_25 (by decide) (fun zc_3 => ?_) (fun zc_3 => ?_)
        · skip
          have hd6 : D i = 6 := (nI_eq (b := 6) (by have := hD8 i; omega) (by omega)).mp zc_3
          refine lv_iconst (v := 0) hx hb dL_isWhole_61 (by decide) ?_
          exact W.zret (v := 0) hx hb hr rfl (fun t ht hW => ⟨0, rfl, (by rw [sTx_n6 hX hilt hg hd6]; rfl), ht⟩) (fun _ h => nomatch h) dL_isWhole_62
        · skip
          have hd6 : ¬ D i = 6 := fun z9 => zc_3 (by rw [z9]; rfl)
          refine lv_iload_n hx hb dL_isWhole_28 rfl (lv_at hl 0 rfl) ?_
          refine lv_iconst (v := 5) hx hb dL_isWhole_29 (by decide) ?_
          refine lv_icmp_ne (tgt := 63) hx hb dL_isWhole_30 (by decide) (fun zc_4 => ?_) (fun zc_4 => ?_)
          · skip
            have hd5 : ¬ D i = 5 := fun z9 => zc_4 (by rw [z9]; rfl)
            refine lv_iload_n hx hb dL_isWhole_63 rfl (lv_at hl 2 rfl) ?_
            refine lv_iload_n hx hb dL_isWhole_64 rfl (lv_at hl 0 rfl) ?_
            refine lv_iconst (v := 5) hx hb dL_isWhole_65 (by decide) ?_
            refine lv_icmp_ne (tgt := 73) hx hb dL_isWhole_66 (by decide) (fun zc_5 => ?_) (fun zc_5 => ?_)
            · skip
              have hd5b := hd5
              refine lv_iconst (v := 1) hx hb dL_isWhole_73 (by decide) ?_
              refine lv_iadd hx hb dL_isWhole_74 ?_
              refine W.eq (g2 := F0 m 75 ls [.int (nI (i + 1))]) (by first | (rw [show (1 : Int32) = nI 1 from rfl, nI_add]; done) | (rw [show (1 : Int32) = nI 1 from rfl, nI_add]; rfl)) ?_
              refine lv_istore_n (lv' := [(1, .int (nI (i + 1))), (2, .int (nI (D i))), (0, .ref (u 9))]) hx hb dL_isWhole_75 rfl hl (by decide) rfl (fun ls hl => ?_)
              refine lv_goto (tgt := 2) hx hb dL_isWhole_76 (by decide) ?_
              have hl2 := lv_sub (l' := [(0, .ref (u 9)), (1, .int (nI (i + 1)))]) hl [2, 0] rfl
              exact ih (i + 1) (by omega) (by omega) (sTx_1 hX hilt hg hd5 hd6) ls hl2
            · skip
              exact absurd ((nI_eq (b := 5) (by have := hD8 i; omega) (by omega)).mp zc_5) hd5
          · skip
            have hd5 : D i = 5 := (nI_eq (b := 5) (by have := hD8 i; omega) (by omega)).mp zc_4
            refine lv_iload_n hx hb dL_isWhole_33 rfl (lv_at hl 2 rfl) ?_
            refine lv_iconst (v := 1) hx hb dL_isWhole_34 (by decide) ?_
            refine lv_iadd hx hb dL_isWhole_35 ?_
            refine W.eq (g2 := F0 m 36 ls [.int (nI (i + 1))]) (by first | (rw [nI_1]; done) | (rw [nI_1]; rfl)) ?_
            refine lv_aload_n hx hb dL_isWhole_36 rfl (lv_at hl 1 rfl) ?_
            refine lv_bipush (v := 8) hx hb dL_isWhole_37 (by decide) ?_
            refine va_iald hx hb hK hP 9 0 rfl rfl (vp_in_nI (n := 8) (by decide) (by decide)) dL_isWhole_39 ?_
            refine W.eq (g2 := F0 m 40 ls [.int (nI (N 4)), .int (nI (i + 1))]) (by rw [show (F 9) (8 : Int32).toNatClampNeg = nI (N 4) from hx8]) ?_
            refine lv_icmp_eq (tgt := 61) hx hb dL_isWhole_40 (by decide) (fun zc_6 => ?_) (fun zc_6 => ?_)
            · skip
              have hd1 : i + 1 = N 4 := (nI_eq (by omega) (by omega)).mp zc_6
              refine lv_iconst (v := 0) hx hb dL_isWhole_61 (by decide) ?_
              exact W.zret (v := 0) hx hb hr rfl (fun t ht hW => ⟨0, rfl, (by rw [sTx_n5 hX hd1 hg hd5]; rfl), ht⟩) (fun _ h => nomatch h) dL_isWhole_62
            · skip
              have hd1 : i + 1 < N 4 := by have hz7 : ¬ i + 1 = N 4 := fun z9 => zc_6 (by rw [z9]); omega
              refine lv_aload_n hx hb dL_isWhole_43 rfl (lv_at hl 1 rfl) ?_
              refine lv_bipush (v := 9) hx hb dL_isWhole_44 (by decide) ?_
              refine va_iald hx hb hK hP 9 0 rfl rfl (vp_in_nI (n := 9) (by decide) (by decide)) dL_isWhole_46 ?_
              refine W.eq (g2 := F0 m 47 ls [.int ((F 9) 9)]) (by rw [show (F 9) (9 : Int32).toNatClampNeg = (F 9) 9 from rfl]) ?_
              refine lv_iconst (v := 3) hx hb dL_isWhole_47 (by decide) ?_
              refine lv_iload_n hx hb dL_isWhole_48 rfl (lv_at hl 2 rfl) ?_
              refine lv_imul hx hb dL_isWhole_49 ?_
              refine lv_iconst (v := 3) hx hb dL_isWhole_50 (by decide) ?_
              refine lv_iadd hx hb dL_isWhole_51 ?_
              refine lv_ishr hx hb dL_isWhole_52 ?_
              refine lv_bipush (v := 7) hx hb dL_isWhole_53 (by decide) ?_
              refine lv_iand hx hb dL_isWhole_55 ?_
              refine W.eq (g2 := F0 m 56 ls [.int (nI (D (i + 1)))]) (by first | (rw [sP8_at1 hx9 hD8 hd1 hn4]; done) | (rw [sP8_at1 hx9 hD8 hd1 hn4]; rfl)) ?_
              refine lv_bipush (v := 6) hx hb dL_isWhole_56 (by decide) ?_
              refine lv_icmp_eq (tgt := 63) hx hb dL_isWhole_58 (by decide) (fun zc_7 => ?_) (fun zc_7 => ?_)
              · skip
                have hd66 : D (i + 1) = 6 := (nI_eq (b := 6) (by have := hD8 (i + 1); omega) (by omega)).mp zc_7
                refine lv_iload_n hx hb dL_isWhole_63 rfl (lv_at hl 2 rfl) ?_
                refine lv_iload_n hx hb dL_isWhole_64 rfl (lv_at hl 0 rfl) ?_
                refine lv_iconst (v := 5) hx hb dL_isWhole_65 (by decide) ?_
                refine lv_icmp_ne (tgt := 73) hx hb dL_isWhole_66 (by decide) (fun zc_8 => ?_) (fun zc_8 => ?_)
                · skip
                  exact absurd hd5 (fun z9 => zc_8 (by rw [z9]; rfl))
                · skip
                  refine lv_iconst (v := 2) hx hb dL_isWhole_69 (by decide) ?_
                  refine lv_goto (tgt := 74) hx hb dL_isWhole_70 (by decide) ?_
                  refine lv_iadd hx hb dL_isWhole_74 ?_
                  refine W.eq (g2 := F0 m 75 ls [.int (nI (i + 2))]) (by first | (rw [show (2 : Int32) = nI 2 from rfl, nI_add]; done) | (rw [show (2 : Int32) = nI 2 from rfl, nI_add]; rfl)) ?_
                  refine lv_istore_n (lv' := [(1, .int (nI (i + 2))), (2, .int (nI (D i))), (0, .ref (u 9))]) hx hb dL_isWhole_75 rfl hl (by decide) rfl (fun ls hl => ?_)
                  refine lv_goto (tgt := 2) hx hb dL_isWhole_76 (by decide) ?_
                  have hl2 := lv_sub (l' := [(0, .ref (u 9)), (1, .int (nI (i + 2)))]) hl [2, 0] rfl
                  exact ih (i + 2) (by omega) (by omega) (sTx_2 hX hd1 hg hd5 hd66) ls hl2
              · skip
                have hd66 : ¬ D (i + 1) = 6 := fun z9 => zc_7 (by rw [z9]; rfl)
                refine lv_iconst (v := 0) hx hb dL_isWhole_61 (by decide) ?_
                exact W.zret (v := 0) hx hb hr rfl (fun t ht hW => ⟨0, rfl, (by rw [sTx_n56 hX hd1 hg hd5 hd66]; rfl), ht⟩) (fun _ h => nomatch h) dL_isWhole_62
  exact key_2 (N 4 + 1) 0 (Nat.zero_le _) (by omega) ⟨rfl, rfl⟩ ls (lv_sub hl [1, 0] rfl)

set_option maxHeartbeats 4000000 in
set_option maxRecDepth 100000 in
theorem c_L_sign (l : Launch) (G : zG) (a1 : Int32) (pp : Nat) (D : Nat → Nat) (tq : Nat → Int32) (ln : Nat) (ha1 : a1 = nI (ln + 16 * sP8 D ln)) (hX : sTx D tq ln) (hn9 : ln ≤ 9) (hGd : sGood tq ln = true) (hp9 : pp < 2 ^ 30) : Met l yL_sign wsL_sign ({ frames := 1, cells := 0, slots := 0, locals := 20 }) (va_Pc [.int a1, .int (nI pp)] (zPp G ([] : va_W))) (zQi (fun r : Int32 => r = sSx tq ln pp)) 0 0 (fun _ => False) := by
  refine Met.ofW (cc := cL_sign) (maxL := 5) (ret := (some .int)) (by decide) rfl ?_
  intro p e s m args below meth c s₁ B hml hv
  obtain ⟨rfl, hP, hK⟩ := hv
  have hx := B.exec
  have hb := B.bytes
  have hr := B.returns
  have hts := atoms_spec (ws := wsL_sign) B.pre
  have hown : s.vm.findClass RL = some m.cls := findClass_of_methodNamed B.named
  have hlocks := B.notSynchronized
  have hl := lv_entry ([.int a1, .int (nI pp)]) (n := 5) (Nat.le_of_ble_eq_true rfl)
  rw [lg_entry_eq]
  generalize (lg_sl ([.int a1, .int (nI pp)]) ++ List.replicate (5 - (lg_sl ([.int a1, .int (nI pp)])).length) Slot.unset).toArray = ls at hl ⊢
  have hl : lv_has ls 5 [(0, .int a1), (1, .int (nI pp))] := hl
  have hD8 := hX.1
  refine lv_iconst (v := 0) hx hb dL_sign_0 (by decide) ?_
  refine lv_istore_n (lv' := [(2, .int 0), (0, .int a1), (1, .int (nI pp))]) hx hb dL_sign_1 rfl hl (by decide) rfl (fun ls hl => ?_)
  refine lv_iconst (v := 0) hx hb dL_sign_2 (by decide) ?_
  refine lv_istore_n (lv' := [(3, .int 0), (2, .int 0), (0, .int a1), (1, .int (nI pp))]) hx hb dL_sign_3 rfl hl (by decide) rfl (fun ls hl => ?_)
  have key_4 : ∀ (n i : Nat), i ≤ ln → ln < i + n → (sW tq i = false) → (sLen tq i ≤ pp) → ∀ ls : Array Slot, lv_has ls 5 [(0, .int a1), (1, .int (nI pp)), (2, .int (nI i)), (3, .int (nI (sLen tq i)))] → W p l e (headSpec wsL_sign ({ frames := 1, cells := 0, slots := 0, locals := 20 })).room s m ([.int a1, .int (nI pp)] : List Value).toArray below meth c s.heap [] 0 0 (MQ below (zQi (fun r : Int32 => r = sSx tq ln pp)) ([.int a1, .int (nI pp)] : List Value).toArray s 0 0 (fun _ => False)) (F0 m 4 ls []) := by
    intro n
    induction n with
    | zero => intro i h1 h2; exact absurd h2 (by omega)
    | succ n ih =>
      intro i hi hn hw hle ls hl
      refine lv_iload_n hx hb dL_sign_4 rfl (lv_at hl 2 rfl) ?_
      refine lv_iload_n hx hb dL_sign_5 rfl (lv_at hl 0 rfl) ?_
      refine lv_bipush (v := 15) hx hb dL_sign_6 (by decide) ?_
      refine lv_iand hx hb dL_sign_8 ?_
      refine W.eq (g2 := F0 m 9 ls [.int (nI ln), .int (nI i)]) (by first | (rw [sP8_len ha1 hD8 hn9]; done) | (rw [sP8_len ha1 hD8 hn9]; rfl)) ?_
      refine lv_icmp_ge (tgt := 66) hx hb dL_sign_9 (by decide) (fun zc_1 => ?_) (fun zc_1 => ?_)
      · skip
        have zd_1 := Int32.not_lt.mpr zc_1
        have zhc := (nI_leI (by omega) (by omega)).mp zc_1
        have zie := Nat.le_antisymm hi zhc
        subst zie
        refine lv_iconst (v := (-1)) hx hb dL_sign_66 (by decide) ?_
        exact W.iret (v := (-1)) hx hb hr (fun t ht hW => ⟨(-1), rfl, (by rw [sSx, if_neg (by omega)]), ht⟩) (fun _ h => nomatch h) dL_sign_67
      · skip
        have zd_1 := Int32.not_le.mp zc_1
        have zhc := Nat.lt_of_not_le (fun z => zc_1 ((nI_leI (by omega) (by omega)).mpr z))
        have hilt : i < ln := zhc
        refine lv_iload_n hx hb dL_sign_12 rfl (lv_at hl 0 rfl) ?_
        refine lv_iconst (v := 4) hx hb dL_sign_13 (by decide) ?_
        refine lv_iconst (v := 3) hx hb dL_sign_14 (by decide) ?_
        refine lv_iload_n hx hb dL_sign_15 rfl (lv_at hl 2 rfl) ?_
        refine lv_imul hx hb dL_sign_16 ?_
        refine lv_iadd hx hb dL_sign_17 ?_
        refine lv_ishr hx hb dL_sign_18 ?_
        refine lv_bipush (v := 7) hx hb dL_sign_19 (by decide) ?_
        refine lv_iand hx hb dL_sign_21 ?_
        refine W.eq (g2 := F0 m 22 ls [.int (nI (D i))]) (by first | (rw [sP8_sg ha1 hD8 (by omega) hn9]; done) | (rw [sP8_sg ha1 hD8 (by omega) hn9]; rfl)) ?_
        refine lv_istore (lv' := [(4, .int (nI (D i))), (0, .int a1), (1, .int (nI pp)), (2, .int (nI i)), (3, .int (nI (sLen tq i)))]) hx hb dL_sign_22 hl (by decide) rfl (fun ls hl => ?_)
        refine lv_iload_n hx hb dL_sign_24 rfl (lv_at hl 4 rfl) ?_
        refine lv_iload_n hx hb dL_sign_25 rfl (lv_at hl 2 rfl) ?_
        refine lv_icmp_ne (tgt := 46) hx hb dL_sign_26 (by decide) (fun zc_2 => ?_) (fun zc_2 => ?_)
        · skip
          have hpn : ¬ sLen tq i = pp := fun z9 => zc_2 (by rw [z9])
          refine lv_iload_n hx hb dL_sign_46 rfl (lv_at hl 3 rfl) ?_
          refine lv_iload hx hb dL_sign_47 (lv_at hl 0 rfl) ?_
          refine lv_iconst (v := 5) hx hb dL_sign_49 (by decide) ?_
          refine lv_icmp_ne (tgt := 57) hx hb dL_sign_50 (by decide) (fun zc_3 => ?_) (fun zc_3 => ?_)
          · skip
            have hd5 : ¬ D i = 5 := fun z9 => zc_3 (by rw [z9]; rfl)
            refine lv_iconst (v := 1) hx hb dL_sign_57 (by decide) ?_
            refine lv_iadd hx hb dL_sign_58 ?_
            refine W.eq (g2 := F0 m 59 ls [.int (nI (i + 1))]) (by first | (rw [show (1 : Int32) = nI 1 from rfl, nI_add]; done) | (rw [show (1 : Int32) = nI 1 from rfl, nI_add]; rfl)) ?_
            refine lv_istore_n (lv' := [(2, .int (nI (i + 1))), (4, .int (nI (D i))), (0, .int a1), (1, .int (nI pp)), (3, .int (nI (sLen tq i)))]) hx hb dL_sign_59 rfl hl (by decide) rfl (fun ls hl => ?_)
            refine lv_iinc (v := (nI (sLen tq i + 1))) (lv' := [(3, .int (nI (sLen tq i + 1))), (2, .int (nI (i + 1))), (4, .int (nI (D i))), (0, .int a1), (1, .int (nI pp))]) hx hb dL_sign_60 hl (k := 4) rfl (by first | exact nI_1 _ | rfl) (by decide) rfl (fun ls hl => ?_)
            refine lv_goto (tgt := 4) hx hb dL_sign_63 (by decide) ?_
            have hl2 := lv_sub (l' := [(0, .int a1), (1, .int (nI pp)), (2, .int (nI (i + 1))), (3, .int (nI (sLen tq i + 1)))]) hl [3, 4, 1, 0] rfl
            have e_3 : nI (sLen tq i + 1) = nI (sLen tq (i + 1)) := by rw [(sSx_1 hX hilt hw hd5).1]
            rw [e_3] at hl2
            exact ih (i + 1) (by omega) (by omega) (sW_1 hX hilt hd5) (by have hz6 := (sSx_1 hX hilt hw hd5).1; omega) ls hl2
          · skip
            have hd5 : D i = 5 := (nI_eq (b := 5) (by have := hD8 i; omega) (by omega)).mp zc_3
            have hok := (sTx_ok hX hGd hilt hw).2 hd5
            refine lv_iconst (v := 2) hx hb dL_sign_53 (by decide) ?_
            refine lv_goto (tgt := 58) hx hb dL_sign_54 (by decide) ?_
            refine lv_iadd hx hb dL_sign_58 ?_
            refine W.eq (g2 := F0 m 59 ls [.int (nI (i + 2))]) (by first | (rw [show (2 : Int32) = nI 2 from rfl, nI_add]; done) | (rw [show (2 : Int32) = nI 2 from rfl, nI_add]; rfl)) ?_
            refine lv_istore_n (lv' := [(2, .int (nI (i + 2))), (4, .int (nI (D i))), (0, .int a1), (1, .int (nI pp)), (3, .int (nI (sLen tq i)))]) hx hb dL_sign_59 rfl hl (by decide) rfl (fun ls hl => ?_)
            refine lv_iinc (v := (nI (sLen tq i + 1))) (lv' := [(3, .int (nI (sLen tq i + 1))), (2, .int (nI (i + 2))), (4, .int (nI (D i))), (0, .int a1), (1, .int (nI pp))]) hx hb dL_sign_60 hl (k := 4) rfl (by first | exact nI_1 _ | rfl) (by decide) rfl (fun ls hl => ?_)
            refine lv_goto (tgt := 4) hx hb dL_sign_63 (by decide) ?_
            have hl2 := lv_sub (l' := [(0, .int a1), (1, .int (nI pp)), (2, .int (nI (i + 2))), (3, .int (nI (sLen tq i + 1)))]) hl [3, 4, 1, 0] rfl
            have e_3 : nI (sLen tq i + 1) = nI (sLen tq (i + 2)) := by rw [(sSx_2 hX hok.1 hd5 hok.2).1]
            rw [e_3] at hl2
            exact ih (i + 2) (by omega) (by omega) (by rw [sW, hX.2 _ hok.1, zLt_hi (hD8 _), hok.2]; rfl) (by have hz6 := (sSx_2 hX hok.1 hd5 hok.2).1; omega) ls hl2
        · skip
          have hpe : sLen tq i = pp := (nI_eq (by omega) (by omega)).mp zc_2
          refine lv_iload hx hb dL_sign_29 (lv_at hl 0 rfl) ?_
          refine lv_iconst (v := 5) hx hb dL_sign_31 (by decide) ?_
          refine lv_icmp_ne (tgt := 40) hx hb dL_sign_32 (by decide) (fun zc_4 => ?_) (fun zc_4 => ?_)
          · skip
            have hd5 : ¬ D i = 5 := fun z9 => zc_4 (by rw [z9]; rfl)
            refine lv_iload hx hb dL_sign_40 (lv_at hl 0 rfl) ?_
            refine z_csi (va_Run.run (va_runS (As := [.int (nI (D i))]) (rest := []) ⟨hx, hb, hml, hown, hts⟩ (c_L_letter l G (D i) (hD8 i)) (va_cwS 1 hts gL_sign_L_letter rfl rfl rfl (by decide +kernel) ⟨Nat.le_of_ble_eq_true rfl, Nat.le_of_ble_eq_true rfl⟩) (z_ps hK z_none) rfl rfl hl.1 rfl (lv_room (Nat.le_of_ble_eq_true rfl)) dL_sign_42 ⟨(Nat.zero_le _), (Nat.zero_le _)⟩)) (fun zr_5 hzr_5 => ?_)
            subst hzr_5
            exact W.iret (v := zLt (D i)) hx hb hr (fun t ht hW => ⟨zLt (D i), rfl, (by rw [← hpe]; exact (sSx_1 hX hilt hw hd5).2.symm), ht⟩) (fun _ h => nomatch h) dL_sign_45
          · skip
            have hd5 : D i = 5 := (nI_eq (b := 5) (by have := hD8 i; omega) (by omega)).mp zc_4
            have hok := (sTx_ok hX hGd hilt hw).2 hd5
            refine lv_ldc (v := 128512) hx hb hown (hts _ (List.mem_of_getElem? (i := 1) rfl)) dL_sign_35 ?_
            refine lv_goto (tgt := 45) hx hb dL_sign_37 (by decide) ?_
            exact W.iret (v := 128512) hx hb hr (fun t ht hW => ⟨128512, rfl, (by rw [← hpe]; exact (sSx_2 hX hok.1 hd5 hok.2).2.symm), ht⟩) (fun _ h => nomatch h) dL_sign_45
  exact key_4 (ln + 1) 0 (Nat.zero_le _) (by omega) rfl (Nat.zero_le _) ls (lv_sub hl [2, 3, 1, 0] rfl)
