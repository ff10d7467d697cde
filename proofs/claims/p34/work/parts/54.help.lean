set_option maxHeartbeats 4000000 in
set_option maxRecDepth 100000 in
theorem c_L_note (l : Launch) (G : zG) (u : Nat → Nat) (E : Nat → Int64) (F : Nat → Nat → Int32) (c : Nat → Int32) (n : Nat) (h : Nat) (a1 : Int32) (a2 : Int32) (a3 : Int32) (sz : Nat) (hRE : sRE E c n) (hn : n < 128) (hq0 : F 9 0 = nI h) (hq1 : F 9 1 = nI n) (h0 : h ≤ 2000) (hk : ∃ k : Nat, k ≤ 6 ∧ a1 = nI k) (hw : ∃ w : Nat, w ≤ 9 ∧ a2 + 1 = nI w) (hx9 : ∃ x : Nat, x < 100 ∧ a3 = nI x) : Met l yL_note wsL_note ({ frames := 0, cells := 0, slots := 0, locals := 0 }) (va_Pc [.ref (u 0), .ref (u 9), .int a1, .int a2, .int a3] (zPu G (LW G u E F) sz)) (va_Qv (fun w1 : va_W => ∃ E1 : Nat → Int64, w1 = LW G u E1 (va_up F 9 (upd (F 9) 1 (nI (n + 1)))) ∧ sRE E1 (upd c n (sCode h a1 a2 a3)) (n + 1)) (zB G (va_A (LW G u E F) sz)) (va_A (LW G u E F) sz)) 0 0 (va_A (LW G u E F) sz) := by
  refine Met.ofW (cc := cL_note) (maxL := 7) (ret := none) (by decide) rfl ?_
  intro p e s m args below meth c s₁ B hml hv
  obtain ⟨rfl, hsz, hP, hK, hD0⟩ := hv
  have hx := B.exec
  have hb := B.bytes
  have hr := B.returns
  have hts := atoms_spec (ws := wsL_note) B.pre
  have hown : s.vm.findClass RL = some m.cls := findClass_of_methodNamed B.named
  have hlocks := B.notSynchronized
  subst hsz
  have hD := hD0.self (sz := s.heap.size)
  generalize hAe : va_A (LW G u E F) s.heap.size = A at hD ⊢
  have hA : ∀ q : Nat, s.heap.size ≤ q → A q := fun q h => by rw [← hAe]; exact Or.inr h
  have hS : va_S A s.heap s.heap [] := va_S.rf
  have hP : va_P G.1 vwCl [(u 0, .inl (G.2 1, 64, .inr (.inl E))), (u 1, .inl (G.2 0, 8, .inl (F 1))), (u 2, .inl (G.2 0, 3, .inl (F 2))), (u 3, .inl (G.2 0, 3, .inl (F 3))), (u 4, .inl (G.2 0, 40, .inl (F 4))), (u 5, .inl (G.2 0, 40, .inl (F 5))), (u 6, .inl (G.2 0, 9, .inl (F 6))), (u 7, .inl (G.2 0, 12, .inl (F 7))), (u 8, .inl (G.2 0, 12, .inl (F 8))), (u 9, .inl (G.2 0, 10, .inl (F 9)))] s.heap := hP
  have hD : va_D A [(u 0, .inl (G.2 1, 64, .inr (.inl E))), (u 1, .inl (G.2 0, 8, .inl (F 1))), (u 2, .inl (G.2 0, 3, .inl (F 2))), (u 3, .inl (G.2 0, 3, .inl (F 3))), (u 4, .inl (G.2 0, 40, .inl (F 4))), (u 5, .inl (G.2 0, 40, .inl (F 5))), (u 6, .inl (G.2 0, 9, .inl (F 6))), (u 7, .inl (G.2 0, 12, .inl (F 7))), (u 8, .inl (G.2 0, 12, .inl (F 8))), (u 9, .inl (G.2 0, 10, .inl (F 9)))] := hD
  have hl := lv_entry ([.ref (u 0), .ref (u 9), .int a1, .int a2, .int a3]) (n := 7) (Nat.le_of_ble_eq_true rfl)
  rw [lg_entry_eq]
  generalize (lg_sl ([.ref (u 0), .ref (u 9), .int a1, .int a2, .int a3]) ++ List.replicate (7 - (lg_sl ([.ref (u 0), .ref (u 9), .int a1, .int a2, .int a3])).length) Slot.unset).toArray = ls at hl ⊢
  have hl : lv_has ls 7 [(0, .ref (u 0)), (1, .ref (u 9)), (2, .int a1), (3, .int a2), (4, .int a3)] := hl
  obtain ⟨k1, hk6, ek⟩ := hk
  obtain ⟨w1, hw9, ew⟩ := hw
  obtain ⟨x1, hx1, zex⟩ := hx9
  refine lv_ldc2 (v := 10000) hx hb hown (hts _ (List.mem_of_getElem? (i := 1) rfl)) dL_note_0 ?_
  refine lv_aload_n hx hb dL_note_3 rfl (lv_at hl 1 rfl) ?_
  refine lv_iconst (v := 0) hx hb dL_note_4 (by decide) ?_
  refine va_iald hx hb hK hP 9 0 rfl rfl (vp_in_nI (n := 0) (by decide) (by decide)) dL_note_5 ?_
  refine W.eq (g2 := F0 m 6 ls [.int (nI h), .long 10000]) (by rw [show (F 9) (0 : Int32).toNatClampNeg = nI h from hq0]) ?_
  refine lv_i2l (v := (nI h).toInt64) hx hb dL_note_6 rfl ?_
  refine lv_lmul hx hb dL_note_7 ?_
  refine lv_sipush (v := 1000) hx hb dL_note_8 (by decide) ?_
  refine lv_iload_n hx hb dL_note_11 rfl (lv_at hl 2 rfl) ?_
  refine lv_imul hx hb dL_note_12 ?_
  refine lv_i2l (v := (1000 * a1).toInt64) hx hb dL_note_13 rfl ?_
  refine lv_ladd hx hb dL_note_14 ?_
  refine lv_bipush (v := 100) hx hb dL_note_15 (by decide) ?_
  refine lv_iload_n hx hb dL_note_17 rfl (lv_at hl 3 rfl) ?_
  refine lv_iconst (v := 1) hx hb dL_note_18 (by decide) ?_
  refine lv_iadd hx hb dL_note_19 ?_
  refine lv_imul hx hb dL_note_20 ?_
  refine lv_i2l (v := (100 * (a2 + 1)).toInt64) hx hb dL_note_21 rfl ?_
  refine lv_ladd hx hb dL_note_22 ?_
  refine lv_iload hx hb dL_note_23 (lv_at hl 4 rfl) ?_
  refine lv_i2l (v := a3.toInt64) hx hb dL_note_25 rfl ?_
  refine lv_ladd hx hb dL_note_26 ?_
  refine W.eq (g2 := F0 m 27 ls [.long (lN (10000 * h + 1000 * k1 + 100 * w1 + x1))]) (by first | (rw [zIts h0 hk6 ek hw9 ew hx1 zex]; done) | (rw [zIts h0 hk6 ek hw9 ew hx1 zex]; rfl)) ?_
  refine lv_lstore (lv' := [(5, .long (lN (10000 * h + 1000 * k1 + 100 * w1 + x1))), (0, .ref (u 0)), (1, .ref (u 9)), (2, .int a1), (3, .int a2), (4, .int a3)]) hx hb dL_note_27 hl (by decide) rfl (fun ls hl => ?_)
  refine lv_aload_n hx hb dL_note_29 rfl (lv_at hl 1 rfl) ?_
  refine lv_aload_n hx hb dL_note_30 rfl (lv_at hl 2 rfl) ?_
  refine lv_iconst (v := 1) hx hb dL_note_31 (by decide) ?_
  refine va_iald hx hb hK hP 9 0 rfl rfl (vp_in_nI (n := 1) (by decide) (by decide)) dL_note_32 ?_
  refine W.eq (g2 := F0 m 33 ls [.int (nI n), .ref (u 0)]) (by rw [show (F 9) (1 : Int32).toNatClampNeg = nI n from hq1]) ?_
  refine lv_iconst (v := 2) hx hb dL_note_33 (by decide) ?_
  refine lv_idiv hx hb dL_note_34 (by decide) ?_
  refine W.eq (g2 := F0 m 35 ls [.int (nI (n / 2)), .ref (u 0)]) (by first | (rw [zDiv2 (by omega)]; done) | (rw [zDiv2 (by omega)]; rfl)) ?_
  refine lv_aload_n hx hb dL_note_35 rfl (lv_at hl 2 rfl) ?_
  refine lv_iconst (v := 1) hx hb dL_note_36 (by decide) ?_
  refine va_iald hx hb hK hP 9 0 rfl rfl (vp_in_nI (n := 1) (by decide) (by decide)) dL_note_37 ?_
  refine W.eq (g2 := F0 m 38 ls [.int (nI n), .int (nI (n / 2)), .ref (u 0)]) (by rw [show (F 9) (1 : Int32).toNatClampNeg = nI n from hq1]) ?_
  refine lv_iconst (v := 2) hx hb dL_note_38 (by decide) ?_
  refine lv_irem hx hb dL_note_39 (by decide) ?_
  refine W.eq (g2 := F0 m 40 ls [.int (nI (n % 2)), .int (nI (n / 2)), .ref (u 0)]) (by first | (rw [zRem2 (by omega)]; done) | (rw [zRem2 (by omega)]; rfl)) ?_
  refine lv_if_ne (tgt := 48) hx hb dL_note_40 (by decide) (fun zc_1 => ?_) (fun zc_1 => ?_)
  · skip
    have hev := zE1 zc_1
    refine lv_aload_n hx hb dL_note_48 rfl (lv_at hl 1 rfl) ?_
    refine lv_aload_n hx hb dL_note_49 rfl (lv_at hl 2 rfl) ?_
    refine lv_iconst (v := 1) hx hb dL_note_50 (by decide) ?_
    refine va_iald hx hb hK hP 9 0 rfl rfl (vp_in_nI (n := 1) (by decide) (by decide)) dL_note_51 ?_
    refine W.eq (g2 := F0 m 52 ls [.int (nI n), .ref (u 0), .int (nI (n / 2)), .ref (u 0)]) (by rw [show (F 9) (1 : Int32).toNatClampNeg = nI n from hq1]) ?_
    refine lv_iconst (v := 2) hx hb dL_note_52 (by decide) ?_
    refine lv_idiv hx hb dL_note_53 (by decide) ?_
    refine W.eq (g2 := F0 m 54 ls [.int (nI (n / 2)), .ref (u 0), .int (nI (n / 2)), .ref (u 0)]) (by first | (rw [zDiv2 (by omega)]; done) | (rw [zDiv2 (by omega)]; rfl)) ?_
    refine va_lald hx hb hK hP 0 1 rfl rfl (vp_in_nI (by omega) (by omega)) dL_note_54 ?_
    rw [nI_clamp (by omega)]
    refine lv_lload hx hb dL_note_55 (lv_at hl 0 rfl) ?_
    refine lv_bipush (v := 32) hx hb dL_note_57 (by decide) ?_
    refine lv_lshl (v := (lN (10000 * h + 1000 * k1 + 100 * w1 + x1)) <<< ((32 : Int32).toInt64 &&& 63)) hx hb dL_note_59 rfl ?_
    refine lv_lor hx hb dL_note_60 ?_
    refine va_last hx hb hK hP hD hS 0 1 rfl rfl (vp_in_nI (by omega) (by omega)) dL_note_61 (fun Hz Lz hP hD hS => ?_)
    rw [nI_clamp (by omega)] at hP hD
    have hP : va_P G.1 vwCl [(u 0, .inl (G.2 1, 64, .inr (.inl (vp_updL E (n / 2) ((E (n / 2)) ||| ((lN (10000 * h + 1000 * k1 + 100 * w1 + x1)) <<< ((32 : Int32).toInt64 &&& 63))))))), (u 1, .inl (G.2 0, 8, .inl (F 1))), (u 2, .inl (G.2 0, 3, .inl (F 2))), (u 3, .inl (G.2 0, 3, .inl (F 3))), (u 4, .inl (G.2 0, 40, .inl (F 4))), (u 5, .inl (G.2 0, 40, .inl (F 5))), (u 6, .inl (G.2 0, 9, .inl (F 6))), (u 7, .inl (G.2 0, 12, .inl (F 7))), (u 8, .inl (G.2 0, 12, .inl (F 8))), (u 9, .inl (G.2 0, 10, .inl (F 9)))] Hz := hP
    have hD : va_D A [(u 0, .inl (G.2 1, 64, .inr (.inl (vp_updL E (n / 2) ((E (n / 2)) ||| ((lN (10000 * h + 1000 * k1 + 100 * w1 + x1)) <<< ((32 : Int32).toInt64 &&& 63))))))), (u 1, .inl (G.2 0, 8, .inl (F 1))), (u 2, .inl (G.2 0, 3, .inl (F 2))), (u 3, .inl (G.2 0, 3, .inl (F 3))), (u 4, .inl (G.2 0, 40, .inl (F 4))), (u 5, .inl (G.2 0, 40, .inl (F 5))), (u 6, .inl (G.2 0, 9, .inl (F 6))), (u 7, .inl (G.2 0, 12, .inl (F 7))), (u 8, .inl (G.2 0, 12, .inl (F 8))), (u 9, .inl (G.2 0, 10, .inl (F 9)))] := hD
    refine lv_aload_n hx hb dL_note_62 rfl (lv_at hl 2 rfl) ?_
    refine lv_iconst (v := 1) hx hb dL_note_63 (by decide) ?_
    refine lv_dup2_11 hx hb dL_note_64 rfl rfl ?_
    refine va_iald hx hb hK hP 9 0 rfl rfl (vp_in_nI (n := 1) (by decide) (by decide)) dL_note_65 ?_
    refine W.eq (g2 := F0 m 66 ls [.int (nI n), .int 1, .ref (u 9)]) (by rw [show (F 9) (1 : Int32).toNatClampNeg = nI n from hq1]) ?_
    refine lv_iconst (v := 1) hx hb dL_note_66 (by decide) ?_
    refine lv_iadd hx hb dL_note_67 ?_
    refine W.eq (g2 := F0 m 68 ls [.int (nI (n + 1)), .int 1, .ref (u 9)]) (by first | (rw [nI_1]; done) | (rw [nI_1]; rfl)) ?_
    refine va_iast hx hb hK hP hD hS 9 0 rfl rfl (vp_in_nI (n := 1) (by decide) (by decide)) dL_note_68 (fun Hz Lz hP hD hS => ?_)
    have hP : va_P G.1 vwCl [(u 0, .inl (G.2 1, 64, .inr (.inl (vp_updL E (n / 2) ((E (n / 2)) ||| ((lN (10000 * h + 1000 * k1 + 100 * w1 + x1)) <<< ((32 : Int32).toInt64 &&& 63))))))), (u 1, .inl (G.2 0, 8, .inl (F 1))), (u 2, .inl (G.2 0, 3, .inl (F 2))), (u 3, .inl (G.2 0, 3, .inl (F 3))), (u 4, .inl (G.2 0, 40, .inl (F 4))), (u 5, .inl (G.2 0, 40, .inl (F 5))), (u 6, .inl (G.2 0, 9, .inl (F 6))), (u 7, .inl (G.2 0, 12, .inl (F 7))), (u 8, .inl (G.2 0, 12, .inl (F 8))), (u 9, .inl (G.2 0, 10, .inl (upd (F 9) 1 (nI (n + 1)))))] Hz := hP
    have hD : va_D A [(u 0, .inl (G.2 1, 64, .inr (.inl (vp_updL E (n / 2) ((E (n / 2)) ||| ((lN (10000 * h + 1000 * k1 + 100 * w1 + x1)) <<< ((32 : Int32).toInt64 &&& 63))))))), (u 1, .inl (G.2 0, 8, .inl (F 1))), (u 2, .inl (G.2 0, 3, .inl (F 2))), (u 3, .inl (G.2 0, 3, .inl (F 3))), (u 4, .inl (G.2 0, 40, .inl (F 4))), (u 5, .inl (G.2 0, 40, .inl (F 5))), (u 6, .inl (G.2 0, 9, .inl (F 6))), (u 7, .inl (G.2 0, 12, .inl (F 7))), (u 8, .inl (G.2 0, 12, .inl (F 8))), (u 9, .inl (G.2 0, 10, .inl (upd (F 9) 1 (nI (n + 1)))))] := hD
    exact W.vret hx hb hr (fun t ht hW => ⟨⟨[(u 0, .inl (G.2 1, 64, .inr (.inl (vp_updL E (n / 2) ((E (n / 2)) ||| ((lN (10000 * h + 1000 * k1 + 100 * w1 + x1)) <<< ((32 : Int32).toInt64 &&& 63))))))), (u 1, .inl (G.2 0, 8, .inl (F 1))), (u 2, .inl (G.2 0, 3, .inl (F 2))), (u 3, .inl (G.2 0, 3, .inl (F 3))), (u 4, .inl (G.2 0, 40, .inl (F 4))), (u 5, .inl (G.2 0, 40, .inl (F 5))), (u 6, .inl (G.2 0, 9, .inl (F 6))), (u 7, .inl (G.2 0, 12, .inl (F 7))), (u 8, .inl (G.2 0, 12, .inl (F 8))), (u 9, .inl (G.2 0, 10, .inl (upd (F 9) 1 (nI (n + 1)))))], rfl, ⟨_, rfl, by rw [zCode ek ew zex]; exact sRE_odd hRE (by omega) hev⟩, ⟨by rw [ht]; exact hP, hD⟩⟩, hS.F ht⟩) hS.2.2 dL_note_69
  · skip
    have hev := zE0 zc_1
    refine lv_lload hx hb dL_note_43 (lv_at hl 0 rfl) ?_
    refine lv_goto (tgt := 61) hx hb dL_note_45 (by decide) ?_
    refine va_last hx hb hK hP hD hS 0 1 rfl rfl (vp_in_nI (by omega) (by omega)) dL_note_61 (fun Hz Lz hP hD hS => ?_)
    rw [nI_clamp (by omega)] at hP hD
    have hP : va_P G.1 vwCl [(u 0, .inl (G.2 1, 64, .inr (.inl (vp_updL E (n / 2) (lN (10000 * h + 1000 * k1 + 100 * w1 + x1)))))), (u 1, .inl (G.2 0, 8, .inl (F 1))), (u 2, .inl (G.2 0, 3, .inl (F 2))), (u 3, .inl (G.2 0, 3, .inl (F 3))), (u 4, .inl (G.2 0, 40, .inl (F 4))), (u 5, .inl (G.2 0, 40, .inl (F 5))), (u 6, .inl (G.2 0, 9, .inl (F 6))), (u 7, .inl (G.2 0, 12, .inl (F 7))), (u 8, .inl (G.2 0, 12, .inl (F 8))), (u 9, .inl (G.2 0, 10, .inl (F 9)))] Hz := hP
    have hD : va_D A [(u 0, .inl (G.2 1, 64, .inr (.inl (vp_updL E (n / 2) (lN (10000 * h + 1000 * k1 + 100 * w1 + x1)))))), (u 1, .inl (G.2 0, 8, .inl (F 1))), (u 2, .inl (G.2 0, 3, .inl (F 2))), (u 3, .inl (G.2 0, 3, .inl (F 3))), (u 4, .inl (G.2 0, 40, .inl (F 4))), (u 5, .inl (G.2 0, 40, .inl (F 5))), (u 6, .inl (G.2 0, 9, .inl (F 6))), (u 7, .inl (G.2 0, 12, .inl (F 7))), (u 8, .inl (G.2 0, 12, .inl (F 8))), (u 9, .inl (G.2 0, 10, .inl (F 9)))] := hD
    refine lv_aload_n hx hb dL_note_62 rfl (lv_at hl 2 rfl) ?_
    refine lv_iconst (v := 1) hx hb dL_note_63 (by decide) ?_
    refine lv_dup2_11 hx hb dL_note_64 rfl rfl ?_
    refine va_iald hx hb hK hP 9 0 rfl rfl (vp_in_nI (n := 1) (by decide) (by decide)) dL_note_65 ?_
    refine W.eq (g2 := F0 m 66 ls [.int (nI n), .int 1, .ref (u 9)]) (by rw [show (F 9) (1 : Int32).toNatClampNeg = nI n from hq1]) ?_
    refine lv_iconst (v := 1) hx hb dL_note_66 (by decide) ?_
    refine lv_iadd hx hb dL_note_67 ?_
    refine W.eq (g2 := F0 m 68 ls [.int (nI (n + 1)), .int 1, .ref (u 9)]) (by first | (rw [nI_1]; done) | (rw [nI_1]; rfl)) ?_
    refine va_iast hx hb hK hP hD hS 9 0 rfl rfl (vp_in_nI (n := 1) (by decide) (by decide)) dL_note_68 (fun Hz Lz hP hD hS => ?_)
    have hP : va_P G.1 vwCl [(u 0, .inl (G.2 1, 64, .inr (.inl (vp_updL E (n / 2) (lN (10000 * h + 1000 * k1 + 100 * w1 + x1)))))), (u 1, .inl (G.2 0, 8, .inl (F 1))), (u 2, .inl (G.2 0, 3, .inl (F 2))), (u 3, .inl (G.2 0, 3, .inl (F 3))), (u 4, .inl (G.2 0, 40, .inl (F 4))), (u 5, .inl (G.2 0, 40, .inl (F 5))), (u 6, .inl (G.2 0, 9, .inl (F 6))), (u 7, .inl (G.2 0, 12, .inl (F 7))), (u 8, .inl (G.2 0, 12, .inl (F 8))), (u 9, .inl (G.2 0, 10, .inl (upd (F 9) 1 (nI (n + 1)))))] Hz := hP
    have hD : va_D A [(u 0, .inl (G.2 1, 64, .inr (.inl (vp_updL E (n / 2) (lN (10000 * h + 1000 * k1 + 100 * w1 + x1)))))), (u 1, .inl (G.2 0, 8, .inl (F 1))), (u 2, .inl (G.2 0, 3, .inl (F 2))), (u 3, .inl (G.2 0, 3, .inl (F 3))), (u 4, .inl (G.2 0, 40, .inl (F 4))), (u 5, .inl (G.2 0, 40, .inl (F 5))), (u 6, .inl (G.2 0, 9, .inl (F 6))), (u 7, .inl (G.2 0, 12, .inl (F 7))), (u 8, .inl (G.2 0, 12, .inl (F 8))), (u 9, .inl (G.2 0, 10, .inl (upd (F 9) 1 (nI (n + 1)))))] := hD
    exact W.vret hx hb hr (fun t ht hW => ⟨⟨[(u 0, .inl (G.2 1, 64, .inr (.inl (vp_updL E (n / 2) (lN (10000 * h + 1000 * k1 + 100 * w1 + x1)))))), (u 1, .inl (G.2 0, 8, .inl (F 1))), (u 2, .inl (G.2 0, 3, .inl (F 2))), (u 3, .inl (G.2 0, 3, .inl (F 3))), (u 4, .inl (G.2 0, 40, .inl (F 4))), (u 5, .inl (G.2 0, 40, .inl (F 5))), (u 6, .inl (G.2 0, 9, .inl (F 6))), (u 7, .inl (G.2 0, 12, .inl (F 7))), (u 8, .inl (G.2 0, 12, .inl (F 8))), (u 9, .inl (G.2 0, 10, .inl (upd (F 9) 1 (nI (n + 1)))))], rfl, ⟨_, rfl, by rw [zCode ek ew zex]; exact sRE_even hRE (by omega) hev⟩, ⟨by rw [ht]; exact hP, hD⟩⟩, hS.F ht⟩) hS.2.2 dL_note_69

set_option maxHeartbeats 4000000 in
set_option maxRecDepth 100000 in
theorem c_L_flow (l : Launch) (G : zG) (u : Nat → Nat) (E : Nat → Int64) (F : Nat → Nat → Int32) (N : Nat → Nat) (T : Nat → Nat → Int32) (sz : Nat) (hQ : sLQ N T E F) (hR1 : sR1 T F) (hR2 : sR2 T F) (hF3 : F 9 3 = T 19 1) (hEn : ∀ v, v < 8 → sEnd (T 4 v) = true ∧ sEnd (T 5 v) = true ∧ ¬ T 4 v = T 5 v) (hLv : sLv T) : Met l yL_flow wsL_flow ({ frames := 2, cells := 0, slots := 0, locals := 44 }) (va_Pc [.ref (u 0), .ref (u 1), .ref (u 2), .ref (u 9)] (zPu G (LW G u E F) sz)) (va_Qv (fun w1 : va_W => ∃ (lz : Nat → Int32) (gz : Int32), w1 = LW G u E (va_up (va_up F 2 lz) 9 (upd (F 9) 3 gz)) ∧ uRow N T 8 lz gz) (zB G (va_A (LW G u E F) sz)) (va_A (LW G u E F) sz)) 0 0 (va_A (LW G u E F) sz) := by
  refine Met.ofW (cc := cL_flow) (maxL := 8) (ret := none) (by decide) rfl ?_
  intro p e s m args below meth c s₁ B hml hv
  obtain ⟨rfl, hsz, hP, hK, hD0⟩ := hv
  have hx := B.exec
  have hb := B.bytes
  have hr := B.returns
  have hts := atoms_spec (ws := wsL_flow) B.pre
  have hown : s.vm.findClass RL = some m.cls := findClass_of_methodNamed B.named
  have hlocks := B.notSynchronized
  subst hsz
  have hD := hD0.self (sz := s.heap.size)
  generalize hAe : va_A (LW G u E F) s.heap.size = A at hD ⊢
  have hA : ∀ q : Nat, s.heap.size ≤ q → A q := fun q h => by rw [← hAe]; exact Or.inr h
  have hS : va_S A s.heap s.heap [] := va_S.rf
  have hP : va_P G.1 vwCl [(u 0, .inl (G.2 1, 64, .inr (.inl E))), (u 1, .inl (G.2 0, 8, .inl (F 1))), (u 2, .inl (G.2 0, 3, .inl (F 2))), (u 3, .inl (G.2 0, 3, .inl (F 3))), (u 4, .inl (G.2 0, 40, .inl (F 4))), (u 5, .inl (G.2 0, 40, .inl (F 5))), (u 6, .inl (G.2 0, 9, .inl (F 6))), (u 7, .inl (G.2 0, 12, .inl (F 7))), (u 8, .inl (G.2 0, 12, .inl (F 8))), (u 9, .inl (G.2 0, 10, .inl (F 9)))] s.heap := hP
  have hD : va_D A [(u 0, .inl (G.2 1, 64, .inr (.inl E))), (u 1, .inl (G.2 0, 8, .inl (F 1))), (u 2, .inl (G.2 0, 3, .inl (F 2))), (u 3, .inl (G.2 0, 3, .inl (F 3))), (u 4, .inl (G.2 0, 40, .inl (F 4))), (u 5, .inl (G.2 0, 40, .inl (F 5))), (u 6, .inl (G.2 0, 9, .inl (F 6))), (u 7, .inl (G.2 0, 12, .inl (F 7))), (u 8, .inl (G.2 0, 12, .inl (F 8))), (u 9, .inl (G.2 0, 10, .inl (F 9)))] := hD
  have hl := lv_entry ([.ref (u 0), .ref (u 1), .ref (u 2), .ref (u 9)]) (n := 8) (Nat.le_of_ble_eq_true rfl)
  rw [lg_entry_eq]
  generalize (lg_sl ([.ref (u 0), .ref (u 1), .ref (u 2), .ref (u 9)]) ++ List.replicate (8 - (lg_sl ([.ref (u 0), .ref (u 1), .ref (u 2), .ref (u 9)])).length) Slot.unset).toArray = ls at hl ⊢
  have hl : lv_has ls 8 [(0, .ref (u 0)), (1, .ref (u 1)), (2, .ref (u 2)), (3, .ref (u 9))] := hl
  refine lv_iconst (v := 0) hx hb dL_flow_0 (by decide) ?_
  refine lv_istore (lv' := [(4, .int 0), (0, .ref (u 0)), (1, .ref (u 1)), (2, .ref (u 2)), (3, .ref (u 9))]) hx hb dL_flow_1 hl (by decide) rfl (fun ls hl => ?_)
  have key_3 : ∀ (n i : Nat), i ≤ 8 → 8 < i + n → ∀ (lz : Nat → Int32) (gz : Int32), uRow N T i lz gz → ∀ (Hz : Heap) (Lz : List Loc), va_P G.1 vwCl [(u 0, .inl (G.2 1, 64, .inr (.inl E))), (u 1, .inl (G.2 0, 8, .inl (F 1))), (u 2, .inl (G.2 0, 3, .inl lz)), (u 3, .inl (G.2 0, 3, .inl (F 3))), (u 4, .inl (G.2 0, 40, .inl (F 4))), (u 5, .inl (G.2 0, 40, .inl (F 5))), (u 6, .inl (G.2 0, 9, .inl (F 6))), (u 7, .inl (G.2 0, 12, .inl (F 7))), (u 8, .inl (G.2 0, 12, .inl (F 8))), (u 9, .inl (G.2 0, 10, .inl (upd (F 9) 3 gz)))] Hz → va_D A [(u 0, .inl (G.2 1, 64, .inr (.inl E))), (u 1, .inl (G.2 0, 8, .inl (F 1))), (u 2, .inl (G.2 0, 3, .inl lz)), (u 3, .inl (G.2 0, 3, .inl (F 3))), (u 4, .inl (G.2 0, 40, .inl (F 4))), (u 5, .inl (G.2 0, 40, .inl (F 5))), (u 6, .inl (G.2 0, 9, .inl (F 6))), (u 7, .inl (G.2 0, 12, .inl (F 7))), (u 8, .inl (G.2 0, 12, .inl (F 8))), (u 9, .inl (G.2 0, 10, .inl (upd (F 9) 3 gz)))] → va_S A s.heap Hz Lz → ∀ ls : Array Slot, lv_has ls 8 [(0, .ref (u 0)), (1, .ref (u 1)), (2, .ref (u 2)), (3, .ref (u 9)), (4, .int (nI i))] → W p l e (headSpec wsL_flow ({ frames := 2, cells := 0, slots := 0, locals := 44 })).room s m ([.ref (u 0), .ref (u 1), .ref (u 2), .ref (u 9)] : List Value).toArray below meth c Hz Lz 0 0 (MQ below (va_Qv (fun w1 : va_W => ∃ (lz : Nat → Int32) (gz : Int32), w1 = LW G u E (va_up (va_up F 2 lz) 9 (upd (F 9) 3 gz)) ∧ uRow N T 8 lz gz) (zB G A) A) ([.ref (u 0), .ref (u 1), .ref (u 2), .ref (u 9)] : List Value).toArray s 0 0 A) (F0 m 3 ls []) := by
    intro n
    induction n with
    | zero => intro i hi_a hi_b; exact absurd hi_b (by omega)
    | succ n ih =>
      intro i hil hin lz  gz  hrz Hz Lz hP hD hS ls hl
      have hP : va_P G.1 vwCl [(u 0, .inl (G.2 1, 64, .inr (.inl E))), (u 1, .inl (G.2 0, 8, .inl (F 1))), (u 2, .inl (G.2 0, 3, .inl lz)), (u 3, .inl (G.2 0, 3, .inl (F 3))), (u 4, .inl (G.2 0, 40, .inl (F 4))), (u 5, .inl (G.2 0, 40, .inl (F 5))), (u 6, .inl (G.2 0, 9, .inl (F 6))), (u 7, .inl (G.2 0, 12, .inl (F 7))), (u 8, .inl (G.2 0, 12, .inl (F 8))), (u 9, .inl (G.2 0, 10, .inl (upd (F 9) 3 gz)))] Hz := hP
      have hD : va_D A [(u 0, .inl (G.2 1, 64, .inr (.inl E))), (u 1, .inl (G.2 0, 8, .inl (F 1))), (u 2, .inl (G.2 0, 3, .inl lz)), (u 3, .inl (G.2 0, 3, .inl (F 3))), (u 4, .inl (G.2 0, 40, .inl (F 4))), (u 5, .inl (G.2 0, 40, .inl (F 5))), (u 6, .inl (G.2 0, 9, .inl (F 6))), (u 7, .inl (G.2 0, 12, .inl (F 7))), (u 8, .inl (G.2 0, 12, .inl (F 8))), (u 9, .inl (G.2 0, 10, .inl (upd (F 9) 3 gz)))] := hD
      refine lv_iload hx hb dL_flow_3 (lv_at hl 4 rfl) ?_
      refine lv_bipush (v := 8) hx hb dL_flow_5 (by decide) ?_
      refine lv_icmp_ge (tgt := 126) hx hb dL_flow_7 (by decide) (fun zc_1 => ?_) (fun zc_1 => ?_)
      · skip
        have zd_1 := Int32.not_lt.mpr zc_1
        have zhc : 8 ≤ i := (nI_leI (by omega) (by omega)).mp zc_1
        have zie : 8 = i := Nat.le_antisymm zhc hil
        subst zie
        exact W.vret hx hb hr (fun t ht hW => ⟨⟨[(u 0, .inl (G.2 1, 64, .inr (.inl E))), (u 1, .inl (G.2 0, 8, .inl (F 1))), (u 2, .inl (G.2 0, 3, .inl lz)), (u 3, .inl (G.2 0, 3, .inl (F 3))), (u 4, .inl (G.2 0, 40, .inl (F 4))), (u 5, .inl (G.2 0, 40, .inl (F 5))), (u 6, .inl (G.2 0, 9, .inl (F 6))), (u 7, .inl (G.2 0, 12, .inl (F 7))), (u 8, .inl (G.2 0, 12, .inl (F 8))), (u 9, .inl (G.2 0, 10, .inl (upd (F 9) 3 gz)))], rfl, ⟨lz, gz, rfl, hrz⟩, ⟨by rw [ht]; exact hP, hD⟩⟩, hS.F ht⟩) hS.2.2 dL_flow_126
      · skip
        have zd_1 := Int32.not_le.mp zc_1
        have hil8 : i < 8 := Nat.lt_of_not_le (fun z => zc_1 ((nI_leI (a := 8) (b := i) (by omega) (by omega)).mpr z))
        refine lv_aload_n hx hb dL_flow_10 rfl (lv_at hl 0 rfl) ?_
        refine lv_aload_n hx hb dL_flow_11 rfl (lv_at hl 3 rfl) ?_
        refine lv_iload hx hb dL_flow_12 (lv_at hl 4 rfl) ?_
        refine z_csi (va_Run.run (va_runS (As := [.ref (u 0), .ref (u 9), .int (nI i)]) (rest := []) ⟨hx, hb, hml, hown, hts⟩ (c_L_opened l G u E (va_up (va_up F 2 lz) 9 (upd (F 9) 3 gz)) N T (nI i) (hQ.fl lz gz) (vp_in_nI (by omega) (by omega))) (va_cwS 3 hts gL_flow_L_opened rfl rfl rfl (by decide +kernel) ⟨Nat.le_of_ble_eq_true rfl, Nat.le_of_ble_eq_true rfl⟩) (z_ps hK hP) rfl rfl hl.1 rfl (lv_room (Nat.le_of_ble_eq_true rfl)) dL_flow_14 ⟨(Nat.zero_le _), (Nat.zero_le _)⟩)) (fun zr_2 hzr_2 => ?_)
        subst hzr_2
        refine lv_if_ne (tgt := 23) hx hb dL_flow_17 (by decide) (fun zc_3 => ?_) (fun zc_3 => ?_)
        · skip
          have hop9 : ¬ T 3 i = 0 := by rw [nI_clamp (by omega)] at zc_3; exact zc_3
          refine lv_aload_n hx hb dL_flow_23 rfl (lv_at hl 1 rfl) ?_
          refine lv_iload hx hb dL_flow_24 (lv_at hl 4 rfl) ?_
          refine va_iald hx hb hK hP 1 0 rfl rfl (by first | assumption | exact vp_in_nI (by omega) (by omega)) dL_flow_26 ?_
          rw [nI_clamp (by omega)]
          refine lv_iconst (v := 4) hx hb dL_flow_27 (by decide) ?_
          refine lv_irem hx hb dL_flow_28 (by decide) ?_
          refine lv_iconst (v := 1) hx hb dL_flow_29 (by decide) ?_
          refine lv_isub hx hb dL_flow_30 ?_
          refine W.eq (g2 := F0 m 31 ls [.int (T 4 i)]) (by first | (rw [(sR1_ends hR1 hEn (by omega)).1]; done) | (rw [(sR1_ends hR1 hEn (by omega)).1]; rfl)) ?_
          refine lv_istore (lv' := [(5, .int (T 4 i)), (0, .ref (u 0)), (1, .ref (u 1)), (2, .ref (u 2)), (3, .ref (u 9)), (4, .int (nI i))]) hx hb dL_flow_31 hl (by decide) rfl (fun ls hl => ?_)
          refine lv_aload_n hx hb dL_flow_33 rfl (lv_at hl 2 rfl) ?_
          refine lv_iload hx hb dL_flow_34 (lv_at hl 5 rfl) ?_
          refine va_iald hx hb hK hP 1 0 rfl rfl (by first | assumption | exact vp_in_nI (by omega) (by omega)) dL_flow_36 ?_
          rw [nI_clamp (by omega)]
          refine lv_iconst (v := 4) hx hb dL_flow_37 (by decide) ?_
          refine lv_idiv hx hb dL_flow_38 (by decide) ?_
          refine lv_iconst (v := 1) hx hb dL_flow_39 (by decide) ?_
          refine lv_isub hx hb dL_flow_40 ?_
          refine W.eq (g2 := F0 m 41 ls [.int (T 5 i)]) (by first | (rw [(sR1_ends hR1 hEn (by omega)).2]; done) | (rw [(sR1_ends hR1 hEn (by omega)).2]; rfl)) ?_
          refine lv_istore (lv' := [(6, .int (T 5 i)), (5, .int (T 4 i)), (0, .ref (u 0)), (1, .ref (u 1)), (2, .ref (u 2)), (3, .ref (u 9)), (4, .int (nI i))]) hx hb dL_flow_41 hl (by decide) rfl (fun ls hl => ?_)
          obtain ⟨hE4, hE5, hEn4⟩ := hEn i (by omega)
          have hlvz : ∀ j, j < 3 → ∃ x : Nat, x ≤ 1000 ∧ lz j = nI x := fun j hj => by rw [hrz.1 j hj]; exact sLeads_lv hEn hLv hil j hj
          obtain ⟨x9, hx91, hx92⟩ := zEl hE4 hlvz
          obtain ⟨y9, hy91, hy92⟩ := zEl hE5 hlvz
          have hne9 := zEne hE4 hE5 hEn4
          refine lv_iconst (v := 0) hx hb dL_flow_43 (by decide) ?_
          refine lv_istore (lv' := [(7, .int 0), (6, .int (T 5 i)), (5, .int (T 4 i)), (0, .ref (u 0)), (1, .ref (u 1)), (2, .ref (u 2)), (3, .ref (u 9)), (4, .int (nI i))]) hx hb dL_flow_44 hl (by decide) rfl (fun ls hl => ?_)
          have key_46 : ∀ (nj j : Nat), j ≤ 10 → 10 < j + nj → (¬ T 4 i = -1 → j ≤ x9) → ∀ (Hz : Heap) (Lz : List Loc), va_P G.1 vwCl [(u 0, .inl (G.2 1, 64, .inr (.inl E))), (u 1, .inl (G.2 0, 8, .inl (F 1))), (u 2, .inl (G.2 0, 3, .inl (uL (T 4 i) (T 5 i) lz x9 y9 j j))), (u 3, .inl (G.2 0, 3, .inl (F 3))), (u 4, .inl (G.2 0, 40, .inl (F 4))), (u 5, .inl (G.2 0, 40, .inl (F 5))), (u 6, .inl (G.2 0, 9, .inl (F 6))), (u 7, .inl (G.2 0, 12, .inl (F 7))), (u 8, .inl (G.2 0, 12, .inl (F 8))), (u 9, .inl (G.2 0, 10, .inl (upd (F 9) 3 (uG (T 5 i) gz y9 j))))] Hz → va_D A [(u 0, .inl (G.2 1, 64, .inr (.inl E))), (u 1, .inl (G.2 0, 8, .inl (F 1))), (u 2, .inl (G.2 0, 3, .inl (uL (T 4 i) (T 5 i) lz x9 y9 j j))), (u 3, .inl (G.2 0, 3, .inl (F 3))), (u 4, .inl (G.2 0, 40, .inl (F 4))), (u 5, .inl (G.2 0, 40, .inl (F 5))), (u 6, .inl (G.2 0, 9, .inl (F 6))), (u 7, .inl (G.2 0, 12, .inl (F 7))), (u 8, .inl (G.2 0, 12, .inl (F 8))), (u 9, .inl (G.2 0, 10, .inl (upd (F 9) 3 (uG (T 5 i) gz y9 j))))] → va_S A s.heap Hz Lz → ∀ ls : Array Slot, lv_has ls 8 [(0, .ref (u 0)), (1, .ref (u 1)), (2, .ref (u 2)), (3, .ref (u 9)), (4, .int (nI i)), (5, .int (T 4 i)), (6, .int (T 5 i)), (7, .int (nI j))] → W p l e (headSpec wsL_flow ({ frames := 2, cells := 0, slots := 0, locals := 44 })).room s m ([.ref (u 0), .ref (u 1), .ref (u 2), .ref (u 9)] : List Value).toArray below meth c Hz Lz 0 0 (MQ below (va_Qv (fun w1 : va_W => ∃ (lz : Nat → Int32) (gz : Int32), w1 = LW G u E (va_up (va_up F 2 lz) 9 (upd (F 9) 3 gz)) ∧ uRow N T 8 lz gz) (zB G A) A) ([.ref (u 0), .ref (u 1), .ref (u 2), .ref (u 9)] : List Value).toArray s 0 0 A) (F0 m 46 ls []) := by
            intro nj
            induction nj with
            | zero => intro j hi_a hi_b; exact absurd hi_b (by omega)
            | succ nj ihj =>
              intro j hjl hjn  hjx Hz Lz hP hD hS ls hl
              have hP : va_P G.1 vwCl [(u 0, .inl (G.2 1, 64, .inr (.inl E))), (u 1, .inl (G.2 0, 8, .inl (F 1))), (u 2, .inl (G.2 0, 3, .inl (uL (T 4 i) (T 5 i) lz x9 y9 j j))), (u 3, .inl (G.2 0, 3, .inl (F 3))), (u 4, .inl (G.2 0, 40, .inl (F 4))), (u 5, .inl (G.2 0, 40, .inl (F 5))), (u 6, .inl (G.2 0, 9, .inl (F 6))), (u 7, .inl (G.2 0, 12, .inl (F 7))), (u 8, .inl (G.2 0, 12, .inl (F 8))), (u 9, .inl (G.2 0, 10, .inl (upd (F 9) 3 (uG (T 5 i) gz y9 j))))] Hz := hP
              have hD : va_D A [(u 0, .inl (G.2 1, 64, .inr (.inl E))), (u 1, .inl (G.2 0, 8, .inl (F 1))), (u 2, .inl (G.2 0, 3, .inl (uL (T 4 i) (T 5 i) lz x9 y9 j j))), (u 3, .inl (G.2 0, 3, .inl (F 3))), (u 4, .inl (G.2 0, 40, .inl (F 4))), (u 5, .inl (G.2 0, 40, .inl (F 5))), (u 6, .inl (G.2 0, 9, .inl (F 6))), (u 7, .inl (G.2 0, 12, .inl (F 7))), (u 8, .inl (G.2 0, 12, .inl (F 8))), (u 9, .inl (G.2 0, 10, .inl (upd (F 9) 3 (uG (T 5 i) gz y9 j))))] := hD
              refine lv_iload hx hb dL_flow_46 (lv_at hl 7 rfl) ?_
              refine lv_bipush (v := 10) hx hb dL_flow_48 (by decide) ?_
              refine lv_icmp_ge (tgt := 120) hx hb dL_flow_50 (by decide) (fun zc_4 => ?_) (fun zc_4 => ?_)
              · skip
                have zd_4 := Int32.not_lt.mpr zc_4
                have zj1 : 10 ≤ j := (nI_leI (by omega) (by omega)).mp zc_4
                have hj10 : j = 10 := by omega
                have hrow := uRow_o (m := j) hrz hop9 ⟨hE4, hE5, hEn4⟩ ⟨hx91, hx92⟩ ⟨hy91, hy92⟩ hjl (fun _ => hj10) (fun z => ⟨hjx z, Or.inl hj10⟩)
                refine lv_iinc (v := (nI (i + 1))) (lv' := [(4, .int (nI (i + 1))), (0, .ref (u 0)), (1, .ref (u 1)), (2, .ref (u 2)), (3, .ref (u 9)), (5, .int (T 4 i)), (6, .int (T 5 i)), (7, .int (nI j))]) hx hb dL_flow_120 hl (k := 4) rfl (by first | exact nI_1 _ | rfl) (by decide) rfl (fun ls hl => ?_)
                refine lv_goto (tgt := 3) hx hb dL_flow_123 (by decide) ?_
                have hl2 := lv_sub (l' := [(0, .ref (u 0)), (1, .ref (u 1)), (2, .ref (u 2)), (3, .ref (u 9)), (4, .int (nI (i + 1)))]) hl [1, 2, 3, 4, 0] rfl
                exact ih (i + 1) (by omega) (by omega) _ _ hrow _ _ hP hD hS ls hl2
              · skip
                have zd_4 := Int32.not_le.mp zc_4
                have hj8 : j < 10 := Nat.lt_of_not_le (fun z => zc_4 ((nI_leI (a := 10) (b := j) (by omega) (by omega)).mpr z))
                refine lv_iload hx hb dL_flow_53 (lv_at hl 5 rfl) ?_
                refine lv_if_lt (tgt := 65) hx hb dL_flow_55 (by decide) (fun zc_5 => ?_) (fun zc_5 => ?_)
                · skip
                  have zd_5 := Int32.not_le.mpr zc_5
                  have hf9 : T 4 i = -1 := (sEnd_lt hE4).mp zc_5
                  refine lv_iload hx hb dL_flow_65 (lv_at hl 5 rfl) ?_
                  refine lv_if_lt (tgt := 78) hx hb dL_flow_67 (by decide) (fun zc_6 => ?_) (fun zc_6 => ?_)
                  · skip
                    have zd_6 := Int32.not_le.mpr zc_6
                    rw [uL_f0 hf9 (a := j)] at hP hD
                    have hP : va_P G.1 vwCl [(u 0, .inl (G.2 1, 64, .inr (.inl E))), (u 1, .inl (G.2 0, 8, .inl (F 1))), (u 2, .inl (G.2 0, 3, .inl (uL (T 4 i) (T 5 i) lz x9 y9 (j + 1) j))), (u 3, .inl (G.2 0, 3, .inl (F 3))), (u 4, .inl (G.2 0, 40, .inl (F 4))), (u 5, .inl (G.2 0, 40, .inl (F 5))), (u 6, .inl (G.2 0, 9, .inl (F 6))), (u 7, .inl (G.2 0, 12, .inl (F 7))), (u 8, .inl (G.2 0, 12, .inl (F 8))), (u 9, .inl (G.2 0, 10, .inl (upd (F 9) 3 (uG (T 5 i) gz y9 j))))] Hz := hP
                    have hD : va_D A [(u 0, .inl (G.2 1, 64, .inr (.inl E))), (u 1, .inl (G.2 0, 8, .inl (F 1))), (u 2, .inl (G.2 0, 3, .inl (uL (T 4 i) (T 5 i) lz x9 y9 (j + 1) j))), (u 3, .inl (G.2 0, 3, .inl (F 3))), (u 4, .inl (G.2 0, 40, .inl (F 4))), (u 5, .inl (G.2 0, 40, .inl (F 5))), (u 6, .inl (G.2 0, 9, .inl (F 6))), (u 7, .inl (G.2 0, 12, .inl (F 7))), (u 8, .inl (G.2 0, 12, .inl (F 8))), (u 9, .inl (G.2 0, 10, .inl (upd (F 9) 3 (uG (T 5 i) gz y9 j))))] := hD
                    refine lv_iload hx hb dL_flow_78 (lv_at hl 6 rfl) ?_
                    refine lv_if_ge (tgt := 86) hx hb dL_flow_80 (by decide) (fun zc_7 => ?_) (fun zc_7 => ?_)
                    · skip
                      have zd_7 := Int32.not_lt.mpr zc_7
                      have ht9 : ¬ T 5 i = -1 := fun z => zd_7 ((sEnd_lt hE5).mpr z)
                      have hyin := sEnd_in hE5 ht9
                      refine lv_aload_n hx hb dL_flow_86 rfl (lv_at hl 2 rfl) ?_
                      refine lv_iload hx hb dL_flow_87 (lv_at hl 6 rfl) ?_
                      refine va_iald hx hb hK hP 2 0 rfl rfl hyin dL_flow_89 ?_
                      refine W.eq (g2 := F0 m 90 ls [.int (nI (min (y9 + j) 1000))]) (by first | (rw [uL_tat (hne9.elim Or.inl (fun z => z.elim (fun z2 => absurd z2 ht9) Or.inr)) ht9]; done) | (rw [uL_tat (hne9.elim Or.inl (fun z => z.elim (fun z2 => absurd z2 ht9) Or.inr)) ht9]; rfl)) ?_
                      refine lv_sipush (v := 1000) hx hb dL_flow_90 (by decide) ?_
                      refine lv_icmp_ne (tgt := 106) hx hb dL_flow_93 (by decide) (fun zc_8 => ?_) (fun zc_8 => ?_)
                      · skip
                        have hfull : y9 + j < 1000 := by have hz4 : ¬ min (y9 + j) 1000 = 1000 := (fun z => zc_8 (by rw [z]; rfl)); omega
                        refine lv_aload_n hx hb dL_flow_106 rfl (lv_at hl 2 rfl) ?_
                        refine lv_iload hx hb dL_flow_107 (lv_at hl 6 rfl) ?_
                        refine lv_dup2_11 hx hb dL_flow_109 rfl rfl ?_
                        refine va_iald hx hb hK hP 2 0 rfl rfl hyin dL_flow_110 ?_
                        refine W.eq (g2 := F0 m 111 ls [.int (nI (min (y9 + j) 1000)), .int (T 5 i), .ref (u 2)]) (by first | (rw [uL_tat (hne9.elim Or.inl (fun z => z.elim (fun z2 => absurd z2 ht9) Or.inr)) ht9]; done) | (rw [uL_tat (hne9.elim Or.inl (fun z => z.elim (fun z2 => absurd z2 ht9) Or.inr)) ht9]; rfl)) ?_
                        refine lv_iconst (v := 1) hx hb dL_flow_111 (by decide) ?_
                        refine lv_iadd hx hb dL_flow_112 ?_
                        refine W.eq (g2 := F0 m 113 ls [.int (nI (y9 + j + 1)), .int (T 5 i), .ref (u 2)]) (by first | (rw [nI_1, show min (y9 + j) 1000 = y9 + j by omega]; done) | (rw [nI_1, show min (y9 + j) 1000 = y9 + j by omega]; rfl)) ?_
                        refine va_iast hx hb hK hP hD hS 2 0 rfl rfl hyin dL_flow_113 (fun Hz Lz hP hD hS => ?_)
                        have hP : va_P G.1 vwCl [(u 0, .inl (G.2 1, 64, .inr (.inl E))), (u 1, .inl (G.2 0, 8, .inl (F 1))), (u 2, .inl (G.2 0, 3, .inl (upd (uL (T 4 i) (T 5 i) lz x9 y9 (j + 1) j) (T 5 i).toNatClampNeg (nI (y9 + j + 1))))), (u 3, .inl (G.2 0, 3, .inl (F 3))), (u 4, .inl (G.2 0, 40, .inl (F 4))), (u 5, .inl (G.2 0, 40, .inl (F 5))), (u 6, .inl (G.2 0, 9, .inl (F 6))), (u 7, .inl (G.2 0, 12, .inl (F 7))), (u 8, .inl (G.2 0, 12, .inl (F 8))), (u 9, .inl (G.2 0, 10, .inl (upd (F 9) 3 (uG (T 5 i) gz y9 j))))] Hz := hP
                        have hD : va_D A [(u 0, .inl (G.2 1, 64, .inr (.inl E))), (u 1, .inl (G.2 0, 8, .inl (F 1))), (u 2, .inl (G.2 0, 3, .inl (upd (uL (T 4 i) (T 5 i) lz x9 y9 (j + 1) j) (T 5 i).toNatClampNeg (nI (y9 + j + 1))))), (u 3, .inl (G.2 0, 3, .inl (F 3))), (u 4, .inl (G.2 0, 40, .inl (F 4))), (u 5, .inl (G.2 0, 40, .inl (F 5))), (u 6, .inl (G.2 0, 9, .inl (F 6))), (u 7, .inl (G.2 0, 12, .inl (F 7))), (u 8, .inl (G.2 0, 12, .inl (F 8))), (u 9, .inl (G.2 0, 10, .inl (upd (F 9) 3 (uG (T 5 i) gz y9 j))))] := hD
                        rw [uL_t (hne9.elim Or.inl (fun z => z.elim (fun z2 => absurd z2 ht9) Or.inr)) ht9 hfull, uG_lt (b := j) hfull] at hP hD
                        have hP : va_P G.1 vwCl [(u 0, .inl (G.2 1, 64, .inr (.inl E))), (u 1, .inl (G.2 0, 8, .inl (F 1))), (u 2, .inl (G.2 0, 3, .inl (uL (T 4 i) (T 5 i) lz x9 y9 (j + 1) (j + 1)))), (u 3, .inl (G.2 0, 3, .inl (F 3))), (u 4, .inl (G.2 0, 40, .inl (F 4))), (u 5, .inl (G.2 0, 40, .inl (F 5))), (u 6, .inl (G.2 0, 9, .inl (F 6))), (u 7, .inl (G.2 0, 12, .inl (F 7))), (u 8, .inl (G.2 0, 12, .inl (F 8))), (u 9, .inl (G.2 0, 10, .inl (upd (F 9) 3 (uG (T 5 i) gz y9 (j + 1)))))] Hz := hP
                        have hD : va_D A [(u 0, .inl (G.2 1, 64, .inr (.inl E))), (u 1, .inl (G.2 0, 8, .inl (F 1))), (u 2, .inl (G.2 0, 3, .inl (uL (T 4 i) (T 5 i) lz x9 y9 (j + 1) (j + 1)))), (u 3, .inl (G.2 0, 3, .inl (F 3))), (u 4, .inl (G.2 0, 40, .inl (F 4))), (u 5, .inl (G.2 0, 40, .inl (F 5))), (u 6, .inl (G.2 0, 9, .inl (F 6))), (u 7, .inl (G.2 0, 12, .inl (F 7))), (u 8, .inl (G.2 0, 12, .inl (F 8))), (u 9, .inl (G.2 0, 10, .inl (upd (F 9) 3 (uG (T 5 i) gz y9 (j + 1)))))] := hD
                        refine lv_iinc (v := (nI (j + 1))) (lv' := [(7, .int (nI (j + 1))), (0, .ref (u 0)), (1, .ref (u 1)), (2, .ref (u 2)), (3, .ref (u 9)), (4, .int (nI i)), (5, .int (T 4 i)), (6, .int (T 5 i))]) hx hb dL_flow_114 hl (k := 7) rfl (by first | exact nI_1 _ | rfl) (by decide) rfl (fun ls hl => ?_)
                        refine lv_goto (tgt := 46) hx hb dL_flow_117 (by decide) ?_
                        have hl2 := lv_sub (l' := [(0, .ref (u 0)), (1, .ref (u 1)), (2, .ref (u 2)), (3, .ref (u 9)), (4, .int (nI i)), (5, .int (T 4 i)), (6, .int (T 5 i)), (7, .int (nI (j + 1)))]) hl [1, 2, 3, 4, 5, 6, 7, 0] rfl
                        exact ihj (j + 1) (by omega) (by omega) (fun z => absurd hf9 z) _ _ hP hD hS ls hl2
                      · skip
                        have hfull : 1000 ≤ y9 + j := by have hz4 := (nI_eq (b := 1000) (by omega) (by omega)).mp zc_8; omega
                        refine lv_aload_n hx hb dL_flow_96 rfl (lv_at hl 3 rfl) ?_
                        refine lv_iconst (v := 3) hx hb dL_flow_97 (by decide) ?_
                        refine lv_dup2_11 hx hb dL_flow_98 rfl rfl ?_
                        refine va_iald hx hb hK hP 9 0 rfl rfl (vp_in_nI (n := 3) (by decide) (by decide)) dL_flow_99 ?_
                        refine W.eq (g2 := F0 m 100 ls [.int ((upd (F 9) 3 (uG (T 5 i) gz y9 j)) 3), .int 3, .ref (u 9)]) (by rw [show (upd (F 9) 3 (uG (T 5 i) gz y9 j)) (3 : Int32).toNatClampNeg = (upd (F 9) 3 (uG (T 5 i) gz y9 j)) 3 from rfl]) ?_
                        refine W.eq (g2 := F0 m 100 ls [.int (uG (T 5 i) gz y9 j), .int 3, .ref (u 9)]) (by first | (rw [upd_at]; done) | (rw [upd_at]; rfl)) ?_
                        refine lv_iconst (v := 1) hx hb dL_flow_100 (by decide) ?_
                        refine lv_iadd hx hb dL_flow_101 ?_
                        refine W.eq (g2 := F0 m 102 ls [.int (uG (T 5 i) gz y9 (j + 1)), .int 3, .ref (u 9)]) (by first | (rw [uG_f ht9 hfull]; done) | (rw [uG_f ht9 hfull]; rfl)) ?_
                        refine va_iast hx hb hK hP hD hS 9 0 rfl rfl (vp_in_nI (n := 3) (by decide) (by decide)) dL_flow_102 (fun Hz Lz hP hD hS => ?_)
                        have hP : va_P G.1 vwCl [(u 0, .inl (G.2 1, 64, .inr (.inl E))), (u 1, .inl (G.2 0, 8, .inl (F 1))), (u 2, .inl (G.2 0, 3, .inl (uL (T 4 i) (T 5 i) lz x9 y9 (j + 1) j))), (u 3, .inl (G.2 0, 3, .inl (F 3))), (u 4, .inl (G.2 0, 40, .inl (F 4))), (u 5, .inl (G.2 0, 40, .inl (F 5))), (u 6, .inl (G.2 0, 9, .inl (F 6))), (u 7, .inl (G.2 0, 12, .inl (F 7))), (u 8, .inl (G.2 0, 12, .inl (F 8))), (u 9, .inl (G.2 0, 10, .inl (upd (upd (F 9) 3 (uG (T 5 i) gz y9 j)) 3 (uG (T 5 i) gz y9 (j + 1)))))] Hz := hP
                        have hD : va_D A [(u 0, .inl (G.2 1, 64, .inr (.inl E))), (u 1, .inl (G.2 0, 8, .inl (F 1))), (u 2, .inl (G.2 0, 3, .inl (uL (T 4 i) (T 5 i) lz x9 y9 (j + 1) j))), (u 3, .inl (G.2 0, 3, .inl (F 3))), (u 4, .inl (G.2 0, 40, .inl (F 4))), (u 5, .inl (G.2 0, 40, .inl (F 5))), (u 6, .inl (G.2 0, 9, .inl (F 6))), (u 7, .inl (G.2 0, 12, .inl (F 7))), (u 8, .inl (G.2 0, 12, .inl (F 8))), (u 9, .inl (G.2 0, 10, .inl (upd (upd (F 9) 3 (uG (T 5 i) gz y9 j)) 3 (uG (T 5 i) gz y9 (j + 1)))))] := hD
                        rw [uL_tf hfull (b := j), upd_twice] at hP hD
                        have hP : va_P G.1 vwCl [(u 0, .inl (G.2 1, 64, .inr (.inl E))), (u 1, .inl (G.2 0, 8, .inl (F 1))), (u 2, .inl (G.2 0, 3, .inl (uL (T 4 i) (T 5 i) lz x9 y9 (j + 1) (j + 1)))), (u 3, .inl (G.2 0, 3, .inl (F 3))), (u 4, .inl (G.2 0, 40, .inl (F 4))), (u 5, .inl (G.2 0, 40, .inl (F 5))), (u 6, .inl (G.2 0, 9, .inl (F 6))), (u 7, .inl (G.2 0, 12, .inl (F 7))), (u 8, .inl (G.2 0, 12, .inl (F 8))), (u 9, .inl (G.2 0, 10, .inl (upd (F 9) 3 (uG (T 5 i) gz y9 (j + 1)))))] Hz := hP
                        have hD : va_D A [(u 0, .inl (G.2 1, 64, .inr (.inl E))), (u 1, .inl (G.2 0, 8, .inl (F 1))), (u 2, .inl (G.2 0, 3, .inl (uL (T 4 i) (T 5 i) lz x9 y9 (j + 1) (j + 1)))), (u 3, .inl (G.2 0, 3, .inl (F 3))), (u 4, .inl (G.2 0, 40, .inl (F 4))), (u 5, .inl (G.2 0, 40, .inl (F 5))), (u 6, .inl (G.2 0, 9, .inl (F 6))), (u 7, .inl (G.2 0, 12, .inl (F 7))), (u 8, .inl (G.2 0, 12, .inl (F 8))), (u 9, .inl (G.2 0, 10, .inl (upd (F 9) 3 (uG (T 5 i) gz y9 (j + 1)))))] := hD
                        refine lv_goto (tgt := 114) hx hb dL_flow_103 (by decide) ?_
                        refine lv_iinc (v := (nI (j + 1))) (lv' := [(7, .int (nI (j + 1))), (0, .ref (u 0)), (1, .ref (u 1)), (2, .ref (u 2)), (3, .ref (u 9)), (4, .int (nI i)), (5, .int (T 4 i)), (6, .int (T 5 i))]) hx hb dL_flow_114 hl (k := 7) rfl (by first | exact nI_1 _ | rfl) (by decide) rfl (fun ls hl => ?_)
                        refine lv_goto (tgt := 46) hx hb dL_flow_117 (by decide) ?_
                        have hl2 := lv_sub (l' := [(0, .ref (u 0)), (1, .ref (u 1)), (2, .ref (u 2)), (3, .ref (u 9)), (4, .int (nI i)), (5, .int (T 4 i)), (6, .int (T 5 i)), (7, .int (nI (j + 1)))]) hl [1, 2, 3, 4, 5, 6, 7, 0] rfl
                        exact ihj (j + 1) (by omega) (by omega) (fun z => absurd hf9 z) _ _ hP hD hS ls hl2
                    · skip
                      have zd_7 := Int32.not_le.mp zc_7
                      have ht9 : T 5 i = -1 := (sEnd_lt hE5).mp zd_7
                      rw [uL_t0 ht9 (b := j), uG_t0 ht9 (b := j)] at hP hD
                      have hP : va_P G.1 vwCl [(u 0, .inl (G.2 1, 64, .inr (.inl E))), (u 1, .inl (G.2 0, 8, .inl (F 1))), (u 2, .inl (G.2 0, 3, .inl (uL (T 4 i) (T 5 i) lz x9 y9 (j + 1) (j + 1)))), (u 3, .inl (G.2 0, 3, .inl (F 3))), (u 4, .inl (G.2 0, 40, .inl (F 4))), (u 5, .inl (G.2 0, 40, .inl (F 5))), (u 6, .inl (G.2 0, 9, .inl (F 6))), (u 7, .inl (G.2 0, 12, .inl (F 7))), (u 8, .inl (G.2 0, 12, .inl (F 8))), (u 9, .inl (G.2 0, 10, .inl (upd (F 9) 3 (uG (T 5 i) gz y9 (j + 1)))))] Hz := hP
                      have hD : va_D A [(u 0, .inl (G.2 1, 64, .inr (.inl E))), (u 1, .inl (G.2 0, 8, .inl (F 1))), (u 2, .inl (G.2 0, 3, .inl (uL (T 4 i) (T 5 i) lz x9 y9 (j + 1) (j + 1)))), (u 3, .inl (G.2 0, 3, .inl (F 3))), (u 4, .inl (G.2 0, 40, .inl (F 4))), (u 5, .inl (G.2 0, 40, .inl (F 5))), (u 6, .inl (G.2 0, 9, .inl (F 6))), (u 7, .inl (G.2 0, 12, .inl (F 7))), (u 8, .inl (G.2 0, 12, .inl (F 8))), (u 9, .inl (G.2 0, 10, .inl (upd (F 9) 3 (uG (T 5 i) gz y9 (j + 1)))))] := hD
                      refine lv_goto (tgt := 114) hx hb dL_flow_83 (by decide) ?_
                      refine lv_iinc (v := (nI (j + 1))) (lv' := [(7, .int (nI (j + 1))), (0, .ref (u 0)), (1, .ref (u 1)), (2, .ref (u 2)), (3, .ref (u 9)), (4, .int (nI i)), (5, .int (T 4 i)), (6, .int (T 5 i))]) hx hb dL_flow_114 hl (k := 7) rfl (by first | exact nI_1 _ | rfl) (by decide) rfl (fun ls hl => ?_)
                      refine lv_goto (tgt := 46) hx hb dL_flow_117 (by decide) ?_
                      have hl2 := lv_sub (l' := [(0, .ref (u 0)), (1, .ref (u 1)), (2, .ref (u 2)), (3, .ref (u 9)), (4, .int (nI i)), (5, .int (T 4 i)), (6, .int (T 5 i)), (7, .int (nI (j + 1)))]) hl [1, 2, 3, 4, 5, 6, 7, 0] rfl
                      exact ihj (j + 1) (by omega) (by omega) (fun z => absurd hf9 z) _ _ hP hD hS ls hl2
                  · skip
                    have zd_6 := Int32.not_lt.mp zc_6
                    exact absurd ((sEnd_lt hE4).mpr hf9) zc_6
                · skip
                  have zd_5 := Int32.not_lt.mp zc_5
                  have hf9 : ¬ T 4 i = -1 := fun z => zc_5 ((sEnd_lt hE4).mpr z)
                  have hxin := sEnd_in hE4 hf9
                  refine lv_aload_n hx hb dL_flow_58 rfl (lv_at hl 2 rfl) ?_
                  refine lv_iload hx hb dL_flow_59 (lv_at hl 5 rfl) ?_
                  refine va_iald hx hb hK hP 2 0 rfl rfl hxin dL_flow_61 ?_
                  refine W.eq (g2 := F0 m 62 ls [.int (nI (x9 - j))]) (by first | (rw [uL_fat hf9]; done) | (rw [uL_fat hf9]; rfl)) ?_
                  refine lv_if_le (tgt := 120) hx hb dL_flow_62 (by decide) (fun zc_9 => ?_) (fun zc_9 => ?_)
                  · skip
                    have zd_9 := Int32.not_lt.mpr zc_9
                    have hxj : x9 ≤ j := by have hz5 := (sLe0 (n := x9 - j) (by omega)).mp zc_9; omega
                    have hrow := uRow_o (m := j) hrz hop9 ⟨hE4, hE5, hEn4⟩ ⟨hx91, hx92⟩ ⟨hy91, hy92⟩ hjl (fun z => absurd z hf9) (fun z => ⟨hjx z, Or.inr hxj⟩)
                    refine lv_iinc (v := (nI (i + 1))) (lv' := [(4, .int (nI (i + 1))), (0, .ref (u 0)), (1, .ref (u 1)), (2, .ref (u 2)), (3, .ref (u 9)), (5, .int (T 4 i)), (6, .int (T 5 i)), (7, .int (nI j))]) hx hb dL_flow_120 hl (k := 4) rfl (by first | exact nI_1 _ | rfl) (by decide) rfl (fun ls hl => ?_)
                    refine lv_goto (tgt := 3) hx hb dL_flow_123 (by decide) ?_
                    have hl2 := lv_sub (l' := [(0, .ref (u 0)), (1, .ref (u 1)), (2, .ref (u 2)), (3, .ref (u 9)), (4, .int (nI (i + 1)))]) hl [1, 2, 3, 4, 0] rfl
                    exact ih (i + 1) (by omega) (by omega) _ _ hrow _ _ hP hD hS ls hl2
                  · skip
                    have zd_9 := Int32.not_le.mp zc_9
                    have hxp : 0 < x9 - j := sLe0n (by omega) zc_9
                    refine lv_iload hx hb dL_flow_65 (lv_at hl 5 rfl) ?_
                    refine lv_if_lt (tgt := 78) hx hb dL_flow_67 (by decide) (fun zc_10 => ?_) (fun zc_10 => ?_)
                    · skip
                      have zd_10 := Int32.not_le.mpr zc_10
                      exact absurd ((sEnd_lt hE4).mp zc_10) hf9
                    · skip
                      have zd_10 := Int32.not_lt.mp zc_10
                      refine lv_aload_n hx hb dL_flow_70 rfl (lv_at hl 2 rfl) ?_
                      refine lv_iload hx hb dL_flow_71 (lv_at hl 5 rfl) ?_
                      refine lv_dup2_11 hx hb dL_flow_73 rfl rfl ?_
                      refine va_iald hx hb hK hP 2 0 rfl rfl hxin dL_flow_74 ?_
                      refine W.eq (g2 := F0 m 75 ls [.int (nI (x9 - j)), .int (T 4 i), .ref (u 2)]) (by first | (rw [uL_fat hf9]; done) | (rw [uL_fat hf9]; rfl)) ?_
                      refine lv_iconst (v := 1) hx hb dL_flow_75 (by decide) ?_
                      refine lv_isub hx hb dL_flow_76 ?_
                      refine W.eq (g2 := F0 m 77 ls [.int (nI (x9 - j - 1)), .int (T 4 i), .ref (u 2)]) (by first | (rw [show (1 : Int32) = nI 1 from rfl, pk_sub (by omega)]; done) | (rw [show (1 : Int32) = nI 1 from rfl, pk_sub (by omega)]; rfl)) ?_
                      refine va_iast hx hb hK hP hD hS 2 0 rfl rfl hxin dL_flow_77 (fun Hz Lz hP hD hS => ?_)
                      have hP : va_P G.1 vwCl [(u 0, .inl (G.2 1, 64, .inr (.inl E))), (u 1, .inl (G.2 0, 8, .inl (F 1))), (u 2, .inl (G.2 0, 3, .inl (upd (uL (T 4 i) (T 5 i) lz x9 y9 j j) (T 4 i).toNatClampNeg (nI (x9 - j - 1))))), (u 3, .inl (G.2 0, 3, .inl (F 3))), (u 4, .inl (G.2 0, 40, .inl (F 4))), (u 5, .inl (G.2 0, 40, .inl (F 5))), (u 6, .inl (G.2 0, 9, .inl (F 6))), (u 7, .inl (G.2 0, 12, .inl (F 7))), (u 8, .inl (G.2 0, 12, .inl (F 8))), (u 9, .inl (G.2 0, 10, .inl (upd (F 9) 3 (uG (T 5 i) gz y9 j))))] Hz := hP
                      have hD : va_D A [(u 0, .inl (G.2 1, 64, .inr (.inl E))), (u 1, .inl (G.2 0, 8, .inl (F 1))), (u 2, .inl (G.2 0, 3, .inl (upd (uL (T 4 i) (T 5 i) lz x9 y9 j j) (T 4 i).toNatClampNeg (nI (x9 - j - 1))))), (u 3, .inl (G.2 0, 3, .inl (F 3))), (u 4, .inl (G.2 0, 40, .inl (F 4))), (u 5, .inl (G.2 0, 40, .inl (F 5))), (u 6, .inl (G.2 0, 9, .inl (F 6))), (u 7, .inl (G.2 0, 12, .inl (F 7))), (u 8, .inl (G.2 0, 12, .inl (F 8))), (u 9, .inl (G.2 0, 10, .inl (upd (F 9) 3 (uG (T 5 i) gz y9 j))))] := hD
                      rw [uL_f hf9] at hP hD
                      have hP : va_P G.1 vwCl [(u 0, .inl (G.2 1, 64, .inr (.inl E))), (u 1, .inl (G.2 0, 8, .inl (F 1))), (u 2, .inl (G.2 0, 3, .inl (uL (T 4 i) (T 5 i) lz x9 y9 (j + 1) j))), (u 3, .inl (G.2 0, 3, .inl (F 3))), (u 4, .inl (G.2 0, 40, .inl (F 4))), (u 5, .inl (G.2 0, 40, .inl (F 5))), (u 6, .inl (G.2 0, 9, .inl (F 6))), (u 7, .inl (G.2 0, 12, .inl (F 7))), (u 8, .inl (G.2 0, 12, .inl (F 8))), (u 9, .inl (G.2 0, 10, .inl (upd (F 9) 3 (uG (T 5 i) gz y9 j))))] Hz := hP
                      have hD : va_D A [(u 0, .inl (G.2 1, 64, .inr (.inl E))), (u 1, .inl (G.2 0, 8, .inl (F 1))), (u 2, .inl (G.2 0, 3, .inl (uL (T 4 i) (T 5 i) lz x9 y9 (j + 1) j))), (u 3, .inl (G.2 0, 3, .inl (F 3))), (u 4, .inl (G.2 0, 40, .inl (F 4))), (u 5, .inl (G.2 0, 40, .inl (F 5))), (u 6, .inl (G.2 0, 9, .inl (F 6))), (u 7, .inl (G.2 0, 12, .inl (F 7))), (u 8, .inl (G.2 0, 12, .inl (F 8))), (u 9, .inl (G.2 0, 10, .inl (upd (F 9) 3 (uG (T 5 i) gz y9 j))))] := hD
                      refine lv_iload hx hb dL_flow_78 (lv_at hl 6 rfl) ?_
                      refine lv_if_ge (tgt := 86) hx hb dL_flow_80 (by decide) (fun zc_11 => ?_) (fun zc_11 => ?_)
                      · skip
                        have zd_11 := Int32.not_lt.mpr zc_11
                        have ht9 : ¬ T 5 i = -1 := fun z => zd_11 ((sEnd_lt hE5).mpr z)
                        have hyin := sEnd_in hE5 ht9
                        refine lv_aload_n hx hb dL_flow_86 rfl (lv_at hl 2 rfl) ?_
                        refine lv_iload hx hb dL_flow_87 (lv_at hl 6 rfl) ?_
                        refine va_iald hx hb hK hP 2 0 rfl rfl hyin dL_flow_89 ?_
                        refine W.eq (g2 := F0 m 90 ls [.int (nI (min (y9 + j) 1000))]) (by first | (rw [uL_tat (hne9.elim Or.inl (fun z => z.elim (fun z2 => absurd z2 ht9) Or.inr)) ht9]; done) | (rw [uL_tat (hne9.elim Or.inl (fun z => z.elim (fun z2 => absurd z2 ht9) Or.inr)) ht9]; rfl)) ?_
                        refine lv_sipush (v := 1000) hx hb dL_flow_90 (by decide) ?_
                        refine lv_icmp_ne (tgt := 106) hx hb dL_flow_93 (by decide) (fun zc_12 => ?_) (fun zc_12 => ?_)
                        · skip
                          have hfull : y9 + j < 1000 := by have hz4 : ¬ min (y9 + j) 1000 = 1000 := (fun z => zc_12 (by rw [z]; rfl)); omega
                          refine lv_aload_n hx hb dL_flow_106 rfl (lv_at hl 2 rfl) ?_
                          refine lv_iload hx hb dL_flow_107 (lv_at hl 6 rfl) ?_
                          refine lv_dup2_11 hx hb dL_flow_109 rfl rfl ?_
                          refine va_iald hx hb hK hP 2 0 rfl rfl hyin dL_flow_110 ?_
                          refine W.eq (g2 := F0 m 111 ls [.int (nI (min (y9 + j) 1000)), .int (T 5 i), .ref (u 2)]) (by first | (rw [uL_tat (hne9.elim Or.inl (fun z => z.elim (fun z2 => absurd z2 ht9) Or.inr)) ht9]; done) | (rw [uL_tat (hne9.elim Or.inl (fun z => z.elim (fun z2 => absurd z2 ht9) Or.inr)) ht9]; rfl)) ?_
                          refine lv_iconst (v := 1) hx hb dL_flow_111 (by decide) ?_
                          refine lv_iadd hx hb dL_flow_112 ?_
                          refine W.eq (g2 := F0 m 113 ls [.int (nI (y9 + j + 1)), .int (T 5 i), .ref (u 2)]) (by first | (rw [nI_1, show min (y9 + j) 1000 = y9 + j by omega]; done) | (rw [nI_1, show min (y9 + j) 1000 = y9 + j by omega]; rfl)) ?_
                          refine va_iast hx hb hK hP hD hS 2 0 rfl rfl hyin dL_flow_113 (fun Hz Lz hP hD hS => ?_)
                          have hP : va_P G.1 vwCl [(u 0, .inl (G.2 1, 64, .inr (.inl E))), (u 1, .inl (G.2 0, 8, .inl (F 1))), (u 2, .inl (G.2 0, 3, .inl (upd (uL (T 4 i) (T 5 i) lz x9 y9 (j + 1) j) (T 5 i).toNatClampNeg (nI (y9 + j + 1))))), (u 3, .inl (G.2 0, 3, .inl (F 3))), (u 4, .inl (G.2 0, 40, .inl (F 4))), (u 5, .inl (G.2 0, 40, .inl (F 5))), (u 6, .inl (G.2 0, 9, .inl (F 6))), (u 7, .inl (G.2 0, 12, .inl (F 7))), (u 8, .inl (G.2 0, 12, .inl (F 8))), (u 9, .inl (G.2 0, 10, .inl (upd (F 9) 3 (uG (T 5 i) gz y9 j))))] Hz := hP
                          have hD : va_D A [(u 0, .inl (G.2 1, 64, .inr (.inl E))), (u 1, .inl (G.2 0, 8, .inl (F 1))), (u 2, .inl (G.2 0, 3, .inl (upd (uL (T 4 i) (T 5 i) lz x9 y9 (j + 1) j) (T 5 i).toNatClampNeg (nI (y9 + j + 1))))), (u 3, .inl (G.2 0, 3, .inl (F 3))), (u 4, .inl (G.2 0, 40, .inl (F 4))), (u 5, .inl (G.2 0, 40, .inl (F 5))), (u 6, .inl (G.2 0, 9, .inl (F 6))), (u 7, .inl (G.2 0, 12, .inl (F 7))), (u 8, .inl (G.2 0, 12, .inl (F 8))), (u 9, .inl (G.2 0, 10, .inl (upd (F 9) 3 (uG (T 5 i) gz y9 j))))] := hD
                          rw [uL_t (hne9.elim Or.inl (fun z => z.elim (fun z2 => absurd z2 ht9) Or.inr)) ht9 hfull, uG_lt (b := j) hfull] at hP hD
                          have hP : va_P G.1 vwCl [(u 0, .inl (G.2 1, 64, .inr (.inl E))), (u 1, .inl (G.2 0, 8, .inl (F 1))), (u 2, .inl (G.2 0, 3, .inl (uL (T 4 i) (T 5 i) lz x9 y9 (j + 1) (j + 1)))), (u 3, .inl (G.2 0, 3, .inl (F 3))), (u 4, .inl (G.2 0, 40, .inl (F 4))), (u 5, .inl (G.2 0, 40, .inl (F 5))), (u 6, .inl (G.2 0, 9, .inl (F 6))), (u 7, .inl (G.2 0, 12, .inl (F 7))), (u 8, .inl (G.2 0, 12, .inl (F 8))), (u 9, .inl (G.2 0, 10, .inl (upd (F 9) 3 (uG (T 5 i) gz y9 (j + 1)))))] Hz := hP
                          have hD : va_D A [(u 0, .inl (G.2 1, 64, .inr (.inl E))), (u 1, .inl (G.2 0, 8, .inl (F 1))), (u 2, .inl (G.2 0, 3, .inl (uL (T 4 i) (T 5 i) lz x9 y9 (j + 1) (j + 1)))), (u 3, .inl (G.2 0, 3, .inl (F 3))), (u 4, .inl (G.2 0, 40, .inl (F 4))), (u 5, .inl (G.2 0, 40, .inl (F 5))), (u 6, .inl (G.2 0, 9, .inl (F 6))), (u 7, .inl (G.2 0, 12, .inl (F 7))), (u 8, .inl (G.2 0, 12, .inl (F 8))), (u 9, .inl (G.2 0, 10, .inl (upd (F 9) 3 (uG (T 5 i) gz y9 (j + 1)))))] := hD
                          refine lv_iinc (v := (nI (j + 1))) (lv' := [(7, .int (nI (j + 1))), (0, .ref (u 0)), (1, .ref (u 1)), (2, .ref (u 2)), (3, .ref (u 9)), (4, .int (nI i)), (5, .int (T 4 i)), (6, .int (T 5 i))]) hx hb dL_flow_114 hl (k := 7) rfl (by first | exact nI_1 _ | rfl) (by decide) rfl (fun ls hl => ?_)
                          refine lv_goto (tgt := 46) hx hb dL_flow_117 (by decide) ?_
                          have hl2 := lv_sub (l' := [(0, .ref (u 0)), (1, .ref (u 1)), (2, .ref (u 2)), (3, .ref (u 9)), (4, .int (nI i)), (5, .int (T 4 i)), (6, .int (T 5 i)), (7, .int (nI (j + 1)))]) hl [1, 2, 3, 4, 5, 6, 7, 0] rfl
                          exact ihj (j + 1) (by omega) (by omega) (fun z => by omega) _ _ hP hD hS ls hl2
                        · skip
                          have hfull : 1000 ≤ y9 + j := by have hz4 := (nI_eq (b := 1000) (by omega) (by omega)).mp zc_12; omega
                          refine lv_aload_n hx hb dL_flow_96 rfl (lv_at hl 3 rfl) ?_
                          refine lv_iconst (v := 3) hx hb dL_flow_97 (by decide) ?_
                          refine lv_dup2_11 hx hb dL_flow_98 rfl rfl ?_
                          refine va_iald hx hb hK hP 9 0 rfl rfl (vp_in_nI (n := 3) (by decide) (by decide)) dL_flow_99 ?_
                          refine W.eq (g2 := F0 m 100 ls [.int ((upd (F 9) 3 (uG (T 5 i) gz y9 j)) 3), .int 3, .ref (u 9)]) (by rw [show (upd (F 9) 3 (uG (T 5 i) gz y9 j)) (3 : Int32).toNatClampNeg = (upd (F 9) 3 (uG (T 5 i) gz y9 j)) 3 from rfl]) ?_
                          refine W.eq (g2 := F0 m 100 ls [.int (uG (T 5 i) gz y9 j), .int 3, .ref (u 9)]) (by first | (rw [upd_at]; done) | (rw [upd_at]; rfl)) ?_
                          refine lv_iconst (v := 1) hx hb dL_flow_100 (by decide) ?_
                          refine lv_iadd hx hb dL_flow_101 ?_
                          refine W.eq (g2 := F0 m 102 ls [.int (uG (T 5 i) gz y9 (j + 1)), .int 3, .ref (u 9)]) (by first | (rw [uG_f ht9 hfull]; done) | (rw [uG_f ht9 hfull]; rfl)) ?_
                          refine va_iast hx hb hK hP hD hS 9 0 rfl rfl (vp_in_nI (n := 3) (by decide) (by decide)) dL_flow_102 (fun Hz Lz hP hD hS => ?_)
                          have hP : va_P G.1 vwCl [(u 0, .inl (G.2 1, 64, .inr (.inl E))), (u 1, .inl (G.2 0, 8, .inl (F 1))), (u 2, .inl (G.2 0, 3, .inl (uL (T 4 i) (T 5 i) lz x9 y9 (j + 1) j))), (u 3, .inl (G.2 0, 3, .inl (F 3))), (u 4, .inl (G.2 0, 40, .inl (F 4))), (u 5, .inl (G.2 0, 40, .inl (F 5))), (u 6, .inl (G.2 0, 9, .inl (F 6))), (u 7, .inl (G.2 0, 12, .inl (F 7))), (u 8, .inl (G.2 0, 12, .inl (F 8))), (u 9, .inl (G.2 0, 10, .inl (upd (upd (F 9) 3 (uG (T 5 i) gz y9 j)) 3 (uG (T 5 i) gz y9 (j + 1)))))] Hz := hP
                          have hD : va_D A [(u 0, .inl (G.2 1, 64, .inr (.inl E))), (u 1, .inl (G.2 0, 8, .inl (F 1))), (u 2, .inl (G.2 0, 3, .inl (uL (T 4 i) (T 5 i) lz x9 y9 (j + 1) j))), (u 3, .inl (G.2 0, 3, .inl (F 3))), (u 4, .inl (G.2 0, 40, .inl (F 4))), (u 5, .inl (G.2 0, 40, .inl (F 5))), (u 6, .inl (G.2 0, 9, .inl (F 6))), (u 7, .inl (G.2 0, 12, .inl (F 7))), (u 8, .inl (G.2 0, 12, .inl (F 8))), (u 9, .inl (G.2 0, 10, .inl (upd (upd (F 9) 3 (uG (T 5 i) gz y9 j)) 3 (uG (T 5 i) gz y9 (j + 1)))))] := hD
                          rw [uL_tf hfull (b := j), upd_twice] at hP hD
                          have hP : va_P G.1 vwCl [(u 0, .inl (G.2 1, 64, .inr (.inl E))), (u 1, .inl (G.2 0, 8, .inl (F 1))), (u 2, .inl (G.2 0, 3, .inl (uL (T 4 i) (T 5 i) lz x9 y9 (j + 1) (j + 1)))), (u 3, .inl (G.2 0, 3, .inl (F 3))), (u 4, .inl (G.2 0, 40, .inl (F 4))), (u 5, .inl (G.2 0, 40, .inl (F 5))), (u 6, .inl (G.2 0, 9, .inl (F 6))), (u 7, .inl (G.2 0, 12, .inl (F 7))), (u 8, .inl (G.2 0, 12, .inl (F 8))), (u 9, .inl (G.2 0, 10, .inl (upd (F 9) 3 (uG (T 5 i) gz y9 (j + 1)))))] Hz := hP
                          have hD : va_D A [(u 0, .inl (G.2 1, 64, .inr (.inl E))), (u 1, .inl (G.2 0, 8, .inl (F 1))), (u 2, .inl (G.2 0, 3, .inl (uL (T 4 i) (T 5 i) lz x9 y9 (j + 1) (j + 1)))), (u 3, .inl (G.2 0, 3, .inl (F 3))), (u 4, .inl (G.2 0, 40, .inl (F 4))), (u 5, .inl (G.2 0, 40, .inl (F 5))), (u 6, .inl (G.2 0, 9, .inl (F 6))), (u 7, .inl (G.2 0, 12, .inl (F 7))), (u 8, .inl (G.2 0, 12, .inl (F 8))), (u 9, .inl (G.2 0, 10, .inl (upd (F 9) 3 (uG (T 5 i) gz y9 (j + 1)))))] := hD
                          refine lv_goto (tgt := 114) hx hb dL_flow_103 (by decide) ?_
                          refine lv_iinc (v := (nI (j + 1))) (lv' := [(7, .int (nI (j + 1))), (0, .ref (u 0)), (1, .ref (u 1)), (2, .ref (u 2)), (3, .ref (u 9)), (4, .int (nI i)), (5, .int (T 4 i)), (6, .int (T 5 i))]) hx hb dL_flow_114 hl (k := 7) rfl (by first | exact nI_1 _ | rfl) (by decide) rfl (fun ls hl => ?_)
                          refine lv_goto (tgt := 46) hx hb dL_flow_117 (by decide) ?_
                          have hl2 := lv_sub (l' := [(0, .ref (u 0)), (1, .ref (u 1)), (2, .ref (u 2)), (3, .ref (u 9)), (4, .int (nI i)), (5, .int (T 4 i)), (6, .int (T 5 i)), (7, .int (nI (j + 1)))]) hl [1, 2, 3, 4, 5, 6, 7, 0] rfl
                          exact ihj (j + 1) (by omega) (by omega) (fun z => by omega) _ _ hP hD hS ls hl2
                      · skip
                        have zd_11 := Int32.not_le.mp zc_11
                        have ht9 : T 5 i = -1 := (sEnd_lt hE5).mp zd_11
                        rw [uL_t0 ht9 (b := j), uG_t0 ht9 (b := j)] at hP hD
                        have hP : va_P G.1 vwCl [(u 0, .inl (G.2 1, 64, .inr (.inl E))), (u 1, .inl (G.2 0, 8, .inl (F 1))), (u 2, .inl (G.2 0, 3, .inl (uL (T 4 i) (T 5 i) lz x9 y9 (j + 1) (j + 1)))), (u 3, .inl (G.2 0, 3, .inl (F 3))), (u 4, .inl (G.2 0, 40, .inl (F 4))), (u 5, .inl (G.2 0, 40, .inl (F 5))), (u 6, .inl (G.2 0, 9, .inl (F 6))), (u 7, .inl (G.2 0, 12, .inl (F 7))), (u 8, .inl (G.2 0, 12, .inl (F 8))), (u 9, .inl (G.2 0, 10, .inl (upd (F 9) 3 (uG (T 5 i) gz y9 (j + 1)))))] Hz := hP
                        have hD : va_D A [(u 0, .inl (G.2 1, 64, .inr (.inl E))), (u 1, .inl (G.2 0, 8, .inl (F 1))), (u 2, .inl (G.2 0, 3, .inl (uL (T 4 i) (T 5 i) lz x9 y9 (j + 1) (j + 1)))), (u 3, .inl (G.2 0, 3, .inl (F 3))), (u 4, .inl (G.2 0, 40, .inl (F 4))), (u 5, .inl (G.2 0, 40, .inl (F 5))), (u 6, .inl (G.2 0, 9, .inl (F 6))), (u 7, .inl (G.2 0, 12, .inl (F 7))), (u 8, .inl (G.2 0, 12, .inl (F 8))), (u 9, .inl (G.2 0, 10, .inl (upd (F 9) 3 (uG (T 5 i) gz y9 (j + 1)))))] := hD
                        refine lv_goto (tgt := 114) hx hb dL_flow_83 (by decide) ?_
                        refine lv_iinc (v := (nI (j + 1))) (lv' := [(7, .int (nI (j + 1))), (0, .ref (u 0)), (1, .ref (u 1)), (2, .ref (u 2)), (3, .ref (u 9)), (4, .int (nI i)), (5, .int (T 4 i)), (6, .int (T 5 i))]) hx hb dL_flow_114 hl (k := 7) rfl (by first | exact nI_1 _ | rfl) (by decide) rfl (fun ls hl => ?_)
                        refine lv_goto (tgt := 46) hx hb dL_flow_117 (by decide) ?_
                        have hl2 := lv_sub (l' := [(0, .ref (u 0)), (1, .ref (u 1)), (2, .ref (u 2)), (3, .ref (u 9)), (4, .int (nI i)), (5, .int (T 4 i)), (6, .int (T 5 i)), (7, .int (nI (j + 1)))]) hl [1, 2, 3, 4, 5, 6, 7, 0] rfl
                        exact ihj (j + 1) (by omega) (by omega) (fun z => by omega) _ _ hP hD hS ls hl2
          exact key_46 (10 + 1) 0 (Nat.zero_le _) (by omega) (fun _ => Nat.zero_le _) _ _ (by rw [uL_0 hx92 hy92 hy91, uG_0 hy91]; exact hP) (by rw [uL_0 hx92 hy92 hy91, uG_0 hy91]; exact hD) hS ls (lv_sub hl [3, 4, 5, 6, 7, 2, 1, 0] rfl)
        · skip
          have hop9 : T 3 i = 0 := by rw [nI_clamp (by omega)] at zc_3; exact zc_3
          refine lv_goto (tgt := 120) hx hb dL_flow_20 (by decide) ?_
          refine lv_iinc (v := (nI (i + 1))) (lv' := [(4, .int (nI (i + 1))), (0, .ref (u 0)), (1, .ref (u 1)), (2, .ref (u 2)), (3, .ref (u 9))]) hx hb dL_flow_120 hl (k := 4) rfl (by first | exact nI_1 _ | rfl) (by decide) rfl (fun ls hl => ?_)
          refine lv_goto (tgt := 3) hx hb dL_flow_123 (by decide) ?_
          have hl2 := lv_sub (l' := [(0, .ref (u 0)), (1, .ref (u 1)), (2, .ref (u 2)), (3, .ref (u 9)), (4, .int (nI (i + 1)))]) hl [1, 2, 3, 4, 0] rfl
          exact ih (i + 1) (by omega) (by omega) lz gz (uRow_c hrz hop9) _ _ hP hD hS ls hl2
  exact key_3 (8 + 1) 0 (Nat.zero_le _) (by omega) (F 2) (F 9 3) ⟨fun j hj => hR2 j hj, hF3⟩ _ _ (by rw [upd_same]; exact hP) (by rw [upd_same]; exact hD) hS ls (lv_sub hl [1, 2, 3, 4, 0] rfl)
