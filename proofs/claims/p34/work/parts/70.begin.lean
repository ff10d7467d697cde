set_option maxHeartbeats 4000000 in
set_option maxRecDepth 100000 in
theorem law_85 {p : Program} {l : Launch} {e : Env} {s : State} {m : MethodId} {below : List Frame} {meth : Method} {c : Code} {b L : Nat} {xs : Nat → Int32} (hL : L ≤ 260) (hst : l.stackTraces = false) (hr : meth.sig.returnType = ret) (hlocks : meth.locks = false) (C0 : zLB p s m c b L xs) {G : zG} {d : Nat} (hE : zLe G d s) {r u : Nat → Nat} {A : Nat → Nat} {mc : Nat → Int32} {g : Nat → Nat → Int32} {w : va_W} {f : Nat → Int32} (hC : sCQ G d r A mc g zN0 zT0 w) (hf : ∀ j, j < 8 → f j = 4) {Hz : Heap} {Lz : List Loc} (hP : va_P G.1 vwCl (LW G u (fun _ => 0) (va_up (fun _ _ => 0) 1 f) ++ w) Hz) (hD : va_D (fun a : Nat => s.heap.size ≤ a) (LW G u (fun _ => 0) (va_up (fun _ _ => 0) 1 f) ++ w)) (hS : va_S (fun a : Nat => s.heap.size ≤ a) s.heap Hz Lz) {ls : Array Slot} (hl : lv_has ls 18 [(0, .ref b), (1, .ref (r 0)), (2, .ref (u 0)), (3, .ref (u 1)), (4, .ref (u 2)), (5, .ref (u 3)), (6, .ref (u 4)), (7, .ref (u 5)), (8, .ref (u 6)), (9, .ref (u 7)), (10, .ref (u 8)), (11, .ref (u 9))]) : W p l e room_1 s m #[Value.ref b] below meth c Hz Lz (500) (5000) (lw_Z below #[Value.ref b] s) (F0 m 85 ls []) := by
  obtain ⟨hx, hb, hml, hown, hts, hXs, hbl⟩ := id C0
  obtain ⟨hK, hZ, hLx⟩ := id hE
  have hA : ∀ a : Nat, s.heap.size ≤ a → (fun a : Nat => s.heap.size ≤ a) a := fun _ h => h
  have hbA : ¬ (fun a : Nat => s.heap.size ≤ a) b := Nat.not_le.mpr hbl
  have hR := sLR_0 hf
  have hJ := sLJ_0
  refine lv_aload_n hx hb dL_law_85 rfl (lv_at hl 1 rfl) ?_
  refine lv_iconst (v := 0) hx hb dL_law_86 (by decide) ?_
  refine lv_aload_n hx hb dL_law_87 rfl (lv_at hl 2 rfl) ?_
  refine lv_aload hx hb dL_law_88 (lv_at hl 4 rfl) ?_
  refine lv_aload hx hb dL_law_90 (lv_at hl 5 rfl) ?_
  refine lv_aload hx hb dL_law_92 (lv_at hl 6 rfl) ?_
  refine lv_aload hx hb dL_law_94 (lv_at hl 8 rfl) ?_
  refine lv_aload hx hb dL_law_96 (lv_at hl 9 rfl) ?_
  refine lv_aload hx hb dL_law_98 (lv_at hl 11 rfl) ?_
  refine z_cui (G := G) (va_runS (As := [.ref (r 0), .int 0, .ref (u 0), .ref (u 2), .ref (u 3), .ref (u 4), .ref (u 6), .ref (u 7), .ref (u 9)]) (rest := []) ⟨hx, hb, hml, hown, hts⟩ (c_L_isTold l hst G d r u (0 : Int32) A mc g zN0 zT0 w (fun _ => 0) (va_up (fun _ _ => 0) 1 f) 0 Hz.size hC hR hJ (by omega)) (va_cwS 9 hts gL_law_L_isTold rfl rfl rfl (by decide +kernel) ⟨Nat.le_of_ble_eq_true rfl, Nat.le_of_ble_eq_true rfl⟩) (z_hs hK hP hD hZ hLx hS hA) rfl rfl hl.1 rfl (lv_room (Nat.le_of_ble_eq_true rfl)) dL_law_100 ⟨(show 500 + 700 ≤ 676113 by omega), (show 5000 + 4200 ≤ 7073360 by omega)⟩) hD hS hA (fun rz w1 Hz Lz hw hP hD hS => ?_)
  refine z_widen (k := 1200) (n := 9200) (show 500 + 700 ≤ 1200 by omega) (show 5000 + 4200 ≤ 9200 by omega) ?_
  obtain ⟨hr9, w, rfl, A, mc, g, hC⟩ := hw
  rw [hr9]
  refine lv_if_ne (tgt := 108) hx hb dL_law_103 (by decide) (fun _ => ?_) (fun zc_1 => absurd zc_1 (by decide))
  refine lv_iconst (v := 0) hx hb dL_law_108 (by decide) ?_
  refine lv_istore (lv' := [(12, .int 0), (0, .ref b), (1, .ref (r 0)), (2, .ref (u 0)), (3, .ref (u 1)), (4, .ref (u 2)), (5, .ref (u 3)), (6, .ref (u 4)), (7, .ref (u 5)), (8, .ref (u 6)), (9, .ref (u 7)), (10, .ref (u 8)), (11, .ref (u 9))]) hx hb dL_law_109 hl (by decide) rfl (fun ls hl => ?_)
  exact z_widen (show 1200 ≤ 2000 + 1300 * 0 by omega) (show 9200 ≤ 20000 + 8000 * 0 by omega) (law_loop hL hst hr hlocks C0 hE 141 0 (by omega) (by omega) A mc g zN0 zT0 w (fun _ => 0) (va_up (fun _ _ => 0) 1 f) hC hR hJ _ _ hP hD hS ls (lv_sub hl [0, 1, 2, 3, 4, 5, 6, 7, 8, 9, 10, 11, 12] rfl))
set_option maxHeartbeats 4000000 in
set_option maxRecDepth 100000 in
theorem law_67 {p : Program} {l : Launch} {e : Env} {s : State} {m : MethodId} {below : List Frame} {meth : Method} {c : Code} {b L : Nat} {xs : Nat → Int32} (hL : L ≤ 260) (hst : l.stackTraces = false) (hr : meth.sig.returnType = ret) (hlocks : meth.locks = false) (C0 : zLB p s m c b L xs) {G : zG} {d : Nat} (hE : zLe G d s) {r u : Nat → Nat} {A : Nat → Nat} {mc : Nat → Int32} {g : Nat → Nat → Int32} {w : va_W} (hC : sCQ G d r A mc g zN0 zT0 w) : ∀ (n k : Nat), k ≤ 8 → 8 < k + n → ∀ f : Nat → Int32, (∀ j, j < k → f j = 4) → ∀ (Hz : Heap) (Lz : List Loc), va_P G.1 vwCl (([(u 0, .inl (G.2 1, 64, .inr (.inl (fun _ => 0)))), (u 1, .inl (G.2 0, 8, .inl f)), (u 2, .inl (G.2 0, 3, .inl ((fun _ _ => 0) 2))), (u 3, .inl (G.2 0, 3, .inl ((fun _ _ => 0) 3))), (u 4, .inl (G.2 0, 40, .inl ((fun _ _ => 0) 4))), (u 5, .inl (G.2 0, 40, .inl ((fun _ _ => 0) 5))), (u 6, .inl (G.2 0, 9, .inl ((fun _ _ => 0) 6))), (u 7, .inl (G.2 0, 12, .inl ((fun _ _ => 0) 7))), (u 8, .inl (G.2 0, 12, .inl ((fun _ _ => 0) 8))), (u 9, .inl (G.2 0, 10, .inl ((fun _ _ => 0) 9)))] : va_W) ++ w) Hz → va_D (fun a : Nat => s.heap.size ≤ a) (([(u 0, .inl (G.2 1, 64, .inr (.inl (fun _ => 0)))), (u 1, .inl (G.2 0, 8, .inl f)), (u 2, .inl (G.2 0, 3, .inl ((fun _ _ => 0) 2))), (u 3, .inl (G.2 0, 3, .inl ((fun _ _ => 0) 3))), (u 4, .inl (G.2 0, 40, .inl ((fun _ _ => 0) 4))), (u 5, .inl (G.2 0, 40, .inl ((fun _ _ => 0) 5))), (u 6, .inl (G.2 0, 9, .inl ((fun _ _ => 0) 6))), (u 7, .inl (G.2 0, 12, .inl ((fun _ _ => 0) 7))), (u 8, .inl (G.2 0, 12, .inl ((fun _ _ => 0) 8))), (u 9, .inl (G.2 0, 10, .inl ((fun _ _ => 0) 9)))] : va_W) ++ w) → va_S (fun a : Nat => s.heap.size ≤ a) s.heap Hz Lz → ∀ ls : Array Slot, lv_has ls 18 [(12, .int (nI k)), (0, .ref b), (1, .ref (r 0)), (2, .ref (u 0)), (3, .ref (u 1)), (4, .ref (u 2)), (5, .ref (u 3)), (6, .ref (u 4)), (7, .ref (u 5)), (8, .ref (u 6)), (9, .ref (u 7)), (10, .ref (u 8)), (11, .ref (u 9))] → W p l e room_1 s m #[Value.ref b] below meth c Hz Lz (500) (5000) (lw_Z below #[Value.ref b] s) (F0 m 67 ls []) := by
  obtain ⟨hx, hb, hml, hown, hts, hXs, hbl⟩ := id C0
  obtain ⟨hK, hZ, hLx⟩ := id hE
  have hA : ∀ a : Nat, s.heap.size ≤ a → (fun a : Nat => s.heap.size ≤ a) a := fun _ h => h
  have hbA : ¬ (fun a : Nat => s.heap.size ≤ a) b := Nat.not_le.mpr hbl
  intro n
  induction n with
  | zero => intro k h1 h2; exact absurd h2 (by omega)
  | succ n ih =>
    intro k h1 h2 f hf Hz Lz hP hD hS ls hl
    refine lv_iload hx hb dL_law_67 (lv_at hl 0 rfl) ?_
    refine lv_bipush (v := 8) hx hb dL_law_69 (by decide) ?_
    refine lv_icmp_ge (tgt := 85) hx hb dL_law_71 (by decide) (fun zc_1 => ?_) (fun zc_1 => ?_)
    · skip
      have zd_1 := Int32.not_lt.mpr zc_1
      have zhc : 8 ≤ k := (nI_leI (a := 8) (b := k) (by omega) (by omega)).mp zc_1
      have zie : 8 = k := Nat.le_antisymm zhc h1
      subst zie
      exact law_85 hL hst hr hlocks C0 hE hC hf hP hD hS (lv_sub hl [1, 2, 3, 4, 5, 6, 7, 8, 9, 10, 11, 12] rfl)
    · skip
      have zd_1 := Int32.not_le.mp zc_1
      have hlt : k < 8 := Nat.lt_of_not_le (fun z => zc_1 ((nI_leI (a := 8) (b := k) (by omega) (by omega)).mpr z))
      refine lv_aload_n hx hb dL_law_74 rfl (lv_at hl 4 rfl) ?_
      refine lv_iload hx hb dL_law_75 (lv_at hl 0 rfl) ?_
      refine lv_iconst (v := 4) hx hb dL_law_77 (by decide) ?_
      refine va_iast hx hb hK hP hD hS 1 0 rfl rfl (vp_in_nI (by omega) (by omega)) dL_law_78 (fun Hz Lz hP hD hS => ?_)
      rw [nI_clamp (by omega)] at hP hD
      have hP : va_P G.1 vwCl (([(u 0, .inl (G.2 1, 64, .inr (.inl (fun _ => 0)))), (u 1, .inl (G.2 0, 8, .inl (upd f k 4))), (u 2, .inl (G.2 0, 3, .inl ((fun _ _ => 0) 2))), (u 3, .inl (G.2 0, 3, .inl ((fun _ _ => 0) 3))), (u 4, .inl (G.2 0, 40, .inl ((fun _ _ => 0) 4))), (u 5, .inl (G.2 0, 40, .inl ((fun _ _ => 0) 5))), (u 6, .inl (G.2 0, 9, .inl ((fun _ _ => 0) 6))), (u 7, .inl (G.2 0, 12, .inl ((fun _ _ => 0) 7))), (u 8, .inl (G.2 0, 12, .inl ((fun _ _ => 0) 8))), (u 9, .inl (G.2 0, 10, .inl ((fun _ _ => 0) 9)))] : va_W) ++ w) Hz := hP
      have hD : va_D (fun a : Nat => s.heap.size ≤ a) (([(u 0, .inl (G.2 1, 64, .inr (.inl (fun _ => 0)))), (u 1, .inl (G.2 0, 8, .inl (upd f k 4))), (u 2, .inl (G.2 0, 3, .inl ((fun _ _ => 0) 2))), (u 3, .inl (G.2 0, 3, .inl ((fun _ _ => 0) 3))), (u 4, .inl (G.2 0, 40, .inl ((fun _ _ => 0) 4))), (u 5, .inl (G.2 0, 40, .inl ((fun _ _ => 0) 5))), (u 6, .inl (G.2 0, 9, .inl ((fun _ _ => 0) 6))), (u 7, .inl (G.2 0, 12, .inl ((fun _ _ => 0) 7))), (u 8, .inl (G.2 0, 12, .inl ((fun _ _ => 0) 8))), (u 9, .inl (G.2 0, 10, .inl ((fun _ _ => 0) 9)))] : va_W) ++ w) := hD
      refine lv_iinc (v := (nI (k + 1))) (lv' := [(12, .int (nI (k + 1))), (0, .ref b), (1, .ref (r 0)), (2, .ref (u 0)), (3, .ref (u 1)), (4, .ref (u 2)), (5, .ref (u 3)), (6, .ref (u 4)), (7, .ref (u 5)), (8, .ref (u 6)), (9, .ref (u 7)), (10, .ref (u 8)), (11, .ref (u 9))]) hx hb dL_law_79 hl (k := 0) rfl (by first | exact nI_1 _ | rfl) (by decide) rfl (fun ls hl => ?_)
      refine lv_goto (tgt := 67) hx hb dL_law_82 (by decide) ?_
      have hf2 : ∀ j, j < k + 1 → upd f k 4 j = 4 := fun j hj => by
        by_cases hjk : j = k
        · rw [hjk, upd_at]
        · rw [upd_no hjk]; exact hf j (by omega)
      exact ih (k + 1) (by omega) (by omega) (upd f k 4) hf2 _ _ hP hD hS ls (lv_sub hl [0, 1, 2, 3, 4, 5, 6, 7, 8, 9, 10, 11, 12] rfl)
