theorem zLw.up {G : zG} {d : Nat} {r q : Nat → Nat} {o K : Nat} {N : Nat → Nat} {T : Nat → Nat → Int32} {wz : va_W} (h : zLw G d r q o K N T wz) : zLw G d r q o (K + 1) N T wz := by
  obtain ⟨A, mc, g, w, wm, th, f, h1, h2, h3, h4⟩ := h
  exact ⟨A, mc, g, w, wm, th, f, h1, h2, h3, h4.up⟩
set_option maxHeartbeats 4000000 in
set_option maxRecDepth 100000 in
/-- at the law's head, behind K calls -/
theorem law_loop {p : Program} {l : Launch} {e : Env} {s : State} {m : MethodId} {below : List Frame} {meth : Method} {c : Code} {b L : Nat} {xs : Nat → Int32} (hL : L ≤ 3072) (hst : l.stackTraces = false) (hr : meth.sig.returnType = ret) (hlocks : meth.locks = false) (C0 : zLA p s m c b L xs) {G : zG} {d : Nat} (hE : zLe G d s) {r q : Nat → Nat} {o : Nat} : ∀ (n K : Nat), 6 * K ≤ L + 5 → 512 < K + n → ∀ (N : Nat → Nat) (T : Nat → Nat → Int32) (wz : va_W) (H : Heap) (locs : List Loc), zLw G d r q o K N T wz → va_P G.1 vwCl wz H → va_D (fun a : Nat => s.heap.size ≤ a) wz → va_S (fun a : Nat => s.heap.size ≤ a) s.heap H locs → ∀ ls : Array Slot, lv_has ls 7 [(4, .int (nI (6 * K))), (0, .ref b), (1, .ref (r 0)), (2, .ref (q 0)), (3, .ref o)] → W p l e room_1 s m #[Value.ref b] below meth c H locs (zLc K N) (zLs K N) (lw_Z below #[Value.ref b] s) (F0 m 23 ls []) := by
  obtain ⟨hx, hb, hml, hown, hts, hXs, hbl⟩ := id C0
  have hbA : ¬ (fun a : Nat => s.heap.size ≤ a) b := Nat.not_le.mpr hbl
  intro n
  induction n with
  | zero => intro K h1 h2; exact absurd h2 (by omega)
  | succ n ih =>
    intro K h1 h2 N T wz H locs hw hP hD hS ls hl
    have hGo : sGo N T K := by
      obtain ⟨_, _, _, _, _, _, _, -, -, -, h⟩ := hw
      exact h
    have hK : K ≤ 512 := by omega
    refine lv_iload hx hb dL_law_23 (lv_at hl 0 rfl) ?_
    refine lv_aload_n hx hb dL_law_25 rfl (lv_at hl 1 rfl) ?_
    refine va_slen hx hb hXs hbl hbA hS dL_law_26 ?_
    refine lv_bipush (v := 6) hx hb dL_law_27 (by decide) ?_
    refine lv_isub hx hb dL_law_29 ?_
    refine lv_icmp_gt (tgt := 1921) hx hb dL_law_30 (by decide) (fun _ => ?_) (fun h6 => ?_)
    · refine lv_iconst (v := 1) hx hb dL_law_1921 (by decide) ?_
      refine va_forget (fun q hq => hS.2.2 q hq) ?_
      have hle := zLc_le hGo hK
      refine z_widen (k := 601024) (n := 7293034) (by omega) (by omega) ?_
      exact lw_ret hx hb hr hlocks dL_law_1922
    · have hi : 6 * K + 6 ≤ L := zsix hL hK h6
      have kk : zKK p l e s m below meth c b G d r q o K := by
        intro N2 T2 w2 H2 locs2 ls2 hw2 hP2 hD2 hS2 hl2
        refine lv_iinc (v := nI (6 * (K + 1))) (lv' := [(4, .int (nI (6 * (K + 1)))), (0, .ref b), (1, .ref (r 0)), (2, .ref (q 0)), (3, .ref o)]) hx hb dL_law_1915 hl2 (k := 0) rfl (by first | exact nI_add (6 * K) 6 | (show nI (6 * K) + nI 6 = nI (6 * K + 6); exact nI_add _ _)) (by decide) rfl (fun ls hl => ?_)
        refine lv_goto (tgt := 23) hx hb dL_law_1918 (by decide) ?_
        exact ih (K + 1) (by omega) (by omega) N2 T2 w2 H2 locs2 hw2 hP2 hD2 hS2 ls hl
      refine lv_aload_n hx hb dL_law_33 rfl (lv_at hl 1 rfl) ?_
      refine lv_iload hx hb dL_law_34 (lv_at hl 0 rfl) ?_
      refine va_sld hx hb hXs hbl hbA hS (vp_in_nI (by omega) (by omega)) dL_law_36 ?_
      refine lv_bipush (v := 31) hx hb dL_law_37 (by decide) ?_
      refine lv_iand hx hb dL_law_39 ?_
      obtain ⟨j, hj, ej⟩ := zan (v := xs (nI (6 * K)).toNatClampNeg)
      rw [ej]
      clear ej
      rcases (show j = 0 ∨ j = 1 ∨ j = 2 ∨ j = 3 ∨ j = 4 ∨ j = 5 ∨ j = 6 ∨ j = 7 ∨ j = 8 ∨ j = 9 ∨ j = 10 ∨ j = 11 ∨ j = 12 ∨ j = 13 ∨ j = 14 ∨ j = 15 ∨ j = 16 ∨ j = 17 ∨ j = 18 ∨ j = 19 ∨ j = 20 ∨ j = 21 ∨ j = 22 ∨ j = 23 ∨ j = 24 ∨ j = 25 ∨ j = 26 ∨ j = 27 ∨ j = 28 ∨ j = 29 ∨ j = 30 ∨ j = 31 by omega) with rfl | rfl | rfl | rfl | rfl | rfl | rfl | rfl | rfl | rfl | rfl | rfl | rfl | rfl | rfl | rfl | rfl | rfl | rfl | rfl | rfl | rfl | rfl | rfl | rfl | rfl | rfl | rfl | rfl | rfl | rfl | rfl
      · refine lv_tableIn (off := 140) (tgt := 180) hx hb dL_law_40 (by decide) (by decide) (by decide +kernel) (by decide) ?_
        exact law_c0 hL hst C0 hE hw hi hP hD hS hl kk
      · refine lv_tableIn (off := 220) (tgt := 260) hx hb dL_law_40 (by decide) (by decide) (by decide +kernel) (by decide) ?_
        exact law_c1 hL hst C0 hE hw hi hP hD hS hl kk
      · refine lv_tableIn (off := 323) (tgt := 363) hx hb dL_law_40 (by decide) (by decide) (by decide +kernel) (by decide) ?_
        exact law_c2 hL hst C0 hE hw hi hP hD hS hl kk
      · refine lv_tableIn (off := 391) (tgt := 431) hx hb dL_law_40 (by decide) (by decide) (by decide +kernel) (by decide) ?_
        exact law_c3 hL hst C0 hE hw hi hP hD hS hl kk
      · refine lv_tableIn (off := 454) (tgt := 494) hx hb dL_law_40 (by decide) (by decide) (by decide +kernel) (by decide) ?_
        exact law_c4 hL hst C0 hE hw hi hP hD hS hl kk
      · refine lv_tableIn (off := 517) (tgt := 557) hx hb dL_law_40 (by decide) (by decide) (by decide +kernel) (by decide) ?_
        exact law_c5 hL hst C0 hE hw hi hP hD hS hl kk
      · refine lv_tableIn (off := 573) (tgt := 613) hx hb dL_law_40 (by decide) (by decide) (by decide +kernel) (by decide) ?_
        exact law_c6 hL hst C0 hE hw hi hP hD hS hl kk
      · refine lv_tableIn (off := 586) (tgt := 626) hx hb dL_law_40 (by decide) (by decide) (by decide +kernel) (by decide) ?_
        exact law_c7 hL hst C0 hE hw hi hP hD hS hl kk
      · refine lv_tableIn (off := 654) (tgt := 694) hx hb dL_law_40 (by decide) (by decide) (by decide +kernel) (by decide) ?_
        exact law_c8 hL hst C0 hE hw hi hP hD hS hl kk
      · refine lv_tableIn (off := 729) (tgt := 769) hx hb dL_law_40 (by decide) (by decide) (by decide +kernel) (by decide) ?_
        exact law_c9 hL hst C0 hE hw hi hP hD hS hl kk
      · refine lv_tableIn (off := 785) (tgt := 825) hx hb dL_law_40 (by decide) (by decide) (by decide +kernel) (by decide) ?_
        exact law_c10 hL hst C0 hE hw hi hP hD hS hl kk
      · refine lv_tableIn (off := 841) (tgt := 881) hx hb dL_law_40 (by decide) (by decide) (by decide +kernel) (by decide) ?_
        exact law_c11 hL hst C0 hE hw hi hP hD hS hl kk
      · refine lv_tableIn (off := 897) (tgt := 937) hx hb dL_law_40 (by decide) (by decide) (by decide +kernel) (by decide) ?_
        exact law_c12 hL hst C0 hE hw hi hP hD hS hl kk
      · refine lv_tableIn (off := 953) (tgt := 993) hx hb dL_law_40 (by decide) (by decide) (by decide +kernel) (by decide) ?_
        exact law_c13 hL hst C0 hE hw hi hP hD hS hl kk
      · refine lv_tableIn (off := 1009) (tgt := 1049) hx hb dL_law_40 (by decide) (by decide) (by decide +kernel) (by decide) ?_
        exact law_c14 hL hst C0 hE hw hi hP hD hS hl kk
      · refine lv_tableIn (off := 1072) (tgt := 1112) hx hb dL_law_40 (by decide) (by decide) (by decide +kernel) (by decide) ?_
        exact law_c15 hL hst C0 hE hw hi hP hD hS hl kk
      · refine lv_tableIn (off := 1128) (tgt := 1168) hx hb dL_law_40 (by decide) (by decide) (by decide +kernel) (by decide) ?_
        exact law_c16 hL hst C0 hE hw hi hP hD hS hl kk
      · refine lv_tableIn (off := 1141) (tgt := 1181) hx hb dL_law_40 (by decide) (by decide) (by decide +kernel) (by decide) ?_
        exact law_c17 hL hst C0 hE hw hi hP hD hS hl kk
      · refine lv_tableIn (off := 1154) (tgt := 1194) hx hb dL_law_40 (by decide) (by decide) (by decide +kernel) (by decide) ?_
        exact law_c18 hL hst C0 hE hw hi hP hD hS hl kk
      · refine lv_tableIn (off := 1210) (tgt := 1250) hx hb dL_law_40 (by decide) (by decide) (by decide +kernel) (by decide) ?_
        exact law_c19 hL hst C0 hE hw hi hP hD hS hl kk
      · refine lv_tableIn (off := 1346) (tgt := 1386) hx hb dL_law_40 (by decide) (by decide) (by decide +kernel) (by decide) ?_
        exact law_c20 hL hst C0 hE hw hi hP hD hS hl kk
      · refine lv_tableIn (off := 1402) (tgt := 1442) hx hb dL_law_40 (by decide) (by decide) (by decide +kernel) (by decide) ?_
        exact law_c21 hL hst C0 hE hw hi hP hD hS hl kk
      · refine lv_tableIn (off := 1472) (tgt := 1512) hx hb dL_law_40 (by decide) (by decide) (by decide +kernel) (by decide) ?_
        exact law_c22 hL hst C0 hE hw hi hP hD hS hl kk
      · refine lv_tableIn (off := 1485) (tgt := 1525) hx hb dL_law_40 (by decide) (by decide) (by decide +kernel) (by decide) ?_
        exact law_c23 hL hst C0 hE hw hi hP hD hS hl kk
      · refine lv_tableIn (off := 1498) (tgt := 1538) hx hb dL_law_40 (by decide) (by decide) (by decide +kernel) (by decide) ?_
        exact law_c24 hL hst C0 hE hw hi hP hD hS hl kk
      · refine lv_tableIn (off := 1566) (tgt := 1606) hx hb dL_law_40 (by decide) (by decide) (by decide +kernel) (by decide) ?_
        exact law_c25 hL hst C0 hE hw hi hP hD hS hl kk
      · refine lv_tableIn (off := 1614) (tgt := 1654) hx hb dL_law_40 (by decide) (by decide) (by decide +kernel) (by decide) ?_
        exact law_c26 hL hst C0 hE hw hi hP hD hS hl kk
      · refine lv_tableIn (off := 1670) (tgt := 1710) hx hb dL_law_40 (by decide) (by decide) (by decide +kernel) (by decide) ?_
        exact law_c27 hL hst C0 hE hw hi hP hD hS hl kk
      · refine lv_tableIn (off := 1683) (tgt := 1723) hx hb dL_law_40 (by decide) (by decide) (by decide +kernel) (by decide) ?_
        exact law_c28 hL hst C0 hE hw hi hP hD hS hl kk
      · refine lv_tableIn (off := 1739) (tgt := 1779) hx hb dL_law_40 (by decide) (by decide) (by decide +kernel) (by decide) ?_
        exact law_c29 hL hst C0 hE hw hi hP hD hS hl kk
      · refine lv_tableIn (off := 1807) (tgt := 1847) hx hb dL_law_40 (by decide) (by decide) (by decide +kernel) (by decide) ?_
        exact law_c30 hL hst C0 hE hw hi hP hD hS hl kk
      · refine lv_tableOut (tgt := 1915) hx hb dL_law_40 (Or.inr (by decide)) (by decide) ?_
        exact z_widen (zUpo (K := K) (N := N) (N2 := N) rfl).1 (zUpo (K := K) (N := N) (N2 := N) rfl).2 (kk N T wz H locs ls hw.up hP hD hS hl)
