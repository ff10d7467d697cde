theorem z_arrP {args : Array Value} {s : State} {ty : FieldType} (hp : ∀ C, ty ≠ .object C) (h : (Cond.arrayClass ty).before args s = true) : ∃ cA : ClassId, ArrOfT s cA ty ∧ va_RA s cA ty := by
  obtain ⟨cA, kA, comp, h1, h2, h3⟩ := Cond.arrayClass_spec h
  refine ⟨cA, fun n z => ⟨fun k h => (by cases h), kA, h2, comp, h3⟩, ?_⟩
  cases ty <;> first | exact h1 | exact absurd rfl (hp _)
theorem z_arrO {args : Array Value} {s : State} {C : String} (h : (Cond.arrayOver (.object C)).before args s = true) : ∃ cA : ClassId, ArrOfT s cA (.object C) ∧ va_RA s cA (.object C) := by
  obtain ⟨comp, cA, kA, h1, -, h2, h3, h4⟩ := Cond.arrayOver_spec h
  exact ⟨cA, fun n z => ⟨fun k h => (by cases h), kA, h2, comp, h3⟩, kA, comp, h2, h3, h1, h4⟩
set_option maxHeartbeats 4000000 in
set_option maxRecDepth 100000 in
theorem lw_env {s : State} {b : Nat} (hts0 : ∀ w ∈ lw_tbl, w.before #[Value.ref b] s = true) (hn : ∀ w ∈ flatC (Jvm.Cond.and given_1 narrow_1), w.before #[Value.ref b] s = true) : ∃ (G : zG) (d : Nat), zLe G d s := by
  have hts : ∀ w ∈ wsL_law, w.before #[Value.ref b] s = true := fun w h => hts0 w (wsL_law_in w h)
  obtain ⟨c0, i0, k0⟩ := u_known (C := RJx4a65c) (T := TJx4a65c) (N := 3) (n := 3) hts inlJx4a65c (hts0 (.instantiable RJx4a65c 3) (by decide +kernel))
  obtain ⟨c1, i1, k1⟩ := u_known (C := RX0) (T := TX0) (N := 6) (n := 6) hts inlX0 (hts0 (.instantiable RX0 6) (by decide +kernel))
  obtain ⟨c2, i2, k2⟩ := u_known (C := RX1) (T := TX1) (N := 2) (n := 2) hts inlX1 (hts0 (.instantiable RX1 2) (by decide +kernel))
  obtain ⟨c3, i3, k3⟩ := u_known (C := RX2) (T := TX2) (N := 2) (n := 2) hts inlX2 (hts0 (.instantiable RX2 2) (by decide +kernel))
  obtain ⟨c4, i4, k4⟩ := u_known (C := RX3) (T := TX3) (N := 1) (n := 1) hts inlX3 (hts0 (.instantiable RX3 1) (by decide +kernel))
  obtain ⟨c5, i5, k5⟩ := u_known (C := RX4) (T := TX4) (N := 4) (n := 4) hts inlX4 (hts0 (.instantiable RX4 4) (by decide +kernel))
  obtain ⟨c6, i6, k6⟩ := u_known (C := RX5) (T := TX5) (N := 3) (n := 3) hts inlX5 (hts0 (.instantiable RX5 3) (by decide +kernel))
  obtain ⟨c7, i7, k7⟩ := u_known (C := RX6) (T := TX6) (N := 14) (n := 14) hts inlX6 (hts0 (.instantiable RX6 14) (by decide +kernel))
  obtain ⟨y0, ay0⟩ := z_arrP (ty := .int) (fun _ h => nomatch h) (hts0 (.arrayClass .int) (by decide +kernel))
  obtain ⟨y1, ay1⟩ := z_arrP (ty := .long) (fun _ h => nomatch h) (hts0 (.arrayClass .long) (by decide +kernel))
  obtain ⟨y2, ay2⟩ := z_arrP (ty := .boolean) (fun _ h => nomatch h) (hts0 (.arrayClass .boolean) (by decide +kernel))
  obtain ⟨y3, ay3⟩ := z_arrP (ty := .char) (fun _ h => nomatch h) (hts0 (.arrayClass .char) (by decide +kernel))
  obtain ⟨y4, ay4⟩ := z_arrO (C := "BoilerLog$Valve") (hts0 (.arrayOver (.object "BoilerLog$Valve")) (by decide +kernel))
  obtain ⟨y5, ay5⟩ := z_arrO (C := "java/lang/Object") (hts0 (.arrayOver (.object "java/lang/Object")) (by decide +kernel))
  have hK : va_K ((fun k => ([c0, c1, c2, c3, c4, c5, c6, c7 ] : List ClassId).getD k c0), (fun k => ([i0, i1, i2, i3, i4, i5, i6, i7 ] : List (Nat → Nat)).getD k i0)) vwCl (zT (fun k => ([y0, y1, y2, y3, y4, y5] : List ClassId).getD k y0)) s := by
    refine ⟨fun k q hq => ?_, fun k q hq => ?_⟩
    · match k, hq with
      | 0, hq => cases hq; exact k0
      | 1, hq => cases hq; exact k1
      | 2, hq => cases hq; exact k2
      | 3, hq => cases hq; exact k3
      | 4, hq => cases hq; exact k4
      | 5, hq => cases hq; exact k5
      | 6, hq => cases hq; exact k6
      | 7, hq => cases hq; exact k7
        | k + 8, hq => simp [vwCl] at hq
    · match k, hq with
      | 0, hq => cases hq; exact ay0
      | 1, hq => cases hq; exact ay1
      | 2, hq => cases hq; exact ay2
      | 3, hq => cases hq; exact ay3
      | 4, hq => cases hq; exact ay4
      | 5, hq => cases hq; exact ay5
      | k + 6, hq => simp [zT] at hq
  have hAll : ∀ a : Nat, a < s.heap.size → ¬ (fun a : Nat => s.heap.size ≤ a) a := fun a h => Nat.not_le.mpr h
  have hNs : zNs s := by
    refine ⟨fun w h => va_Nw.of (zWords_tab h) (hts0 w (lw_zW w h)), fun q h => ?_⟩
    have hq := hts0 _ (lw_zT q h)
    obtain ⟨kc, cf, i, a, -, -, -, -, -, ha⟩ := Cond.stringRef_spec (cur := c7) (by rw [lw_zTo q h]; exact k7.2.1) hq
    exact ⟨a, vk_R.of hq ha⟩
  have hUz : vx_Zq Bundle.tN "UNASSIGNED_STACK" Bundle.steD (fun a : Nat => s.heap.size ≤ a) s s.heap := vx_Zqof (hts0 (.laysStatic Bundle.tN "UNASSIGNED_STACK" Bundle.steD) (by decide +kernel)) (hts0 (.initialized Bundle.tN) (by decide +kernel)) (hn (.isRef (.static Bundle.tN "UNASSIGNED_STACK" Bundle.steD)) (by decide +kernel)) hAll
  have hSz : vx_Zq Bundle.tN "SUPPRESSED_SENTINEL" Bundle.listD (fun a : Nat => s.heap.size ≤ a) s s.heap := vx_Zqof (hts0 (.laysStatic Bundle.tN "SUPPRESSED_SENTINEL" Bundle.listD) (by decide +kernel)) (hts0 (.initialized Bundle.tN) (by decide +kernel)) (hn (.isRef (.static Bundle.tN "SUPPRESSED_SENTINEL" Bundle.listD)) (by decide +kernel)) hAll
  have hlen := va_eqt (hn (.eq (.length (.static "java/util/ArrayList" "DEFAULTCAPACITY_EMPTY_ELEMENTDATA" "[Ljava/lang/Object;")) (.int 0)) (by decide +kernel))
  obtain ⟨d, hd, hT0⟩ := va_Tof (tm := (.static "java/util/ArrayList" "DEFAULTCAPACITY_EMPTY_ELEMENTDATA" "[Ljava/lang/Object;")) (ty := .object "java/lang/Object") (N := 0) (f := fun _ => .null) (A := fun a : Nat => s.heap.size ≤ a) (by decide) (hn (.arrayOf (.static "java/util/ArrayList" "DEFAULTCAPACITY_EMPTY_ELEMENTDATA" "[Ljava/lang/Object;") (.object "java/lang/Object")) (by decide +kernel)) hlen (fun j hj => absurd hj (Nat.not_lt_zero j)) hAll
  have hZ0 := va_Zof (A := fun a : Nat => s.heap.size ≤ a) (hts0 (.laysStatic "java/util/ArrayList" "DEFAULTCAPACITY_EMPTY_ELEMENTDATA" "[Ljava/lang/Object;") (by decide +kernel)) (hts0 (.initialized "java/util/ArrayList") (by decide +kernel)) hd hAll
  have hCa : zCast s := by
    intro ci hci
    rcases hci with rfl | rfl | rfl
    · exact va_Nw.of (w := .castable RX4 "java/lang/Object") rfl (hts0 _ (by decide +kernel))
    · exact va_Nw.of (w := .castable RX0 "java/lang/Object") rfl (hts0 _ (by decide +kernel))
    · exact va_Nw.of (w := .castable RX3 "java/lang/Object") rfl (hts0 _ (by decide +kernel))
  have hLx : zLx s := by
    refine ⟨fun i hi => ?_, fun i j hi hj hij => ?_⟩
    · rcases (show i = 0 ∨ i = 1 ∨ i = 2 by omega) with rfl | rfl | rfl
      · exact va_Nw.of (w := .castable "java/lang/IndexOutOfBoundsException" "java/lang/IndexOutOfBoundsException") rfl (hts0 _ (by decide +kernel))
      · exact va_Nw.of (w := .castable "java/lang/IllegalArgumentException" "java/lang/IllegalArgumentException") rfl (hts0 _ (by decide +kernel))
      · exact va_Nw.of (w := .castable "java/lang/IllegalStateException" "java/lang/IllegalStateException") rfl (hts0 _ (by decide +kernel))
    · rcases (show i = 0 ∨ i = 1 ∨ i = 2 by omega) with rfl | rfl | rfl <;> rcases (show j = 0 ∨ j = 1 ∨ j = 2 by omega) with rfl | rfl | rfl
      · exact absurd rfl hij
      · exact va_Nc.of (C := "java/lang/IndexOutOfBoundsException") (T := "java/lang/IllegalArgumentException") (hn _ (by decide +kernel))
      · exact va_Nc.of (C := "java/lang/IndexOutOfBoundsException") (T := "java/lang/IllegalStateException") (hn _ (by decide +kernel))
      · exact va_Nc.of (C := "java/lang/IllegalArgumentException") (T := "java/lang/IndexOutOfBoundsException") (hn _ (by decide +kernel))
      · exact absurd rfl hij
      · exact va_Nc.of (C := "java/lang/IllegalArgumentException") (T := "java/lang/IllegalStateException") (hn _ (by decide +kernel))
      · exact va_Nc.of (C := "java/lang/IllegalStateException") (T := "java/lang/IndexOutOfBoundsException") (hn _ (by decide +kernel))
      · exact va_Nc.of (C := "java/lang/IllegalStateException") (T := "java/lang/IllegalArgumentException") (hn _ (by decide +kernel))
      · exact absurd rfl hij
  exact ⟨((fun k => ([c0, c1, c2, c3, c4, c5, c6, c7 ] : List ClassId).getD k c0, fun k => ([i0, i1, i2, i3, i4, i5, i6, i7 ] : List (Nat → Nat)).getD k i0), fun k => ([y0, y1, y2, y3, y4, y5] : List ClassId).getD k y0), d, hK, ⟨⟨hUz, hSz, hNs⟩, hZ0, hT0, va_AO.of (hts0 (.arrayOver (.object "java/lang/Object")) (by decide +kernel)), va_Mi.of (hn (.isRef (.mirror "[Ljava/lang/Object;")) (by decide +kernel)), va_Dc.of (hts0 (.declares ⟨"java/lang/Object", "getClass", "()Ljava/lang/Class;"⟩) (by decide +kernel)), hCa, va_AO.of (hts0 (.arrayOver (.object "BoilerLog$Valve")) (by decide +kernel))⟩, hLx⟩
