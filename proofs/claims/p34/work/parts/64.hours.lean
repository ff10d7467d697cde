/-! hours, as the law lets them end -/
theorem w_rel {N : Nat → Nat} {T : Nat → Nat → Int32} {a n : Nat} (ha : a < n) : (sWatch N T a).1 1 + sAns T n ≤ N 1 + 1 + sAns (sWatch N T a).2 n := by
  unfold sWatch
  split
  · have e := sAns_upd (T := T) (v := 0) ha
    show N 1 + sAns T n ≤ N 1 + 1 + sAns (va_up T 16 (upd (T 16) a 0)) n
    rw [if_neg (by decide : ¬ (0 : Int32) = 1)] at e
    split at e <;> omega
  · split
    · show N 1 + sAns T n ≤ N 1 + 1 + sAns T n
      omega
    · rename_i hm hs
      obtain ⟨-, r16, -, r1⟩ := sRaise_3 (N := N) (T := T) (i := a)
      generalize sRaise N T a = S at r16 r1
      have hr : S.1 1 ≤ N 1 + 1 := by split at r1 <;> omega
      unfold sWatch1
      split
      · obtain ⟨-, -, t2⟩ := sTurn_1 (N := S.1) (T := S.2) (a := -1) (b := S.2 14 a) (o := decide (S.2 15 a = 1))
        have t16 := sTurn_16 (N := S.1) (T := S.2) (a := -1) (b := S.2 14 a) (o := decide (S.2 15 a = 1))
        generalize sTurn S.1 S.2 (-1) (S.2 14 a) (decide (S.2 15 a = 1)) = S2 at t2 t16
        have e := sAns_upd (T := S2.2) (v := 1) ha
        have ea : sAns S2.2 n = sAns T n := by unfold sAns; rw [t16, r16]
        rw [t16, r16, if_neg hs, if_pos rfl, ea] at e
        show S2.1 1 + sAns T n ≤ N 1 + 1 + sAns (va_up S2.2 16 (upd (S2.2 16) a 1)) n
        rw [t16, r16]
        omega
      · have e := sAns_upd (T := S.2) (v := 2) ha
        have ea : sAns S.2 n = sAns T n := by unfold sAns; rw [r16]
        rw [r16, if_neg hs, if_neg (by decide : ¬ (2 : Int32) = 1), ea] at e
        show S.1 1 + sAns T n ≤ N 1 + 1 + sAns (va_up S.2 16 (upd (S.2 16) a 2)) n
        rw [r16]
        omega
theorem ws_rel {N : Nat → Nat} {T : Nat → Nat → Int32} {n : Nat} : ∀ {a : Nat}, a ≤ n → (sWatches a N T).1 1 + sAns T n ≤ N 1 + a + sAns (sWatches a N T).2 n
  | 0, _ => Nat.le_refl _
  | a + 1, h => by
    have h1 := ws_rel (N := N) (T := T) (n := n) (a := a) (by omega)
    have h2 := w_rel (N := (sWatches a N T).1) (T := (sWatches a N T).2) (a := a) (n := n) (by omega)
    show (sWatch (sWatches a N T).1 (sWatches a N T).2 a).1 1 + sAns T n ≤ N 1 + (a + 1) + sAns (sWatch (sWatches a N T).1 (sWatches a N T).2 a).2 n
    omega
theorem sHour_T {N : Nat → Nat} {T : Nat → Nat → Int32} {k : Nat} (hk : k ≠ 19) : (sHour N T).2 k = (sWatches (N 3) N (sLeads 8 N T).2).2 k := by
  rw [sHour_eq]
  dsimp only
  split
  · rw [va_up_ne _ _ hk]
  · rfl
theorem h_rel {N : Nat → Nat} {T : Nat → Nat → Int32} : (sHour N T).1 1 + sAns T (N 3) ≤ N 1 + N 3 + sAns (sHour N T).2 (N 3) := by
  have h := ws_rel (N := N) (T := (sLeads 8 N T).2) (n := N 3) (a := N 3) (Nat.le_refl _)
  have e1 : sAns (sLeads 8 N T).2 (N 3) = sAns T (N 3) := by unfold sAns; rw [sLeads_same.2.2.2]
  have e2 : sAns (sHour N T).2 (N 3) = sAns (sWatches (N 3) N (sLeads 8 N T).2).2 (N 3) := by unfold sAns; rw [sHour_T (by omega)]
  rw [sHour_n1, e2, ← e1]
  exact h
theorem hs_rel {N : Nat → Nat} {T : Nat → Nat → Int32} : ∀ {k : Nat}, (sHours k N T).1 1 + sAns T (N 3) ≤ N 1 + N 3 * k + sAns (sHours k N T).2 (N 3)
  | 0 => Nat.le_refl _
  | k + 1 => by
    have h1 := hs_rel (N := N) (T := T) (k := k)
    have h2 := h_rel (N := (sHours k N T).1) (T := (sHours k N T).2)
    rw [sHours_keep.1 3 (by omega)] at h2
    show (sHour (sHours k N T).1 (sHours k N T).2).1 1 + sAns T (N 3) ≤ N 1 + N 3 * (k + 1) + sAns (sHour (sHours k N T).1 (sHours k N T).2).2 (N 3)
    rw [Nat.mul_succ]
    omega
theorem hs_1 {N : Nat → Nat} {T : Nat → Nat → Int32} {k : Nat} (h3 : N 3 ≤ 3) : (sHours k N T).1 1 ≤ N 1 + 3 * k + 3 := by
  have h1 := hs_rel (N := N) (T := T) (k := k)
  have h2 : sAns (sHours k N T).2 (N 3) ≤ N 3 := sCnt_le _ _
  have h4 : N 3 * k ≤ 3 * k := Nat.mul_le_mul_right k h3
  omega
theorem sLeads_19 {N : Nat → Nat} {T : Nat → Nat → Int32} : ∀ {i : Nat}, (sLeads i N T).2 19 0 = T 19 0
  | 0 => rfl
  | i + 1 => by
    have h := sLeads_19 (N := N) (T := T) (i := i)
    show (if (sLeads i N T).2 3 i = 0 then sLeads i N T else sLed (sLeads i N T).1 (sLeads i N T).2 i).2 19 0 = T 19 0
    split
    · exact h
    · unfold sLed
      split
      · exact h
      · exact h
theorem sLH_l8 {N : Nat → Nat} {T : Nat → Nat → Int32} (h : sLH N T) : sLH N (sLeads 8 N T).2 := by
  have hk := sLeads_keep (N := N) (T := T) (i := 8)
  exact sLH_eq h rfl rfl sLeads_same.2.1 (hk.2 2 (by omega) (by omega) (by omega) (by omega) (by omega)) (hk.2 7 (by omega) (by omega) (by omega) (by omega) (by omega)) (hk.2 10 (by omega) (by omega) (by omega) (by omega) (by omega)) (hk.2 18 (by omega) (by omega) (by omega) (by omega) (by omega))
theorem sLG_l8 {N : Nat → Nat} {T : Nat → Nat → Int32} (h : sLG N T) : sLG N (sLeads 8 N T).2 := by
  have hk := sLeads_keep (N := N) (T := T) (i := 8)
  exact sLG_eq h rfl rfl sLeads_same.2.1 sLeads_same.2.2.1 (hk.2 8 (by omega) (by omega) (by omega) (by omega) (by omega)) (hk.2 10 (by omega) (by omega) (by omega) (by omega) (by omega))
theorem sLH_hour {N : Nat → Nat} {T : Nat → Nat → Int32} {K : Nat} (h : sLH N T) (hI : sInv N T K 0) : sLH (sHour N T).1 (sHour N T).2 := by
  have h2 := sLH_watches (sLH_l8 h) (sInv_l8 hI) (Nat.le_refl (N 3))
  have hk := sHour_keep (N := N) (T := T)
  have kw := sWatches_keep (N := N) (T := (sLeads 8 N T).2) (i := N 3)
  exact sLH_eq h2 sHour_n1 (by rw [hk.1 2 (by omega), kw.1 2 (by omega)]) (sHour_T (by omega)) (sHour_T (by omega)) (sHour_T (by omega)) (sHour_T (by omega)) (sHour_T (by omega))
theorem sLH_hours {N : Nat → Nat} {T : Nat → Nat → Int32} {K : Nat} (h : sLH N T) (hI : sInv N T K 0) : ∀ {k : Nat}, N 0 + k ≤ 2000 → sLH (sHours k N T).1 (sHours k N T).2
  | 0, _ => h
  | k + 1, hk => sLH_hour (sLH_hours h hI (k := k) (by omega)) (sInv_hours hI (k := k) (by omega)).1
theorem sLv_hour {N : Nat → Nat} {T : Nat → Nat → Int32} {K : Nat} (h : sLv T) (hI : sInv N T K 0) : sLv (sHour N T).2 := by
  have h1 := sLeads_lv (N := N) (T := T) hI.2.2.1 h (i := 8) (by omega)
  intro i hi
  rw [sHour_T (by omega), sWatches_6.1]
  exact h1 i hi
theorem sLv_hours {N : Nat → Nat} {T : Nat → Nat → Int32} {K : Nat} (h : sLv T) (hI : sInv N T K 0) : ∀ {k : Nat}, N 0 + k ≤ 2000 → sLv (sHours k N T).2
  | 0, _ => h
  | k + 1, hk => sLv_hour (sLv_hours h hI (k := k) (by omega)) (sInv_hours hI (k := k) (by omega)).1
/-- the law's arrays behind flow -/
theorem sLR_flow {N : Nat → Nat} {T : Nat → Nat → Int32} {E : Nat → Int64} {F : Nat → Nat → Int32} {l : Nat → Int32} {g : Int32} (h : sLR N T E F) (hr : uRow N T 8 l g) : sLR N (sLeads 8 N T).2 E (va_up (va_up F 2 l) 9 (upd (F 9) 3 g)) := by
  obtain ⟨r0, r1, r2, r3, r4, r5, r6, r7, rt, ⟨q0, q1, q2, q3, q4, q5, q6, q7, q8⟩⟩ := h
  have hk := sLeads_keep (N := N) (T := T) (i := 8)
  have e : ∀ k, k ≠ 0 → k ≠ 3 → k ≠ 6 → k ≠ 16 → k ≠ 19 → (sLeads 8 N T).2 k = T k := hk.2
  have e16 := (sLeads_same (N := N) (T := T) (i := 8)).2.2.2
  refine ⟨by rw [sLeads_same.2.1]; exact r0, fun v hv => ?_, fun i hi => hr.1 i hi, fun a ha => ?_, fun t ht => ?_, ?_, fun p hp => ?_, fun m hm => ?_, ?_, ⟨q0, q1, ?_, hr.2, q4, q5, q6, q7, q8⟩⟩
  · rw [e 4 (by omega) (by omega) (by omega) (by omega) (by omega), e 5 (by omega) (by omega) (by omega) (by omega) (by omega)]; exact r1 v hv
  · rw [sPa_cg (e 11 (by omega) (by omega) (by omega) (by omega) (by omega)) (e 12 (by omega) (by omega) (by omega) (by omega) (by omega)) (e 13 (by omega) (by omega) (by omega) (by omega) (by omega)) (e 14 (by omega) (by omega) (by omega) (by omega) (by omega)) (e 15 (by omega) (by omega) (by omega) (by omega) (by omega)) (by rw [e16])]; exact r3 a ha
  · rw [e 8 (by omega) (by omega) (by omega) (by omega) (by omega)]; exact r4 t ht
  · unfold sR5; rw [e 9 (by omega) (by omega) (by omega) (by omega) (by omega), e 10 (by omega) (by omega) (by omega) (by omega) (by omega)]; exact r5
  · rw [e 1 (by omega) (by omega) (by omega) (by omega) (by omega)]; exact r6 p hp
  · rw [e (20 + m) (by omega) (by omega) (by omega) (by omega) (by omega)]; exact r7 m hm
  · unfold sRt; rw [e 17 (by omega) (by omega) (by omega) (by omega) (by omega)]; exact rt
  · rw [sLeads_19]; exact q2
/-- the law's arrays behind the hour's end -/
theorem sLR_hr {N : Nat → Nat} {T T2 : Nat → Nat → Int32} {E : Nat → Int64} {F : Nat → Nat → Int32} {f9 : Nat → Int32} (h : sLR N T E F) (hT : ∀ k, k ≠ 19 → T2 k = T k) (h0 : f9 0 = nI (N 0 + 1)) (h2 : f9 2 = T2 19 0) (h3 : T2 19 1 = T 19 1) (h9 : ∀ k, k ≠ 0 → k ≠ 2 → f9 k = F 9 k) : sLR (va_up N 0 (N 0 + 1)) T2 E (va_up F 9 f9) := by
  obtain ⟨r0, r1, r2, r3, r4, r5, r6, r7, rt, ⟨q0, q1, q2, q3, q4, q5, q6, q7, q8⟩⟩ := h
  refine ⟨by rw [hT 0 (by omega)]; exact r0, fun v hv => ?_, fun i hi => ?_, fun a ha => ?_, fun t ht => ?_, ?_, fun p hp => ?_, fun m hm => ?_, ?_, ⟨h0, (h9 1 (by omega) (by omega)).trans q1, h2, (h9 3 (by omega) (by omega)).trans (q3.trans h3.symm), (h9 4 (by omega) (by omega)).trans q4, (h9 5 (by omega) (by omega)).trans q5, (h9 6 (by omega) (by omega)).trans q6, (h9 7 (by omega) (by omega)).trans q7, (h9 8 (by omega) (by omega)).trans q8⟩⟩
  · rw [hT 4 (by omega), hT 5 (by omega)]; exact r1 v hv
  · rw [hT 6 (by omega)]; exact r2 i hi
  · rw [sPa_cg (hT 11 (by omega)) (hT 12 (by omega)) (hT 13 (by omega)) (hT 14 (by omega)) (hT 15 (by omega)) (by rw [hT 16 (by omega)])]; exact r3 a ha
  · rw [hT 8 (by omega)]; exact r4 t ht
  · unfold sR5; rw [hT 9 (by omega), hT 10 (by omega)]; exact r5
  · rw [hT 1 (by omega)]; exact r6 p hp
  · show ∃ D : Nat → Nat, sTx D (T2 (20 + m)) (va_up N 0 _ (20 + m)) ∧ va_up N 0 _ (20 + m) ≤ 9 ∧ F 7 m = nI (va_up N 0 _ (20 + m) + 16 * sP8 D (va_up N 0 _ (20 + m)))
    rw [va_up_ne _ _ (by omega), hT (20 + m) (by omega)]; exact r7 m hm
  · unfold sRt
    rw [hT 17 (by omega), show va_up F 9 f9 9 9 = F 9 9 from h9 9 (by omega) (by omega)]
    exact rt
theorem sHr_y {N : Nat → Nat} {T : Nat → Nat → Int32} {E : Nat → Int64} {F : Nat → Nat → Int32} (h : sLR (sWatches (N 3) N (sLeads 8 N T).2).1 (sWatches (N 3) N (sLeads 8 N T).2).2 E F) (c : (N 0 + 1) % 8 = 0) : sLR (sHour N T).1 (sHour N T).2 E (va_up F 9 (upd (upd (F 9) 0 (nI (N 0 + 1))) 2 (nI ((sWatches (N 3) N (sLeads 8 N T).2).1 1)))) := by
  have e0 : (sWatches (N 3) N (sLeads 8 N T).2).1 0 = N 0 := sWatches_0
  rw [sHour_eq]
  dsimp only
  rw [if_pos (by rw [e0]; exact c)]
  exact sLR_hr h (fun k hk => va_up_ne _ _ hk) (by rw [e0]; rfl) rfl rfl (fun k h0 h2 => by rw [upd_no h2, upd_no h0])
theorem sHr_n {N : Nat → Nat} {T : Nat → Nat → Int32} {E : Nat → Int64} {F : Nat → Nat → Int32} (h : sLR (sWatches (N 3) N (sLeads 8 N T).2).1 (sWatches (N 3) N (sLeads 8 N T).2).2 E F) (c : ¬ (N 0 + 1) % 8 = 0) : sLR (sHour N T).1 (sHour N T).2 E (va_up F 9 (upd (F 9) 0 (nI (N 0 + 1)))) := by
  have e0 : (sWatches (N 3) N (sLeads 8 N T).2).1 0 = N 0 := sWatches_0
  rw [sHour_eq]
  dsimp only
  rw [if_neg (by rw [e0]; exact c)]
  exact sLR_hr h (fun k hk => rfl) (by rw [e0]; rfl) (by show upd (F 9) 0 _ 2 = _; rw [upd_no (by omega)]; exact h.2.2.2.2.2.2.2.2.2.2.2.1) rfl (fun k h0 h2 => by rw [upd_no h0])
/-- what the law knows as an hour begins -/
theorem hr_facts {N : Nat → Nat} {T : Nat → Nat → Int32} {E : Nat → Int64} {F : Nat → Nat → Int32} {K i : Nat} (hJ : sLJ N T K) (hb : N 1 ≤ 90 ∧ N 0 ≤ 1900) (hi : i ≤ 9) (hR : sLR (sHours i N T).1 (sHours i N T).2 E F) :
    ∃ (Nh : Nat → Nat) (Th : Nat → Nat → Int32), sHours i N T = (Nh, Th) ∧ sLR Nh Th E F ∧ sLQ Nh Th E F ∧ sInv Nh Th K 0 ∧ sLG Nh Th ∧ sLH Nh Th ∧ sLv Th ∧ (Nh 1 ≤ 120 ∧ Nh 3 = N 3 ∧ Nh 0 = N 0 + i) ∧ ∀ a, a < Nh 3 → ∃ x : Nat, x ≤ 1000 ∧ Th 12 a = nI x := by
  have h3 := hJ.2.1.2.2.1
  have h1 := hs_1 (N := N) (T := T) (k := i) h3
  obtain ⟨hI, e0⟩ := sInv_hours hJ.1.1 (k := i) (by omega)
  have hG := sLG_hours hJ.1.2 hJ.1.1 (k := i) (by omega)
  have hH := sLH_hours hJ.2.2.2.2 hJ.1.1 (k := i) (by omega)
  have hL := sLv_hours (T := T) hJ.2.2.1 hJ.1.1 (k := i) (by omega)
  have hk := sHours_keep (N := N) (T := T) (k := i)
  have e3 := hk.1 3 (by omega)
  have e12 := hk.2 12 (by omega) (by omega) (by omega) (by omega) (by omega)
  generalize sHours i N T = S at hR h1 hI e0 hG hH hL e3 e12
  obtain ⟨⟨i0, i2, i3, i4, i5, i6, i1⟩, hB, -, hT, -⟩ := id hI
  obtain ⟨r0, r1, r2, r3, r4, r5, r6, r7, rt, r9⟩ := id hR
  refine ⟨S.1, S.2, rfl, hR, ⟨r0, ⟨by omega, i2, i0, by omega⟩, ⟨r9.1, r9.2.1, r9.2.2.1, r9.2.2.2.2.2.1⟩, r4, r6, hG, hH, fun t ht => ⟨(hT t ht).1, (hT t ht).2.1⟩, fun j => (hB j).1⟩, hI, hG, hH, hL, ⟨by omega, e3, e0⟩, fun a ha => ?_⟩
  rw [e12]
  exact hJ.2.2.2.1 a (by omega)
theorem sLJ_hours {N : Nat → Nat} {T : Nat → Nat → Int32} {K h : Nat} (hJ : sLJ N T K) (hb : N 1 ≤ 90 ∧ N 0 ≤ 1900) (hh : h ≤ 9) (hk : sK2 (sIn (nI h) 1 100) (decide (nI (N 0) + nI h ≤ 2000)) = 0) : sLJ (sHours h N T).1 (sHours h N T).2 (K + 1) := by
  have h3 := hJ.2.1.2.2.1
  have h1 := hs_1 (N := N) (T := T) (k := h) h3
  obtain ⟨hI, e0⟩ := sInv_hours hJ.1.1 (k := h) (by omega)
  have hH := sLH_hours hJ.2.2.2.2 hJ.1.1 (k := h) (by omega)
  have hL := sLv_hours (T := T) hJ.2.2.1 hJ.1.1 (k := h) (by omega)
  have kk := sHours_keep (N := N) (T := T) (k := h)
  have hg := g_adv hJ.1 hk
  rw [nI_clamp (by omega)] at hg
  obtain ⟨⟨b1, b0, b3, b4, b5⟩, -, h12, -⟩ := hJ.2
  refine ⟨hg, ⟨by omega, by omega, by rw [kk.1 3 (by omega)]; exact b3, by rw [kk.1 4 (by omega)]; exact b4, by rw [kk.1 5 (by omega)]; exact b5⟩, hL, fun a ha => ?_, hH⟩
  rw [kk.1 3 (by omega)] at ha
  rw [kk.2 12 (by omega) (by omega) (by omega) (by omega) (by omega)]
  exact h12 a ha
theorem sIn_h {h : Nat} (h1 : 1 ≤ h) (h2 : h ≤ 100) : sIn (nI h) 1 100 = true := by
  rw [sIn, decide_eq_true (show (1 : Int32) ≤ nI h from (nI_leI (a := 1) (b := h) (by omega) (by omega)).mpr h1), decide_eq_true (show nI h ≤ (100 : Int32) from (nI_leI (a := h) (b := 100) (by omega) (by omega)).mpr h2)]
  rfl
theorem sAdv_h {a h : Nat} (h1 : a + h ≤ 2000) : decide (nI a + nI h ≤ 2000) = true := by
  rw [nI_add]
  exact decide_eq_true (show nI (a + h) ≤ (2000 : Int32) from (nI_leI (a := a + h) (b := 2000) (by omega) (by omega)).mpr h1)
/-- whether a hanging tag is this person's -/
theorem sHo_is {N : Nat → Nat} {T : Nat → Nat → Int32} {i p : Nat} (hT : ∀ t, t < N 2 → vp_in (T 7 t) 9 ∧ vp_in (T 8 t) 8) (hi : i < N 2) (h4 : N 2 ≤ 40) (hp : p < 9) : sHo T (nI i) = nI p ↔ (T 10 i = 0 ∧ T 7 i = nI p) := by
  have e : (nI i).toNatClampNeg = i := nI_clamp (by omega)
  by_cases c : T 10 i = 0
  · rw [(sHo_n hT hi h4).2 c]
    exact ⟨fun h => ⟨c, h⟩, fun h => h.2⟩
  · rw [sHo_off (by rw [e]; exact c)]
    exact ⟨fun h => absurd h.symm (zNm1 (by omega)), fun h => absurd h.1 c⟩
