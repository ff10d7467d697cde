/-! what each call does to the law's arrays, and keeps -/
theorem sLR_note {N : Nat → Nat} {T : Nat → Nat → Int32} {E E1 : Nat → Int64} {F : Nat → Nat → Int32} {a b c : Int32} (h : sLR N T E F) (hE : sRE E1 (upd (T 0) (N 1) (sCode (N 0) a b c)) (N 1 + 1)) : sLR (sNote N T a b c).1 (sNote N T a b c).2 E1 (va_up F 9 (upd (F 9) 1 (nI (N 1 + 1)))) := by
  obtain ⟨r0, r1, r2, r3, r4, r5, r6, r7, rt, ⟨q0, q1, q2, q3, q4, q5, q6, q7, q8⟩⟩ := h
  refine ⟨hE, r1, r2, r3, r4, r5, r6, fun m hm => ?_, rt, ⟨q0, rfl, q2, q3, q4, q5, q6, q7, q8⟩⟩
  show ∃ D : Nat → Nat, sTx D (va_up T 0 _ (20 + m)) (va_up N 1 _ (20 + m)) ∧ va_up N 1 _ (20 + m) ≤ 9 ∧ F 7 m = nI (va_up N 1 _ (20 + m) + 16 * sP8 D (va_up N 1 _ (20 + m)))
  rw [va_up_ne _ _ (by omega), va_up_ne _ _ (by omega)]
  exact r7 m hm
/-- the tables' rows that the law's arrays hold, told to be the same -/
theorem sLR_T {N : Nat → Nat} {T T2 : Nat → Nat → Int32} {E : Nat → Int64} {F : Nat → Nat → Int32} (h : sLR N T E F) (h0 : T2 0 = T 0) (h1 : T2 1 = T 1) (h4 : T2 4 = T 4) (h5 : T2 5 = T 5) (h6 : T2 6 = T 6) (h8 : T2 8 = T 8) (h9 : T2 9 = T 9) (h10 : T2 10 = T 10) (hal : ∀ k, 11 ≤ k → k ≤ 17 → T2 k = T k) (h19 : T2 19 = T 19) (hm : ∀ m, T2 (20 + m) = T (20 + m)) : sLR N T2 E F := by
  obtain ⟨r0, r1, r2, r3, r4, r5, r6, r7, rt, r9⟩ := h
  refine ⟨by rw [h0]; exact r0, fun v hv => by rw [h4, h5]; exact r1 v hv, fun i hi => by rw [h6]; exact r2 i hi, fun a ha => ?_, fun t ht => by rw [h8]; exact r4 t ht, ?_, fun p hp => by rw [h1]; exact r6 p hp, fun m hm2 => by rw [hm m]; exact r7 m hm2, ?_, ?_⟩
  · rw [sPa_cg (hal 11 (by omega) (by omega)) (hal 12 (by omega) (by omega)) (hal 13 (by omega) (by omega)) (hal 14 (by omega) (by omega)) (hal 15 (by omega) (by omega)) (by rw [hal 16 (by omega) (by omega)])]
    exact r3 a ha
  · unfold sR5; rw [h9, h10]; exact r5
  · unfold sRt; rw [hal 17 (by omega) (by omega)]; exact rt
  · unfold sR9; rw [h19]; exact r9
section OPS
variable {N : Nat → Nat} {T : Nat → Nat → Int32} {E E1 : Nat → Int64} {F : Nat → Nat → Int32} {K : Nat} {p v f t x : Int32}
theorem sLR_pipe (h : sLR N T E F) (hv : v.toNatClampNeg < 8) : sLR N (nPipe N T v f t).2 E (va_up F 1 (upd (F 1) v.toNatClampNeg (f + 1 + 4 * (t + 1)))) := by
  obtain ⟨r0, r1, r2, r3, r4, r5, r6, r7, rt, r9⟩ := h
  refine ⟨r0, fun k hk => ?_, r2, r3, r4, r5, r6, fun m hm => ?_, rt, r9⟩
  · show upd (F 1) v.toNatClampNeg (f + 1 + 4 * (t + 1)) k = upd (T 4) v.toNatClampNeg f k + 1 + 4 * (upd (T 5) v.toNatClampNeg t k + 1)
    by_cases c : k = v.toNatClampNeg
    · rw [c, upd_at, upd_at, upd_at]
    · rw [upd_no c, upd_no c, upd_no c]; exact r1 k hk
  · show ∃ D : Nat → Nat, sTx D (va_up (va_up T 4 _) 5 _ (20 + m)) (N (20 + m)) ∧ _
    rw [va_up_ne _ _ (by omega), va_up_ne _ _ (by omega)]
    exact r7 m hm
theorem sLR_turn {o : Bool} (h : sLR N T E F) (hc : ¬ T 3 v.toNatClampNeg = zb o) (hE : sRE E1 (upd (T 0) (N 1) (sCode (N 0) 0 p (v + if o then 10 else 0))) (N 1 + 1)) : sLR (sTurn N T p v o).1 (sTurn N T p v o).2 E1 (va_up F 9 (upd (F 9) 1 (nI (N 1 + 1)))) := by
  rw [sTurn_y hc]
  exact sLR_note (T := va_up T 3 _) (sLR_T h rfl rfl rfl rfl rfl rfl rfl rfl (fun k h1 h2 => va_up_ne _ _ (by omega)) rfl (fun m => va_up_ne _ _ (by omega))) hE
theorem sLR_hang (h : sLR N T E F) (hE : sRE E1 (upd (T 0) (N 1) (sCode (N 0) 1 p (nI (N 2)))) (N 1 + 1)) : sLR (nHang N T p v).1 (nHang N T p v).2 E1 (va_up (va_up F 4 (upd (F 4) (N 2) v)) 9 (upd (upd (F 9) 1 (nI (N 1 + 1))) 5 (nI (N 2 + 1)))) := by
  obtain ⟨r0, r1, r2, r3, r4, ⟨r5a, r5b⟩, r6, r7, rt, ⟨q0, q1, q2, q3, q4, q5, q6, q7, q8⟩⟩ := h
  refine ⟨hE, r1, r2, r3, fun k hk => ?_, ⟨fun k hk => ?_, fun k hk h10 => ?_⟩, r6, fun m hm => ?_, rt, ⟨q0, rfl, q2, q3, q4, rfl, q6, q7, q8⟩⟩
  · have hk : k < N 2 + 1 := hk
    show upd (F 4) (N 2) v k = upd (T 8) (N 2) v k
    by_cases c : k = N 2
    · rw [c, upd_at, upd_at]
    · rw [upd_no c, upd_no c]; exact r4 k (by omega)
  · have hk : N 2 + 1 ≤ k := hk
    exact r5a k (by omega)
  · have hk : k < N 2 + 1 := hk
    show F 5 k = if upd (T 9) (N 2) (-1) k = -1 then 0 else (1 : Int32) <<< (upd (T 9) (N 2) (-1) k &&& 31)
    by_cases c : k = N 2
    · rw [c, upd_at, if_pos rfl]; exact r5a (N 2) (Nat.le_refl _)
    · have h10 : upd (T 10) (N 2) 0 k = 0 := h10
      rw [upd_no c] at h10 ⊢
      exact r5b k (by omega) h10
  · show ∃ D : Nat → Nat, sTx D (va_up (va_up (va_up (va_up (va_up T 7 _) 8 _) 9 _) 10 _) 0 _ (20 + m)) (va_up (va_up N 1 _) 2 _ (20 + m)) ∧ va_up (va_up N 1 _) 2 _ (20 + m) ≤ 9 ∧ F 7 m = nI (va_up (va_up N 1 _) 2 _ (20 + m) + 16 * sP8 D (va_up (va_up N 1 _) 2 _ (20 + m)))
    rw [va_up_ne _ _ (by omega), va_up_ne _ _ (by omega), va_up_ne _ _ (by omega), va_up_ne _ _ (by omega), va_up_ne _ _ (by omega), va_up_ne _ _ (by omega), va_up_ne _ _ (by omega)]
    exact r7 m hm
/-- a tag comes off: whatever the law's row of askers says of it then -/
theorem sLR_off {f5 : Nat → Int32} (h : sLR N T E F) (ht : x.toNatClampNeg < N 2) (h5 : ∀ k, k ≠ x.toNatClampNeg → f5 k = F 5 k) (hE : sRE E1 (upd (T 0) (N 1) (sCode (N 0) 2 p x)) (N 1 + 1)) : sLR (sNote N (va_up T 10 (upd (T 10) x.toNatClampNeg 1)) 2 p x).1 (sNote N (va_up T 10 (upd (T 10) x.toNatClampNeg 1)) 2 p x).2 E1 (va_up (va_up F 5 f5) 9 (upd (F 9) 1 (nI (N 1 + 1)))) := by
  have h2 : sLR N (va_up T 10 (upd (T 10) x.toNatClampNeg 1)) E (va_up F 5 f5) := by
    obtain ⟨r0, r1, r2, r3, r4, ⟨r5a, r5b⟩, r6, r7, rt, r9⟩ := h
    refine ⟨r0, r1, r2, r3, r4, ⟨fun k hk => ?_, fun k hk h10 => ?_⟩, r6, fun m hm => ?_, rt, r9⟩
    · show f5 k = 0
      rw [h5 k (by omega)]; exact r5a k hk
    · have h10 : upd (T 10) x.toNatClampNeg 1 k = 0 := h10
      by_cases c : k = x.toNatClampNeg
      · rw [c, upd_at] at h10; exact absurd h10 (by decide)
      · rw [upd_no c] at h10
        show f5 k = _
        rw [h5 k c]; exact r5b k hk h10
    · show ∃ D : Nat → Nat, sTx D (va_up T 10 _ (20 + m)) (N (20 + m)) ∧ _
      rw [va_up_ne _ _ (by omega)]; exact r7 m hm
  exact sLR_note (F := va_up F 5 f5) h2 hE
/-- somebody asks -/
theorem sLR_ask {z : Int32} (h : sLR N T E F) (ht : x.toNatClampNeg < N 2) (hz : z = if p = -1 then 0 else (1 : Int32) <<< (p &&& 31)) : sLR N (va_up T 9 (upd (T 9) x.toNatClampNeg p)) E (va_up F 5 (upd (F 5) x.toNatClampNeg z)) := by
  obtain ⟨r0, r1, r2, r3, r4, ⟨r5a, r5b⟩, r6, r7, rt, r9⟩ := h
  refine ⟨r0, r1, r2, r3, r4, ⟨fun k hk => ?_, fun k hk h10 => ?_⟩, r6, fun m hm => ?_, rt, r9⟩
  · show upd (F 5) x.toNatClampNeg z k = 0
    rw [upd_no (by omega)]; exact r5a k hk
  · show upd (F 5) x.toNatClampNeg z k = if upd (T 9) x.toNatClampNeg p k = -1 then 0 else (1 : Int32) <<< (upd (T 9) x.toNatClampNeg p k &&& 31)
    by_cases c : k = x.toNatClampNeg
    · rw [c, upd_at, upd_at]; exact hz
    · rw [upd_no c, upd_no c]; exact r5b k hk h10
  · show ∃ D : Nat → Nat, sTx D (va_up T 9 _ (20 + m)) (N (20 + m)) ∧ _
    rw [va_up_ne _ _ (by omega)]; exact r7 m hm
theorem sLR_read (h : sLR N T E F) : sLR N (nRead N T p).2 E (va_up F 6 (upd (F 6) p.toNatClampNeg (nI (N 1)))) := by
  obtain ⟨r0, r1, r2, r3, r4, r5, r6, r7, rt, r9⟩ := h
  refine ⟨r0, r1, r2, r3, r4, r5, fun k hk => ?_, fun m hm => ?_, rt, r9⟩
  · show upd (F 6) p.toNatClampNeg (nI (N 1)) k = upd (T 1) p.toNatClampNeg (nI (N 1)) k
    by_cases c : k = p.toNatClampNeg
    · rw [c, upd_at, upd_at]
    · rw [upd_no c, upd_no c]; exact r6 k hk
  · show ∃ D : Nat → Nat, sTx D (va_up T 1 _ (20 + m)) (N (20 + m)) ∧ _
    rw [va_up_ne _ _ (by omega)]; exact r7 m hm
theorem sLR_leave (h : sLR N T E F) (hE : sRE E1 (upd (T 0) (N 1) (sCode (N 0) 4 p 0)) (N 1 + 1)) : sLR (nLeave N T p).1 (nLeave N T p).2 E1 (va_up F 9 (upd (F 9) 1 (nI (N 1 + 1)))) :=
  sLR_note (T := va_up T 2 _) (sLR_T h rfl rfl rfl rfl rfl rfl rfl rfl (fun k h1 h2 => va_up_ne _ _ (by omega)) rfl (fun m => va_up_ne _ _ (by omega))) hE
theorem sLR_fin (h : sLR N T E F) (hE : sRE E1 (upd (T 0) (N 1) (sCode (N 0) 6 p x)) (N 1 + 1)) : sLR (nFin N T p x).1 (nFin N T p x).2 E1 (va_up F 9 (upd (F 9) 1 (nI (N 1 + 1)))) :=
  sLR_note (T := va_up T 18 _) (sLR_T h rfl rfl rfl rfl rfl rfl rfl rfl (fun k h1 h2 => va_up_ne _ _ (by omega)) rfl (fun m => va_up_ne _ _ (by omega))) hE
theorem sLR_alarm {b o : Bool} (h : sLR N T E F) (h16 : T 16 (N 3) = 0) : sLR (nAlarm N T x f b v o).1 (nAlarm N T x f b v o).2 E (va_up (va_up F 3 (upd (F 3) (N 3) (x + (if zb b = 0 then 0 else 4) + 8 * v + (if zb o = 0 then 0 else 64) + 128 * f))) 9 (upd (F 9) 4 (nI (N 3 + 1)))) := by
  obtain ⟨r0, r1, r2, r3, r4, r5, r6, r7, rt, ⟨q0, q1, q2, q3, q4, q5, q6, q7, q8⟩⟩ := h
  refine ⟨r0, r1, r2, fun k hk => ?_, r4, r5, r6, fun m hm => ?_, rt, ⟨q0, q1, q2, q3, rfl, q5, q6, q7, q8⟩⟩
  · have hk : k < N 3 + 1 := hk
    show upd (F 3) (N 3) _ k = upd (T 11) (N 3) x k + (if upd (T 13) (N 3) (zb b) k = 0 then 0 else 4) + 8 * upd (T 14) (N 3) v k + (if upd (T 15) (N 3) (zb o) k = 0 then 0 else 64) + 128 * upd (T 12) (N 3) f k + 262144 * T 16 k
    by_cases c : k = N 3
    · rw [c, upd_at, upd_at, upd_at, upd_at, upd_at, upd_at, h16, Int32.mul_zero, Int32.add_zero]
    · rw [upd_no c, upd_no c, upd_no c, upd_no c, upd_no c, upd_no c]; exact r3 k (by omega)
  · show ∃ D : Nat → Nat, sTx D (va_up (va_up (va_up (va_up (va_up T 11 _) 12 _) 13 _) 14 _) 15 _ (20 + m)) (va_up N 3 _ (20 + m)) ∧ va_up N 3 _ (20 + m) ≤ 9 ∧ F 7 m = nI (va_up N 3 _ (20 + m) + 16 * sP8 D (va_up N 3 _ (20 + m)))
    rw [va_up_ne _ _ (by omega), va_up_ne _ _ (by omega), va_up_ne _ _ (by omega), va_up_ne _ _ (by omega), va_up_ne _ _ (by omega), va_up_ne _ _ (by omega)]
    exact r7 m hm
/-- what holds at the law's head stays -/
theorem sL2_same {N2 : Nat → Nat} {T2 : Nat → Nat → Int32} (h : sL2 N T) (n1 : N2 1 ≤ 120) (n0 : N2 0 = N 0) (n3 : N2 3 = N 3) (n4 : N2 4 ≤ 9) (n5 : N2 5 ≤ 12) (t6 : T2 6 = T 6) (t12 : T2 12 = T 12) (hH : sLH N2 T2) : sL2 N2 T2 := by
  obtain ⟨⟨b1, b0, b3, b4, b5⟩, h6, h12, -⟩ := h
  refine ⟨⟨n1, by omega, by omega, n4, n5⟩, by rw [t6]; exact h6, by rw [t12, n3]; exact h12, hH⟩
theorem sK2_ok {a b : Bool} (h1 : a = true) (h2 : b = true) : sK2 a b = 0 := by rw [h1, h2]; rfl
theorem sK2_1' {a b : Bool} (h : a = false) : sK2 a b = 1 := by rw [h]; rfl
theorem sK2_2' {a b : Bool} (h : a = true) (h2 : b = false) : sK2 a b = 2 := by rw [h, h2]; rfl
theorem sK1_ok {a : Bool} (h : a = true) : sK1 a = 0 := by rw [h]; rfl
theorem sK1_1' {a : Bool} (h : a = false) : sK1 a = 1 := by rw [h]; rfl
theorem sK3_ok {a b c : Bool} (h1 : a = true) (h2 : b = true) (h3 : c = true) : sK3 a b c = 0 := by rw [h1, h2, h3]; rfl
theorem sK3_1' {a b c : Bool} (h : a = false) : sK3 a b c = 1 := by rw [h]; rfl
theorem sK3_2' {a b c : Bool} (h : a = true) (h2 : b = false) : sK3 a b c = 2 := by rw [h, h2]; rfl
theorem sK3_3' {a b c : Bool} (h : a = true) (h2 : b = true) (h3 : c = false) : sK3 a b c = 3 := by rw [h, h2, h3]; rfl
theorem sLJ_pipe (h : sLJ N T K) (hk : sK3 (sIx v 8) (((sEnd f) && (sEnd t)) && !decide (f = t)) (decide (T 3 v.toNatClampNeg = 0)) = 0) : sLJ N (nPipe N T v f t).2 (K + 1) :=
  ⟨g_pipe h.1 hk, sL2_same h.2 h.2.1.1 rfl rfl h.2.1.2.2.2.1 h.2.1.2.2.2.2 rfl rfl (sLH_eq h.2.2.2.2 rfl rfl rfl rfl rfl rfl rfl)⟩
theorem sLJ_turn {o : Bool} (h : sLJ N T K) (hb : N 1 ≤ 90) (hk : sK2 ((sIx p 9) && (sIx v 8)) (decide (sBars N T p v = 0)) = 0) : sLJ (sTurn N T p v o).1 (sTurn N T p v o).2 (K + 1) := by
  obtain ⟨i1, i2⟩ := sAndI (sK2_0 hk).1
  obtain ⟨w, hw, ew⟩ := s_who (sIx_in.mp i1)
  obtain ⟨t0, -, t1⟩ := sTurn_1 (N := N) (T := T) (a := p) (b := v) (o := o)
  have kp := sTurn_keep (N := N) (T := T) (a := p) (b := v) (o := o)
  refine ⟨g_turn h.1 hk, sL2_same h.2 (by omega) t0 (kp.1 3 (by omega)) (by rw [kp.1 4 (by omega)]; exact h.2.1.2.2.2.1) (by rw [kp.1 5 (by omega)]; exact h.2.1.2.2.2.2) sTurn_6.1 (kp.2 12 (by omega) (by omega) (by omega) (by omega) (by omega)) (sLH_turn h.2.2.2.2 h.1.1.1.1 h.1.1.1.2.1 (sIx_in.mp i2) hw ew)⟩
theorem sLJ_hang (h : sLJ N T K) (hb : N 1 ≤ 90) (hk : sK2 ((sIx p 9) && (sIx v 8)) ((sMay N T p) && !decide (N 2 = 40)) = 0) : sLJ (nHang N T p v).1 (nHang N T p v).2 (K + 1) := by
  obtain ⟨i1, i2⟩ := sAndI (sK2_0 hk).1
  obtain ⟨w, hw, ew⟩ := s_who (sIx_in.mp i1)
  have h40 : N 2 < 40 := by
    have h1 := (sAndI (sK2_0 hk).2).2
    have h2 := h.1.1.1.2.1
    simp only [Bool.not_eq_true', decide_eq_false_iff_not] at h1
    omega
  have hH := h.2.2.2.2
  refine ⟨g_hang h.1 hk, sL2_same h.2 (by show N 1 + 1 ≤ 120; omega) rfl rfl h.2.1.2.2.2.1 h.2.1.2.2.2.2 rfl rfl ?_⟩
  have ex : p = nI w - 1 := by rw [← ew]; exact (Int32.add_sub_cancel _ _).symm
  refine sLH_new (h0 := N 0) (kd := 1) (w := w) (x := N 2) hH h.1.1.1.1 (by omega) hw (by omega) (by show N 2 + 1 ≤ 40; omega) rfl (congrArg (upd (T 0) (N 1)) (sCd_code (h := N 0) (kd := 1) (w := w) (x := N 2) (a1 := 1) (a2 := p) (a3 := nI (N 2)) rfl ew rfl)) (fun q hq => ?_) (fun k hk2 => ?_) (fun k _ => ?_)
  · show T 2 q = _
    rw [hH.1 q hq, decide_eq_false (show ¬ (1 : Nat) = 4 by omega), Bool.false_and, Bool.or_false]
  · have hk2 : k < N 2 + 1 := hk2
    show _ = if upd (T 10) (N 2) 0 k = 0 then upd (T 7) (N 2) p k else -1
    by_cases c : k = N 2
    · rw [if_pos ⟨c.symm, Or.inl rfl⟩, if_pos rfl, c, upd_at, upd_at, if_pos rfl, ex]
    · rw [if_neg (fun z => c z.1.symm), upd_no c, upd_no c]; exact hH.2.1 k (by omega)
  · show _ = T 18 k
    rw [if_neg (by omega)]
theorem sLJ_read (h : sLJ N T K) : sLJ N (nRead N T p).2 (K + 1) :=
  ⟨g_read h.1, sL2_same h.2 h.2.1.1 rfl rfl h.2.1.2.2.2.1 h.2.1.2.2.2.2 rfl rfl (sLH_eq h.2.2.2.2 rfl rfl rfl rfl rfl rfl rfl)⟩
theorem sLJ_leave (h : sLJ N T K) (hb : N 1 ≤ 90) (hk : sK2 (sIx p 9) (decide (T 2 p.toNatClampNeg = 0)) = 0) : sLJ (nLeave N T p).1 (nLeave N T p).2 (K + 1) := by
  have i1 := sIx_in.mp (sK2_0 hk).1
  obtain ⟨w, hw, ew⟩ := s_who i1
  obtain ⟨c1, c2⟩ := zCl i1 (by omega)
  have hH := h.2.2.2.2
  have ex : p = nI w - 1 := by rw [← ew]; exact (Int32.add_sub_cancel _ _).symm
  refine ⟨g_leave h.1 hk, sL2_same h.2 (by show N 1 + 1 ≤ 120; omega) rfl rfl h.2.1.2.2.2.1 h.2.1.2.2.2.2 rfl rfl ?_⟩
  refine sLH_new (h0 := N 0) (kd := 4) (w := w) (x := 0) hH h.1.1.1.1 (by omega) hw (by omega) h.1.1.1.2.1 rfl (congrArg (upd (T 0) (N 1)) (sCd_code (h := N 0) (kd := 4) (w := w) (x := 0) (a1 := 4) (a2 := p) (a3 := 0) rfl ew rfl)) (fun q hq => ?_) (fun k hk2 => ?_) (fun k _ => ?_)
  · show upd (T 2) p.toNatClampNeg 1 q = _
    by_cases c : q = p.toNatClampNeg
    · rw [← ex, decide_eq_true (show p = nI q by rw [c]; exact c2), decide_eq_true (show (4 : Nat) = 4 from rfl), Bool.true_and, Bool.or_true, c, upd_at]; rfl
    · rw [upd_no c, hH.1 q hq, ← ex, decide_eq_false (show ¬ p = nI q from fun z => c (by rw [z, nI_clamp (by omega)])), Bool.and_false, Bool.or_false]
  · rw [if_neg (by omega)]; exact hH.2.1 k hk2
  · show _ = T 18 k
    rw [if_neg (by omega)]
theorem sLJ_fin (h : sLJ N T K) (hb : N 1 ≤ 90) (hk : sK2 ((sIx p 9) && (sIx x (N 6))) ((decide (T 18 x.toNatClampNeg = p)) && (decide (T 2 p.toNatClampNeg = 0))) = 0) : sLJ (nFin N T p x).1 (nFin N T p x).2 (K + 1) := by
  obtain ⟨i1, i2⟩ := sAndI (sK2_0 hk).1
  obtain ⟨w, hw, ew⟩ := s_who (sIx_in.mp i1)
  have h6 : N 6 ≤ 12 := by have := h.1.1.1.2.2.2.2.2.1; have := h.2.1.2.2.2.2; omega
  obtain ⟨c1, c2⟩ := zCl (sIx_in.mp i2) (by omega)
  have hH := h.2.2.2.2
  refine ⟨g_fin h.1 hk, sL2_same h.2 (by show N 1 + 1 ≤ 120; omega) rfl rfl h.2.1.2.2.2.1 h.2.1.2.2.2.2 rfl rfl ?_⟩
  refine sLH_new (h0 := N 0) (kd := 6) (w := w) (x := x.toNatClampNeg) hH h.1.1.1.1 (by omega) hw (by omega) h.1.1.1.2.1 rfl (congrArg (upd (T 0) (N 1)) (sCd_code (h := N 0) (kd := 6) (w := w) (x := x.toNatClampNeg) (a1 := 6) (a2 := p) (a3 := x) rfl ew c2)) (fun q hq => ?_) (fun k hk2 => ?_) (fun k _ => ?_)
  · show T 2 q = _
    rw [hH.1 q hq, decide_eq_false (show ¬ (6 : Nat) = 4 by omega), Bool.false_and, Bool.or_false]
  · rw [if_neg (by omega)]; exact hH.2.1 k hk2
  · show _ = upd (T 18) x.toNatClampNeg (-1) k
    by_cases c : k = x.toNatClampNeg
    · rw [if_pos ⟨by omega, c.symm⟩, if_neg (by omega), c, upd_at]
    · rw [if_neg (fun z => c z.2.symm), upd_no c]
theorem sLJ_alarm {b o : Bool} (h : sLJ N T K) (h3 : N 3 < 3) (hf : ∃ y : Nat, y ≤ 1000 ∧ f = nI y) (hk : sK3 ((sIx x 3) && (sIx v 8)) (sIn f 0 1000) (!decide (N 3 = 10)) = 0) : sLJ (nAlarm N T x f b v o).1 (nAlarm N T x f b v o).2 (K + 1) := by
  obtain ⟨⟨b1, b0, b3, b4, b5⟩, h6, h12, hH⟩ := h.2
  refine ⟨g_alarm h.1 hk, ⟨b1, b0, by show N 3 + 1 ≤ 3; omega, b4, b5⟩, h6, fun a ha => ?_, sLH_eq hH rfl rfl rfl rfl rfl rfl rfl⟩
  have ha : a < N 3 + 1 := ha
  show ∃ y : Nat, y ≤ 1000 ∧ upd (T 12) (N 3) f a = nI y
  by_cases c : a = N 3
  · rw [c, upd_at]; exact hf
  · rw [upd_no c]; exact h12 a (by omega)
end OPS
