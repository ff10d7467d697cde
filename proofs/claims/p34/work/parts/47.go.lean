/-! what every call keeps -/
theorem sInv.mono {N : Nat → Nat} {T : Nat → Nat → Int32} {K K2 a : Nat} (h : sInv N T K a) (hk : K ≤ K2) : sInv N T K2 a := by
  obtain ⟨⟨h0, h2, h3, h4, h5, h6, h1⟩, hT⟩ := h
  exact ⟨⟨h0, h2, h3, h4, h5, h6, by omega⟩, hT⟩
theorem sInv_kept {N : Nat → Nat} {T : Nat → Nat → Int32} {S : zS} {K K2 a : Nat} (h : sInv N T K a) (hk : sKeep N T S) (r : sInvT S.1 S.2) (e0 : S.1 0 ≤ 2000) (e1 : S.1 1 + N 3 ≤ K2 + N 3 * S.1 0 + a + sAns S.2 (N 3)) : sInv S.1 S.2 K2 a := by
  obtain ⟨⟨h0, h2, h3, h4, h5, h6, h1⟩, hT⟩ := h
  refine ⟨⟨e0, ?_, ?_, ?_, ?_, ?_, ?_⟩, r⟩
  · rw [hk.1 2 (by omega)]; exact h2
  · rw [hk.1 3 (by omega)]; exact h3
  · rw [hk.1 4 (by omega)]; exact h4
  · rw [hk.1 5 (by omega)]; exact h5
  · rw [hk.1 6 (by omega), hk.1 5 (by omega)]; exact h6
  · rw [hk.1 3 (by omega)]; exact e1
theorem sInv_note {N : Nat → Nat} {T : Nat → Nat → Int32} {K a : Nat} {x y z : Int32} (h : sInv N T K a) : sInv (sNote N T x y z).1 (sNote N T x y z).2 (K + 1) a := by
  have hT : sInvT N T := h.2
  refine sInv_kept h sNote_keep (sInvT_keep hT sNote_keep (fun i => (hT.1 i).2.1) ⟨fun b hb => (hT.2.2.2.1 b hb).2.2, hT.2.2.2.2.1⟩) h.1.1 ?_
  show N 1 + 1 + N 3 ≤ K + 1 + N 3 * N 0 + a + sAns T (N 3)
  have := h.1.2.2.2.2.2.2
  omega
theorem sInv_turn {N : Nat → Nat} {T : Nat → Nat → Int32} {K x : Nat} {a b : Int32} {o : Bool} (h : sInv N T K x) : sInv (sTurn N T a b o).1 (sTurn N T a b o).2 (K + 1) x := by
  have hT : sInvT N T := h.2
  obtain ⟨t0, t1, t2⟩ := sTurn_1 (N := N) (T := T) (a := a) (b := b) (o := o)
  refine sInv_kept h sTurn_keep (sInvT_keep hT sTurn_keep (sTurn_3 (fun i => (hT.1 i).2.1)) (by rw [sTurn_16]; exact ⟨fun b hb => (hT.2.2.2.1 b hb).2.2, hT.2.2.2.2.1⟩)) (by rw [t0]; exact h.1.1) ?_
  have := h.1.2.2.2.2.2.2
  have e : sAns (sTurn N T a b o).2 (N 3) = sAns T (N 3) := by unfold sAns; rw [sTurn_16]
  rw [t0, e]
  omega
/-- the state of both worlds after K calls -/
def sGo (N : Nat → Nat) (T : Nat → Nat → Int32) (K : Nat) : Prop := sInv N T K 0 ∧ sLG N T
theorem sGo.up {N : Nat → Nat} {T : Nat → Nat → Int32} {K : Nat} (h : sGo N T K) : sGo N T (K + 1) := ⟨h.1.mono (Nat.le_succ K), h.2⟩
theorem sAndI {a b : Bool} (h : (a && b) = true) : a = true ∧ b = true := by cases a <;> cases b <;> simp_all
theorem sInv_row {N : Nat → Nat} {T : Nat → Nat → Int32} {K a q : Nat} {f : Nat → Int32} (h : sInv N T K a) (hq : q = 1 ∨ q = 6 ∨ q = 12 ∨ q = 19) : sInv N (va_up T q f) K a := by
  obtain ⟨c, b1, b2, b3, b4, b5, b6, b7, b8, b9⟩ := h
  have e : ∀ j, j ≠ q → va_up T q f j = T j := fun j hj => va_up_ne _ _ hj
  unfold sInv sAns at *
  rw [e 2 (by omega), e 3 (by omega), e 4 (by omega), e 5 (by omega), e 7 (by omega), e 8 (by omega), e 9 (by omega), e 10 (by omega), e 11 (by omega), e 13 (by omega), e 14 (by omega), e 15 (by omega), e 16 (by omega), e 17 (by omega), e 18 (by omega)]
  exact ⟨c, b1, b2, b3, b4, b5, fun m hm => by rw [e (20 + m) (by omega)]; exact b6 m hm, b7, b8, b9⟩
theorem s_who {p : Int32} (h : vp_in p 9) : ∃ w : Nat, w ≤ 9 ∧ p + 1 = nI w := by
  obtain ⟨j, hj, rfl⟩ := vp_in_of h (by omega)
  exact ⟨j + 1, by omega, nI_1 j⟩
theorem g_turn {N : Nat → Nat} {T : Nat → Nat → Int32} {K : Nat} {a1 a2 : Int32} {o : Bool} (h : sGo N T K) (hk : sK2 ((sIx a1 9) && (sIx a2 8)) (decide (sBars N T a1 a2 = 0)) = 0) : sGo (sTurn N T a1 a2 o).1 (sTurn N T a1 a2 o).2 (K + 1) := by
  obtain ⟨i1, i2⟩ := sAndI (sK2_0 hk).1
  obtain ⟨w, hw, ew⟩ := s_who (sIx_in.mp i1)
  exact ⟨sInv_turn h.1, sLG_turn h.2 h.1.1.1 (sIx_in.mp i2) hw ew⟩
theorem g_read {N : Nat → Nat} {T : Nat → Nat → Int32} {K : Nat} {a1 : Int32} (h : sGo N T K) : sGo N (nRead N T a1).2 (K + 1) :=
  ⟨(sInv_row h.1 (Or.inl rfl)).mono (Nat.le_succ K), sLG_eq h.2 rfl rfl rfl rfl rfl rfl⟩
theorem g_leave {N : Nat → Nat} {T : Nat → Nat → Int32} {K : Nat} {a1 : Int32} (h : sGo N T K) (hk : sK2 (sIx a1 9) (decide (T 2 a1.toNatClampNeg = 0)) = 0) : sGo (nLeave N T a1).1 (nLeave N T a1).2 (K + 1) := by
  obtain ⟨w, hw, ew⟩ := s_who (sIx_in.mp (sK2_0 hk).1)
  have h2 : sInv N (va_up T 2 (upd (T 2) a1.toNatClampNeg 1)) K 0 := by
    obtain ⟨c, b1, b2, b3, b4, b5, b6, b7, b8, b9⟩ := h.1
    refine ⟨c, fun i => ⟨?_, (b1 i).2⟩, b2, b3, b4, b5, fun m hm => ?_, b7, b8, b9⟩
    · show upd (T 2) _ 1 i = 0 ∨ upd (T 2) _ 1 i = 1
      by_cases e : i = a1.toNatClampNeg
      · exact Or.inr (by rw [e, upd_at])
      · rw [upd_no e]; exact (b1 i).1
    · rw [va_up_ne _ _ (by omega)]; exact b6 m hm
  exact ⟨sInv_note h2, sLG_note (kd := 4) (x := 0) (sLG_eq h.2 rfl rfl rfl rfl rfl rfl) h.1.1.1 (by omega) hw (by omega) (by omega) rfl ew rfl⟩
theorem g_hang {N : Nat → Nat} {T : Nat → Nat → Int32} {K : Nat} {a1 a2 : Int32} (h : sGo N T K) (hk : sK2 ((sIx a1 9) && (sIx a2 8)) ((sMay N T a1) && !decide (N 2 = 40)) = 0) : sGo (nHang N T a1 a2).1 (nHang N T a1 a2).2 (K + 1) := by
  obtain ⟨k1, k2⟩ := sK2_0 hk
  obtain ⟨i1, i2⟩ := sAndI k1
  have n2 : ¬ N 2 = 40 := by
    have := (sAndI k2).2
    simpa using this
  have n2' : N 2 < 40 := by have := h.1.1.2.1; omega
  refine ⟨?_, sLG_hang h.2 h.1.1.1 (sIx_in.mp i1) (sIx_in.mp i2) n2'⟩
  obtain ⟨⟨h0, h2, h3, h4, h5, h6, h1⟩, b1, b2, b3, b4, b5, b6, b7, b8, b9⟩ := h.1
  refine ⟨⟨h0, ?_, h3, h4, h5, h6, ?_⟩, fun i => ⟨(b1 i).1, (b1 i).2.1, ?_, (b1 i).2.2.2⟩, b2, fun t ht => ?_, b4, b5, fun m hm => ?_, b7, b8, b9⟩
  · show N 2 + 1 ≤ 40
    omega
  · show N 1 + 1 + N 3 ≤ K + 1 + N 3 * N 0 + 0 + sAns T (N 3)
    omega
  · show upd (T 10) (N 2) 0 i = 0 ∨ upd (T 10) (N 2) 0 i = 1
    by_cases e : i = N 2
    · exact Or.inl (by rw [e, upd_at])
    · rw [upd_no e]; exact (b1 i).2.2.1
  · have ht : t < N 2 + 1 := ht
    show vp_in (upd (T 7) (N 2) a1 t) 9 ∧ vp_in (upd (T 8) (N 2) a2 t) 8 ∧ (upd (T 9) (N 2) (-1) t = -1 ∨ vp_in (upd (T 9) (N 2) (-1) t) 9)
    by_cases e : t = N 2
    · rw [e, upd_at, upd_at, upd_at]; exact ⟨sIx_in.mp i1, sIx_in.mp i2, Or.inl rfl⟩
    · rw [upd_no e, upd_no e, upd_no e]; exact b3 t (by omega)
  · have e1 : (nHang N T a1 a2).1 (20 + m) = N (20 + m) := by
      show va_up (va_up N 1 _) 2 _ (20 + m) = _
      rw [va_up_ne _ _ (by omega), va_up_ne _ _ (by omega)]
    have e2 : (nHang N T a1 a2).2 (20 + m) = T (20 + m) := by
      show va_up (va_up (va_up (va_up (va_up T 7 _) 8 _) 9 _) 10 _) 0 _ (20 + m) = _
      rw [va_up_ne _ _ (by omega), va_up_ne _ _ (by omega), va_up_ne _ _ (by omega), va_up_ne _ _ (by omega), va_up_ne _ _ (by omega)]
    rw [e1, e2]
    exact b6 m hm
theorem g_take {N : Nat → Nat} {T : Nat → Nat → Int32} {K : Nat} {a1 a2 : Int32} (h : sGo N T K) (hk : sK2 ((sIx a1 9) && (sIx a2 (N 2))) (((decide (T 10 a2.toNatClampNeg = 0)) && (sMay N T a1)) && (decide (a1 = T 7 a2.toNatClampNeg) || !decide (T 2 (T 7 a2.toNatClampNeg).toNatClampNeg = 0))) = 0) : sGo (nTake N T a1 a2).1 (nTake N T a1 a2).2 (K + 1) := by
  obtain ⟨k1, k2⟩ := sK2_0 hk
  obtain ⟨i1, i2⟩ := sAndI k1
  have hoff : T 10 a2.toNatClampNeg = 0 := of_decide_eq_true (sAndI (sAndI k2).1).1
  refine ⟨?_, sLG_take h.2 h.1.1.1 (sIx_in.mp i1) (sIx_in.mp i2) h.1.1.2.1 hoff⟩
  obtain ⟨c, b1, b2, b3, b4, b5, b6, b7, b8, b9⟩ := h.1
  unfold nTake
  split
  · refine sInv_note (K := K) ⟨c, fun i => ⟨(b1 i).1, (b1 i).2.1, ?_, (b1 i).2.2.2⟩, b2, b3, b4, b5, fun m hm => ?_, b7, b8, b9⟩
    · show upd (T 10) _ 1 i = 0 ∨ upd (T 10) _ 1 i = 1
      by_cases e : i = a2.toNatClampNeg
      · exact Or.inr (by rw [e, upd_at])
      · rw [upd_no e]; exact (b1 i).2.2.1
    · rw [va_up_ne _ _ (by omega)]; exact b6 m hm
  · refine sInv.mono (K := K) ⟨c, b1, b2, fun t ht => ⟨(b3 t ht).1, (b3 t ht).2.1, ?_⟩, b4, b5, fun m hm => ?_, b7, b8, b9⟩ (Nat.le_succ K)
    · show upd (T 9) _ a1 t = -1 ∨ vp_in (upd (T 9) _ a1 t) 9
      by_cases e : t = a2.toNatClampNeg
      · rw [e, upd_at]; exact Or.inr (sIx_in.mp i1)
      · rw [upd_no e]; exact (b3 t ht).2.2
    · dsimp only
      rw [va_up_ne _ _ (by omega)]; exact b6 m hm
theorem g_fin {N : Nat → Nat} {T : Nat → Nat → Int32} {K : Nat} {a1 a2 : Int32} (h : sGo N T K) (hk : sK2 ((sIx a1 9) && (sIx a2 (N 6))) ((decide (T 18 a2.toNatClampNeg = a1)) && (decide (T 2 a1.toNatClampNeg = 0))) = 0) : sGo (nFin N T a1 a2).1 (nFin N T a1 a2).2 (K + 1) := by
  obtain ⟨k1, k2⟩ := sK2_0 hk
  obtain ⟨i1, i2⟩ := sAndI k1
  obtain ⟨w, hw, ew⟩ := s_who (sIx_in.mp i1)
  have hb := h.1.1
  obtain ⟨j, hj, rfl⟩ := vp_in_of (sIx_in.mp i2) (by omega)
  refine ⟨?_, sLG_note (kd := 6) (x := j) (sLG_eq h.2 rfl rfl rfl rfl rfl rfl) h.1.1.1 (by omega) hw (by omega) (by omega) rfl ew rfl⟩
  obtain ⟨c, b1, b2, b3, b4, b5, b6, b7, b8, b9⟩ := h.1
  refine sInv_note (K := K) ⟨c, b1, b2, b3, b4, b5, fun m hm => ?_, fun t ht => ?_, fun t ht => ?_, b9⟩
  · rw [va_up_ne _ _ (by omega)]; exact b6 m hm
  · show upd (T 18) _ (-1) t = -1 ∨ vp_in (upd (T 18) _ (-1) t) 9
    by_cases e : t = (nI j).toNatClampNeg
    · exact Or.inl (by rw [e, upd_at])
    · rw [upd_no e]; exact b7 t ht
  · show upd (T 18) _ (-1) t = -1
    by_cases e : t = (nI j).toNatClampNeg
    · rw [e, upd_at]
    · rw [upd_no e]; exact b8 t ht
theorem g_clear {N : Nat → Nat} {T : Nat → Nat → Int32} {K : Nat} (h : sGo N T K) : sGo (va_up N 4 0) T (K + 1) := by
  refine ⟨?_, sLG_eq h.2 rfl rfl rfl rfl rfl rfl⟩
  obtain ⟨⟨h0, h2, h3, h4, h5, h6, h1⟩, b1, b2, b3, b4, b5, b6, b7, b8, b9⟩ := h.1
  refine sInv.mono (K := K) ⟨⟨h0, h2, h3, Nat.zero_le _, h5, h6, h1⟩, b1, b2, b3, b4, b5, fun m hm => ?_, b7, b8, b9⟩ (Nat.le_succ K)
  rw [va_up_ne _ _ (by omega)]; exact b6 m hm
theorem g_ins {N : Nat → Nat} {T : Nat → Nat → Int32} {K : Nat} {a1 a2 : Int32} (h : sGo N T K) (hc : ∃ x : Nat, x < 65536 ∧ a2 = nI x) (hk : sK2 (sIn a1 0 (nI (N 4))) (!decide (N 4 = 40)) = 0) : sGo (nIns N T a1 a2).1 (nIns N T a1 a2).2 (K + 1) := by
  have n4 : ¬ N 4 = 40 := by
    have := (sK2_0 hk).2
    simpa using this
  refine ⟨?_, sLG_eq h.2 rfl rfl rfl rfl rfl rfl⟩
  obtain ⟨⟨h0, h2, h3, h4, h5, h6, h1⟩, b1, b2, b3, b4, b5, b6, b7, b8, b9⟩ := h.1
  refine sInv.mono (K := K) ⟨⟨h0, h2, h3, ?_, h5, h6, h1⟩, b1, b2, b3, b4, b5, fun m hm => ?_, b7, b8, fun j => ?_⟩ (Nat.le_succ K)
  · show N 4 + 1 ≤ 40
    omega
  · show va_up N 4 _ (20 + m) ≤ 40 ∧ sGood (va_up T 17 _ (20 + m)) (va_up N 4 _ (20 + m)) = true
    rw [va_up_ne _ _ (by omega), va_up_ne _ _ (by omega)]; exact b6 m hm
  · show ∃ x : Nat, x < 65536 ∧ sIns (T 17) a1.toNatClampNeg (N 4) a2 j = nI x
    unfold sIns
    split
    · exact hc
    · split
      · exact b9 _
      · exact b9 _
theorem g_pipe {N : Nat → Nat} {T : Nat → Nat → Int32} {K : Nat} {a1 a2 a3 : Int32} (h : sGo N T K) (hk : sK3 (sIx a1 8) (((sEnd a2) && (sEnd a3)) && !decide (a2 = a3)) (decide (T 3 a1.toNatClampNeg = 0)) = 0) : sGo N (nPipe N T a1 a2 a3).2 (K + 1) := by
  obtain ⟨k1, k2, -⟩ := sK3_0 hk
  obtain ⟨e1, e3⟩ := sAndI k2
  obtain ⟨e1, e2⟩ := sAndI e1
  have e3 : ¬ a2 = a3 := by simpa using e3
  refine ⟨?_, sLG_eq h.2 rfl rfl rfl rfl rfl rfl⟩
  obtain ⟨c, b1, b2, b3, b4, b5, b6, b7, b8, b9⟩ := h.1
  refine sInv.mono (K := K) ⟨c, b1, fun v hv => ?_, b3, b4, b5, fun m hm => ?_, b7, b8, b9⟩ (Nat.le_succ K)
  · show sEnd (upd (T 4) a1.toNatClampNeg a2 v) = true ∧ sEnd (upd (T 5) a1.toNatClampNeg a3 v) = true ∧ ¬ upd (T 4) a1.toNatClampNeg a2 v = upd (T 5) a1.toNatClampNeg a3 v
    by_cases e : v = a1.toNatClampNeg
    · rw [e, upd_at, upd_at]; exact ⟨e1, e2, e3⟩
    · rw [upd_no e, upd_no e]; exact b2 v hv
  · show N (20 + m) ≤ 40 ∧ sGood (va_up (va_up T 4 _) 5 _ (20 + m)) (N (20 + m)) = true
    rw [va_up_ne _ _ (by omega), va_up_ne _ _ (by omega)]; exact b6 m hm
theorem g_alarm {N : Nat → Nat} {T : Nat → Nat → Int32} {K : Nat} {a1 a2 a4 : Int32} {b3 b5 : Bool} (h : sGo N T K) (hk : sK3 ((sIx a1 3) && (sIx a4 8)) (sIn a2 0 1000) (!decide (N 3 = 10)) = 0) : sGo (nAlarm N T a1 a2 b3 a4 b5).1 (nAlarm N T a1 a2 b3 a4 b5).2 (K + 1) := by
  obtain ⟨k1, k2, k3⟩ := sK3_0 hk
  obtain ⟨i1, i2⟩ := sAndI k1
  have n3 : ¬ N 3 = 10 := by simpa using k3
  refine ⟨?_, sLG_eq h.2 rfl rfl rfl rfl rfl rfl⟩
  obtain ⟨⟨h0, h2, h3, h4, h5, h6, h1⟩, c1, c2, c3, c4, c5, c6, c7, c8, c9⟩ := h.1
  have zu : ∀ (f : Nat → Int32) (b : Bool) (i : Nat), (f i = 0 ∨ f i = 1) → (upd f (N 3) (zb b) i = 0 ∨ upd f (N 3) (zb b) i = 1) := by
    intro f b i hf
    by_cases e : i = N 3
    · rw [e, upd_at]; cases b
      · exact Or.inl rfl
      · exact Or.inr rfl
    · rw [upd_no e]; exact hf
  refine ⟨⟨h0, h2, ?_, h4, h5, h6, ?_⟩, fun i => ⟨(c1 i).1, (c1 i).2.1, (c1 i).2.2.1, zu _ _ _ (c1 i).2.2.2.1, zu _ _ _ (c1 i).2.2.2.2⟩, c2, c3, fun a ha => ?_, fun a ha => ?_, fun m hm => ?_, c7, c8, c9⟩
  · show N 3 + 1 ≤ 10
    omega
  · show N 1 + (N 3 + 1) ≤ K + 1 + (N 3 + 1) * N 0 + 0 + sCnt (fun a => decide (T 16 a = 1)) (N 3 + 1)
    have e : sCnt (fun a => decide (T 16 a = 1)) (N 3 + 1) = sAns T (N 3) + 0 := by
      rw [sCnt, c5 (N 3) (Nat.le_refl _)]
      rfl
    rw [e, Nat.succ_mul]
    omega
  · have ha : a < N 3 + 1 := ha
    show vp_in (upd (T 11) (N 3) a1 a) 3 ∧ vp_in (upd (T 14) (N 3) a4 a) 8 ∧ (T 16 a = 0 ∨ T 16 a = 1 ∨ T 16 a = 2)
    by_cases e : a = N 3
    · rw [e, upd_at, upd_at]; exact ⟨sIx_in.mp i1, sIx_in.mp i2, Or.inl (c5 _ (Nat.le_refl _))⟩
    · rw [upd_no e, upd_no e]; exact c4 a (by omega)
  · have ha : N 3 + 1 ≤ a := ha
    exact c5 a (by omega)
  · show va_up N 3 _ (20 + m) ≤ 40 ∧ sGood (va_up (va_up (va_up (va_up (va_up T 11 _) 12 _) 13 _) 14 _) 15 _ (20 + m)) (va_up N 3 _ (20 + m)) = true
    rw [va_up_ne _ _ (by omega), va_up_ne _ _ (by omega), va_up_ne _ _ (by omega), va_up_ne _ _ (by omega), va_up_ne _ _ (by omega), va_up_ne _ _ (by omega)]
    exact c6 m hm
/-- a task given -/
theorem g_assign {N : Nat → Nat} {T : Nat → Nat → Int32} {K j : Nat} {x : Int32} (h : sGo N T K) (hj : j < N 6) (hx : x = -1 ∨ vp_in x 9) : sGo (sAssign N T (nI j) x).1 (sAssign N T (nI j) x).2 (K + 1) := by
  have hb := h.1.1
  unfold sAssign
  by_cases e : x = -1
  · rw [if_pos e]; exact h.up
  rw [if_neg e]
  have hx : vp_in x 9 := hx.resolve_left e
  obtain ⟨w, hw, ew⟩ := s_who hx
  refine ⟨?_, sLG_note (kd := 5) (x := j) (sLG_eq h.2 rfl rfl rfl rfl rfl rfl) h.1.1.1 (by omega) hw (by omega) (by omega) rfl ew rfl⟩
  obtain ⟨c, b1, b2, b3, b4, b5, b6, b7, b8, b9⟩ := h.1
  refine sInv_note (K := K) ⟨c, b1, b2, b3, b4, b5, fun m hm => ?_, fun t ht => ?_, fun t ht => ?_, b9⟩
  · rw [va_up_ne _ _ (by omega)]; exact b6 m hm
  · show upd (T 18) _ x t = -1 ∨ vp_in (upd (T 18) _ x t) 9
    by_cases e : t = (nI j).toNatClampNeg
    · rw [e, upd_at]; exact Or.inr hx
    · rw [upd_no e]; exact b7 t ht
  · show upd (T 18) _ x t = -1
    rw [nI_clamp (by omega)]
    have hz : N 6 ≤ t := ht
    rw [upd_no (by omega)]; exact b8 t ht
theorem g_post {N : Nat → Nat} {T : Nat → Nat → Int32} {K : Nat} {a1 a2 : Int32} (h : sGo N T K) (hk : sK2 ((sIx a1 9) && (decide (a2 = -1) || sIx a2 (N 6))) (((decide (T 2 a1.toNatClampNeg = 0)) && (sGood (T 17) (N 4))) && !decide (N 5 = 60)) = 0) : sGo (nPost N T a2).1 (nPost N T a2).2 (K + 1) := by
  obtain ⟨k1, k2⟩ := sK2_0 hk
  obtain ⟨i1, i2⟩ := sAndI k1
  obtain ⟨k2, k3⟩ := sAndI k2
  have hgood := (sAndI k2).2
  have n5 : ¬ N 5 = 60 := by simpa using k3
  have h0 : sGo (nPost0 N T a2).1 (nPost0 N T a2).2 K ∧ ∃ j, j < (nPost0 N T a2).1 6 ∧ rPost N a2 = nI j := by
    obtain ⟨⟨⟨h0, h2, h3, h4, h5, h6, h1⟩, b1, b2, b3, b4, b5, b6, b7, b8, b9⟩, hL⟩ := h
    by_cases e : a2 = -1
    · have e1 : ∀ q, q ≠ 6 → q ≠ 20 + N 5 → q ≠ 5 → q ≠ 4 → (nPost0 N T a2).1 q = N q := by
        intro q q1 q2 q3 q4
        unfold nPost0
        dsimp only
        rw [va_up_ne _ _ q4, va_up_ne _ _ q3, va_up_ne _ _ q2, if_pos e, va_up_ne _ _ q1]
      have e2 : ∀ q, q ≠ 18 → q ≠ 20 + N 5 → (nPost0 N T a2).2 q = T q := by
        intro q q1 q2
        unfold nPost0
        dsimp only
        rw [va_up_ne _ _ q2, if_pos e, va_up_ne _ _ q1]
      have f6 : (nPost0 N T a2).1 6 = N 6 + 1 := by
        unfold nPost0
        dsimp only
        rw [va_up_ne _ _ (by omega), va_up_ne _ _ (by omega), va_up_ne _ _ (by omega), if_pos e, va_up_self]
      have f18 : (nPost0 N T a2).2 18 = upd (T 18) (N 6) (-1) := by
        unfold nPost0
        dsimp only
        rw [va_up_ne _ _ (by omega), if_pos e, va_up_self]
      have f5 : (nPost0 N T a2).1 5 = N 5 + 1 := rfl
      have f4 : (nPost0 N T a2).1 4 = 0 := rfl
      have fm : (nPost0 N T a2).1 (20 + N 5) = N 4 := by
        unfold nPost0
        dsimp only
        rw [va_up_ne _ _ (by omega), va_up_ne _ _ (by omega), va_up_self]
      have ft : (nPost0 N T a2).2 (20 + N 5) = T 17 := by
        unfold nPost0
        dsimp only
        rw [va_up_self]
      have r : rPost N a2 = nI (N 6) := if_pos e
      generalize nPost0 N T a2 = S at e1 e2 f6 f18 f5 f4 fm ft
      refine ⟨⟨?_, sLG_eq hL (e1 1 (by omega) (by omega) (by omega) (by omega)) (e1 2 (by omega) (by omega) (by omega) (by omega)) (e2 0 (by omega) (by omega)) (e2 3 (by omega) (by omega)) (e2 8 (by omega) (by omega)) (e2 10 (by omega) (by omega))⟩, N 6, by rw [f6]; omega, r⟩
      unfold sInv sAns
      rw [e1 0 (by omega) (by omega) (by omega) (by omega), e1 1 (by omega) (by omega) (by omega) (by omega), e1 2 (by omega) (by omega) (by omega) (by omega), e1 3 (by omega) (by omega) (by omega) (by omega), f4, f5, f6, f18]
      rw [e2 2 (by omega) (by omega), e2 3 (by omega) (by omega), e2 4 (by omega) (by omega), e2 5 (by omega) (by omega), e2 7 (by omega) (by omega), e2 8 (by omega) (by omega), e2 9 (by omega) (by omega), e2 10 (by omega) (by omega), e2 11 (by omega) (by omega), e2 13 (by omega) (by omega), e2 14 (by omega) (by omega), e2 15 (by omega) (by omega), e2 16 (by omega) (by omega), e2 17 (by omega) (by omega)]
      refine ⟨⟨h0, h2, h3, Nat.zero_le _, by omega, by omega, h1⟩, b1, b2, b3, b4, b5, fun m hm => ?_, fun t ht => ?_, fun t ht => ?_, b9⟩
      · by_cases q : m = N 5
        · rw [q, fm, ft]; exact ⟨h4, hgood⟩
        · rw [e1 (20 + m) (by omega) (by omega) (by omega) (by omega), e2 (20 + m) (by omega) (by omega)]; exact b6 m (by omega)
      · by_cases q : t = N 6
        · exact Or.inl (by rw [q, upd_at])
        · rw [upd_no q]; exact b7 t (by omega)
      · rw [upd_no (by omega)]; exact b8 t (by omega)
    · have hx : vp_in a2 (N 6) := by
        rw [decide_eq_false e, Bool.false_or] at i2
        exact sIx_in.mp i2
      obtain ⟨j, hj, ej⟩ := vp_in_of hx (by omega)
      have e1 : ∀ q, q ≠ 20 + N 5 → q ≠ 5 → q ≠ 4 → (nPost0 N T a2).1 q = N q := by
        intro q q2 q3 q4
        unfold nPost0
        dsimp only
        rw [va_up_ne _ _ q4, va_up_ne _ _ q3, va_up_ne _ _ q2, if_neg e]
      have e2 : ∀ q, q ≠ 20 + N 5 → (nPost0 N T a2).2 q = T q := by
        intro q q2
        unfold nPost0
        dsimp only
        rw [va_up_ne _ _ q2, if_neg e]
      have f5 : (nPost0 N T a2).1 5 = N 5 + 1 := rfl
      have f4 : (nPost0 N T a2).1 4 = 0 := rfl
      have fm : (nPost0 N T a2).1 (20 + N 5) = N 4 := by
        unfold nPost0
        dsimp only
        rw [va_up_ne _ _ (by omega), va_up_ne _ _ (by omega), va_up_self]
      have ft : (nPost0 N T a2).2 (20 + N 5) = T 17 := by
        unfold nPost0
        dsimp only
        rw [va_up_self]
      have r : rPost N a2 = a2 := if_neg e
      generalize nPost0 N T a2 = S at e1 e2 f5 f4 fm ft
      have f6 := e1 6 (by omega) (by omega) (by omega)
      refine ⟨⟨?_, sLG_eq hL (e1 1 (by omega) (by omega) (by omega)) (e1 2 (by omega) (by omega) (by omega)) (e2 0 (by omega)) (e2 3 (by omega)) (e2 8 (by omega)) (e2 10 (by omega))⟩, j, by rw [f6]; omega, r.trans ej⟩
      unfold sInv sAns
      rw [e1 0 (by omega) (by omega) (by omega), e1 1 (by omega) (by omega) (by omega), e1 2 (by omega) (by omega) (by omega), e1 3 (by omega) (by omega) (by omega), f4, f5, f6]
      rw [e2 2 (by omega), e2 3 (by omega), e2 4 (by omega), e2 5 (by omega), e2 7 (by omega), e2 8 (by omega), e2 9 (by omega), e2 10 (by omega), e2 11 (by omega), e2 13 (by omega), e2 14 (by omega), e2 15 (by omega), e2 16 (by omega), e2 17 (by omega), e2 18 (by omega)]
      refine ⟨⟨h0, h2, h3, Nat.zero_le _, by omega, by omega, h1⟩, b1, b2, b3, b4, b5, fun m hm => ?_, b7, b8, b9⟩
      by_cases q : m = N 5
      · rw [q, fm, ft]; exact ⟨h4, hgood⟩
      · rw [e1 (20 + m) (by omega) (by omega) (by omega), e2 (20 + m) (by omega)]; exact b6 m (by omega)
  obtain ⟨hg, j, hj, ej⟩ := h0
  show sGo (sAssign (nPost0 N T a2).1 (nPost0 N T a2).2 (rPost N a2) (sMeant (T 17) (N 4))).1 (sAssign (nPost0 N T a2).1 (nPost0 N T a2).2 (rPost N a2) (sMeant (T 17) (N 4))).2 (K + 1)
  rw [ej]
  exact g_assign hg hj sMeantTo_in
theorem sLG_watch {N : Nat → Nat} {T : Nat → Nat → Int32} {K a : Nat} (h : sLG N T) (hi : sInv N T K a) (ha : a < N 3) : sLG (sWatch N T a).1 (sWatch N T a).2 := by
  have h0 := hi.1.1
  have h3 := hi.1.2.2.1
  have h14 : vp_in (T 14 a) 8 := (hi.2.2.2.2.1 a ha).2.1
  unfold sWatch
  split
  · exact sLG_eq h rfl rfl rfl rfl rfl rfl
  · split
    · exact h
    · have hr : sLG (sRaise N T a).1 (sRaise N T a).2 ∧ (sRaise N T a).1 0 = N 0 ∧ (sRaise N T a).2 14 = T 14 := by
        unfold sRaise
        split
        · exact ⟨sLG_note (kd := 3) (w := 0) (x := a) h h0 (by omega) (by omega) (by omega) (by omega) rfl (by decide) rfl, rfl, rfl⟩
        · exact ⟨h, rfl, rfl⟩
      obtain ⟨r1, r2, r3⟩ := hr
      generalize sRaise N T a = S at r1 r2 r3 ⊢
      unfold sWatch1
      split
      · dsimp only
        exact sLG_eq (sLG_turn (w := 0) r1 (by rw [r2]; exact h0) (by rw [r3]; exact h14) (by omega) (by decide)) rfl rfl rfl rfl rfl rfl
      · exact sLG_eq r1 rfl rfl rfl rfl rfl rfl
theorem sLG_watches {N : Nat → Nat} {T : Nat → Nat → Int32} {K : Nat} (h : sLG N T) (hi : sInv N T K 0) : ∀ {a : Nat}, a ≤ N 3 → sLG (sWatches a N T).1 (sWatches a N T).2
  | 0, _ => h
  | a + 1, ha => by
    have i := sInv_watches hi (a := a) (by omega)
    exact sLG_watch (sLG_watches h hi (by omega)) i (by rw [sWatches_keep.1 3 (by omega)]; omega)
theorem sLG_hour {N : Nat → Nat} {T : Nat → Nat → Int32} {K : Nat} (h : sLG N T) (hi : sInv N T K 0) : sLG (sHour N T).1 (sHour N T).2 := by
  obtain ⟨g1, g2, g3, g4⟩ := sLeads_same (N := N) (T := T) (i := 8)
  have gk := sLeads_keep (N := N) (T := T) (i := 8)
  have h1 : sLG (sLeads 8 N T).1 (sLeads 8 N T).2 := sLG_eq h (by rw [g1]) (by rw [g1]) g2 g3 (gk.2 8 (by omega) (by omega) (by omega) (by omega) (by omega)) (gk.2 10 (by omega) (by omega) (by omega) (by omega) (by omega))
  have h2 := sLG_watches h1 (sInv_leads (i := 8) hi) (Nat.le_refl ((sLeads 8 N T).1 3))
  unfold sHour
  dsimp only
  refine sLG_eq h2 rfl rfl ?_ ?_ ?_ ?_ <;> (split <;> rfl)
theorem sLG_hours {N : Nat → Nat} {T : Nat → Nat → Int32} {K : Nat} (h : sLG N T) (hi : sInv N T K 0) : ∀ {k : Nat}, N 0 + k ≤ 2000 → sLG (sHours k N T).1 (sHours k N T).2
  | 0, _ => h
  | k + 1, hk => sLG_hour (sLG_hours h hi (k := k) (by omega)) (sInv_hours hi (k := k) (by omega)).1
theorem g_adv {N : Nat → Nat} {T : Nat → Nat → Int32} {K : Nat} {a1 : Int32} (h : sGo N T K) (hk : sK2 (sIn a1 1 100) (decide (nI (N 0) + a1 ≤ 2000)) = 0) : sGo (sHours a1.toNatClampNeg N T).1 (sHours a1.toNatClampNeg N T).2 (K + 1) := by
  obtain ⟨k1, k2⟩ := sK2_0 hk
  obtain ⟨a, b, e⟩ := sAdv1 k1
  have hn := sAdv2 h.1.1.1 b e (of_decide_eq_true k2)
  exact ⟨(sInv_hours h.1 hn).1.mono (Nat.le_succ K), sLG_hours h.2 h.1 hn⟩
theorem sGo_0 : sGo zN0 zT0 0 := by
  refine ⟨⟨⟨Nat.zero_le _, Nat.zero_le _, Nat.zero_le _, Nat.zero_le _, Nat.zero_le _, Nat.le_refl _, Nat.le_refl _⟩, fun i => ⟨Or.inl rfl, Or.inl rfl, Or.inl rfl, Or.inl rfl, Or.inl rfl⟩, fun v hv => ?_, fun t ht => absurd ht (Nat.not_lt_zero t), fun t ht => absurd ht (Nat.not_lt_zero t), fun a _ => rfl, fun m hm => absurd hm (Nat.not_lt_zero m), fun t ht => absurd ht (Nat.not_lt_zero t), fun t _ => rfl, fun j => ⟨0, by omega, rfl⟩⟩, ⟨fun k hk => absurd hk (Nat.not_lt_zero k), fun v hv => rfl, fun v hv => rfl⟩⟩
  rcases (show v = 0 ∨ v = 1 ∨ v = 2 ∨ v = 3 ∨ v = 4 ∨ v = 5 ∨ v = 6 ∨ v = 7 by omega) with rfl | rfl | rfl | rfl | rfl | rfl | rfl | rfl <;> decide
