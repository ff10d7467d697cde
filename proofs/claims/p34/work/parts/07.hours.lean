/-! an hour keeps what holds throughout -/
theorem sCnt_upd {f : Nat → Int32} {i : Nat} {v : Int32} : ∀ {n : Nat}, i < n → sCnt (fun a => decide (upd f i v a = 1)) n + (if f i = 1 then 1 else 0) = sCnt (fun a => decide (f a = 1)) n + (if v = 1 then 1 else 0)
  | 0, h => absurd h (Nat.not_lt_zero _)
  | n + 1, h => by
    rw [sCnt, sCnt]
    by_cases hi : i = n
    · subst hi
      rw [sCnt_congr (n := i) (f := fun a => decide (upd f i v a = 1)) (g := fun a => decide (f a = 1)) (fun k hk => by simp [upd, show ¬ k = i by omega])]
      have e : upd f i v i = v := by simp [upd]
      rw [e]
      by_cases h1 : v = 1 <;> by_cases h2 : f i = 1 <;> simp [h1, h2]
    · have ih := sCnt_upd (f := f) (v := v) (show i < n by omega)
      have e : upd f i v n = f n := by simp [upd, show ¬ n = i by omega]
      rw [e]
      omega
theorem sAns_upd {T : Nat → Nat → Int32} {i n : Nat} {v : Int32} (h : i < n) : sAns (va_up T 16 (upd (T 16) i v)) n + (if T 16 i = 1 then 1 else 0) = sAns T n + (if v = 1 then 1 else 0) := sCnt_upd h
theorem s16_upd {T : Nat → Nat → Int32} {n i : Nat} {v : Int32} (h : (∀ a, a < n → T 16 a = 0 ∨ T 16 a = 1 ∨ T 16 a = 2) ∧ ∀ a, n ≤ a → T 16 a = 0) (hi : i < n) (hv : v = 0 ∨ v = 1 ∨ v = 2) : (∀ a, a < n → upd (T 16) i v a = 0 ∨ upd (T 16) i v a = 1 ∨ upd (T 16) i v a = 2) ∧ ∀ a, n ≤ a → upd (T 16) i v a = 0 := by
  refine ⟨fun a ha => ?_, fun a ha => ?_⟩
  · by_cases e : a = i
    · simp only [upd, e, if_true]; exact hv
    · simp only [upd, e, if_false]; exact h.1 a ha
  · simp only [upd, show ¬ a = i by omega, if_false]; exact h.2 a ha
theorem sRaise_3 {N : Nat → Nat} {T : Nat → Nat → Int32} {i : Nat} : (sRaise N T i).2 3 = T 3 ∧ (sRaise N T i).2 16 = T 16 ∧ (sRaise N T i).1 0 = N 0 ∧ (sRaise N T i).1 1 = N 1 + (if T 16 i = 0 then 1 else 0) := by
  unfold sRaise
  split
  · exact ⟨rfl, rfl, rfl, rfl⟩
  · exact ⟨rfl, rfl, rfl, rfl⟩
theorem sInv_watch {N : Nat → Nat} {T : Nat → Nat → Int32} {K a : Nat} (h : sInv N T K a) (ha : a < N 3) : sInv (sWatch N T a).1 (sWatch N T a).2 K (a + 1) := by
  obtain ⟨⟨h0, h2, h3, h4, h5, h6, h1⟩, hT⟩ := h
  have hT : sInvT N T := hT
  have hk := sWatch_keep (N := N) (T := T) (i := a)
  have q16 : (∀ a, a < N 3 → T 16 a = 0 ∨ T 16 a = 1 ∨ T 16 a = 2) ∧ ∀ a, N 3 ≤ a → T 16 a = 0 := ⟨fun b hb => (hT.2.2.2.1 b hb).2.2, hT.2.2.2.2.1⟩
  have q3 : ∀ i, T 3 i = 0 ∨ T 3 i = 1 := fun i => (hT.1 i).2.1
  have key : (sWatch N T a).1 0 = N 0 ∧ ((sWatch N T a).1 1 + N 3 ≤ K + N 3 * N 0 + (a + 1) + sAns (sWatch N T a).2 (N 3)) ∧ (∀ i, (sWatch N T a).2 3 i = 0 ∨ (sWatch N T a).2 3 i = 1) ∧ ((∀ b, b < N 3 → (sWatch N T a).2 16 b = 0 ∨ (sWatch N T a).2 16 b = 1 ∨ (sWatch N T a).2 16 b = 2) ∧ ∀ b, N 3 ≤ b → (sWatch N T a).2 16 b = 0) := by
    unfold sWatch
    split
    · have e := sAns_upd (T := T) (v := 0) ha
      refine ⟨rfl, ?_, q3, s16_upd q16 ha (Or.inl rfl)⟩
      show N 1 + N 3 ≤ K + N 3 * N 0 + (a + 1) + sAns (va_up T 16 (upd (T 16) a 0)) (N 3)
      rw [if_neg (by decide : ¬ (0 : Int32) = 1)] at e
      split at e <;> omega
    · split
      · exact ⟨rfl, by show N 1 + N 3 ≤ K + N 3 * N 0 + (a + 1) + sAns T (N 3); omega, q3, q16⟩
      · rename_i hm hs
        obtain ⟨r3, r16, r0, r1⟩ := sRaise_3 (N := N) (T := T) (i := a)
        have rk := sRaise_keep (N := N) (T := T) (i := a)
        generalize sRaise N T a = S at r3 r16 r0 r1 rk
        unfold sWatch1
        split
        · dsimp only
          obtain ⟨t0, t1, t2⟩ := sTurn_1 (N := S.1) (T := S.2) (a := -1) (b := S.2 14 a) (o := decide (S.2 15 a = 1))
          have t3 := sTurn_3 (N := S.1) (T := S.2) (a := -1) (b := S.2 14 a) (o := decide (S.2 15 a = 1)) (by rw [r3]; exact q3)
          have t16 := sTurn_16 (N := S.1) (T := S.2) (a := -1) (b := S.2 14 a) (o := decide (S.2 15 a = 1))
          generalize sTurn S.1 S.2 (-1) (S.2 14 a) (decide (S.2 15 a = 1)) = S2 at t0 t1 t2 t3 t16
          have e := sAns_upd (T := S2.2) (v := 1) ha
          rw [t16, r16] at e
          rw [t16, r16]
          refine ⟨t0.trans r0, ?_, t3, s16_upd q16 ha (Or.inr (Or.inl rfl))⟩
          show S2.1 1 + N 3 ≤ _
          rw [if_neg hs, if_pos rfl] at e
          have ea : sAns S2.2 (N 3) = sAns T (N 3) := by unfold sAns; rw [t16, r16]
          rw [ea] at e
          split at r1 <;> omega
        · have e := sAns_upd (T := S.2) (v := 2) ha
          rw [r16] at e
          rw [r16]
          refine ⟨r0, ?_, by show ∀ i, S.2 3 i = 0 ∨ S.2 3 i = 1; rw [r3]; exact q3, s16_upd q16 ha (Or.inr (Or.inr rfl))⟩
          show S.1 1 + N 3 ≤ K + N 3 * N 0 + (a + 1) + sAns (va_up S.2 16 (upd (T 16) a 2)) (N 3)
          rw [if_neg hs, if_neg (by decide : ¬ (2 : Int32) = 1)] at e
          have ea : sAns S.2 (N 3) = sAns T (N 3) := by unfold sAns; rw [r16]
          rw [ea] at e
          split at r1 <;> omega
  obtain ⟨k0, k1, k3, k16⟩ := key
  refine ⟨?_, sInvT_keep hT hk k3 k16⟩
  rw [hk.1 2 (by omega), hk.1 3 (by omega), hk.1 4 (by omega), hk.1 5 (by omega), hk.1 6 (by omega), k0]
  exact ⟨h0, h2, h3, h4, h5, h6, k1⟩
theorem sLed_same {N : Nat → Nat} {T : Nat → Nat → Int32} {i : Nat} : (sLed N T i).1 = N ∧ (sLed N T i).2 0 = T 0 ∧ (sLed N T i).2 3 = T 3 ∧ (sLed N T i).2 16 = T 16 := by
  unfold sLed
  split <;> exact ⟨rfl, rfl, rfl, rfl⟩
theorem sLeads_same {N : Nat → Nat} {T : Nat → Nat → Int32} : ∀ {i : Nat}, (sLeads i N T).1 = N ∧ (sLeads i N T).2 0 = T 0 ∧ (sLeads i N T).2 3 = T 3 ∧ (sLeads i N T).2 16 = T 16
  | 0 => ⟨rfl, rfl, rfl, rfl⟩
  | i + 1 => by
    obtain ⟨h1, h2, h3, h4⟩ := sLeads_same (N := N) (T := T) (i := i)
    unfold sLeads
    dsimp only
    split
    · exact ⟨h1, h2, h3, h4⟩
    · obtain ⟨g1, g2, g3, g4⟩ := sLed_same (N := (sLeads i N T).1) (T := (sLeads i N T).2) (i := i)
      exact ⟨g1.trans h1, g2.trans h2, g3.trans h3, g4.trans h4⟩
theorem sInv_leads {N : Nat → Nat} {T : Nat → Nat → Int32} {K a i : Nat} (h : sInv N T K a) : sInv (sLeads i N T).1 (sLeads i N T).2 K a := by
  obtain ⟨⟨h0, h2, h3, h4, h5, h6, h1⟩, hT⟩ := h
  have hT : sInvT N T := hT
  obtain ⟨g1, g2, g3, g4⟩ := sLeads_same (N := N) (T := T) (i := i)
  refine ⟨?_, sInvT_keep hT sLeads_keep (by rw [g3]; exact fun i => (hT.1 i).2.1) (by rw [g4]; exact ⟨fun b hb => (hT.2.2.2.1 b hb).2.2, hT.2.2.2.2.1⟩)⟩
  have ea : sAns (sLeads i N T).2 (N 3) = sAns T (N 3) := by unfold sAns; rw [g4]
  rw [g1, ea]
  exact ⟨h0, h2, h3, h4, h5, h6, h1⟩
theorem sInv_watches {N : Nat → Nat} {T : Nat → Nat → Int32} {K : Nat} (h : sInv N T K 0) : ∀ {a : Nat}, a ≤ N 3 → sInv (sWatches a N T).1 (sWatches a N T).2 K a
  | 0, _ => h
  | a + 1, ha => by
    have ih := sInv_watches h (show a ≤ N 3 by omega)
    have e : (sWatches a N T).1 3 = N 3 := sWatches_keep.1 3 (by omega)
    exact sInv_watch ih (by omega)
theorem sHour_keep {N : Nat → Nat} {T : Nat → Nat → Int32} : sKeep N T (sHour N T) := by
  unfold sHour
  dsimp only
  have h1 := sLeads_keep (N := N) (T := T) (i := 8)
  have h2 := h1.tr (sWatches_keep (i := (sLeads 8 N T).1 3))
  generalize sWatches ((sLeads 8 N T).1 3) (sLeads 8 N T).1 (sLeads 8 N T).2 = S at h2
  refine ⟨fun k hk => (va_up_ne _ _ (by omega)).trans (h2.1 k hk), ?_⟩
  show ∀ k, k ≠ 0 → k ≠ 3 → k ≠ 6 → k ≠ 16 → k ≠ 19 → (if (S.1 0 + 1) % 8 = 0 then va_up S.2 19 (upd (S.2 19) 0 (nI (S.1 1))) else S.2) k = T k
  intro k a b c d e
  split
  · rw [va_up_ne _ _ e]; exact h2.2 k a b c d e
  · exact h2.2 k a b c d e
theorem sInv_hour {N : Nat → Nat} {T : Nat → Nat → Int32} {K : Nat} (h : sInv N T K 0) (hN : N 0 < 2000) : sInv (sHour N T).1 (sHour N T).2 K 0 ∧ (sHour N T).1 0 = N 0 + 1 := by
  have h1 := sInv_leads (i := 8) h
  obtain ⟨g1, g2, g3, g4⟩ := sLeads_same (N := N) (T := T) (i := 8)
  have h2 := sInv_watches h1 (Nat.le_refl ((sLeads 8 N T).1 3))
  have hkk := sHour_keep (N := N) (T := T)
  have e0 : (sWatches ((sLeads 8 N T).1 3) (sLeads 8 N T).1 (sLeads 8 N T).2).1 0 = N 0 := by
    have : ∀ {a : Nat} {N : Nat → Nat} {T : Nat → Nat → Int32}, (sWatches a N T).1 0 = N 0 := by
      intro a N T
      induction a with
      | zero => rfl
      | succ a ih =>
        show (sWatch (sWatches a N T).1 (sWatches a N T).2 a).1 0 = N 0
        rw [← ih]
        generalize (sWatches a N T).1 = N2
        generalize (sWatches a N T).2 = T2
        unfold sWatch
        split
        · rfl
        · split
          · rfl
          · obtain ⟨-, -, r0, -⟩ := sRaise_3 (N := N2) (T := T2) (i := a)
            rw [← r0]
            generalize sRaise N2 T2 a = S
            unfold sWatch1
            split
            · exact sTurn_1.1
            · rfl
    rw [this, g1]
  have e3 : (sWatches ((sLeads 8 N T).1 3) (sLeads 8 N T).1 (sLeads 8 N T).2).1 3 = N 3 := by rw [sWatches_keep.1 3 (by omega), g1]
  unfold sHour at hkk ⊢
  dsimp only at hkk ⊢
  rw [g1] at h2 e0 e3
  rw [g1] at hkk ⊢
  generalize sWatches (N 3) N (sLeads 8 N T).2 = S at h2 e0 e3 hkk
  obtain ⟨⟨q0, q2, q3, q4, q5, q6, q1⟩, qT⟩ := h2
  have qT : sInvT S.1 S.2 := qT
  have kk : sKeep S.1 S.2 ((va_up S.1 0 (S.1 0 + 1), if (S.1 0 + 1) % 8 = 0 then va_up S.2 19 (upd (S.2 19) 0 (nI (S.1 1))) else S.2) : zS) := by
    refine ⟨fun k hk => va_up_ne _ _ (by omega), ?_⟩
    show ∀ k, k ≠ 0 → k ≠ 3 → k ≠ 6 → k ≠ 16 → k ≠ 19 → (if (S.1 0 + 1) % 8 = 0 then va_up S.2 19 (upd (S.2 19) 0 (nI (S.1 1))) else S.2) k = S.2 k
    intro k a b c d e
    split
    · rw [va_up_ne _ _ e]
    · rfl
  have w3 : (if (S.1 0 + 1) % 8 = 0 then va_up S.2 19 (upd (S.2 19) 0 (nI (S.1 1))) else S.2) 3 = S.2 3 := by split <;> rfl
  have w16 : (if (S.1 0 + 1) % 8 = 0 then va_up S.2 19 (upd (S.2 19) 0 (nI (S.1 1))) else S.2) 16 = S.2 16 := by split <;> rfl
  have ea : sAns (if (S.1 0 + 1) % 8 = 0 then va_up S.2 19 (upd (S.2 19) 0 (nI (S.1 1))) else S.2) (N 3) = sAns S.2 (N 3) := by unfold sAns; rw [w16]
  refine ⟨⟨?_, sInvT_keep qT kk (by dsimp only; rw [w3]; exact fun i => (qT.1 i).2.1) (by dsimp only; rw [w16]; exact ⟨fun b hb => (qT.2.2.2.1 b hb).2.2, qT.2.2.2.2.1⟩)⟩, ?_⟩
  · show S.1 0 + 1 ≤ 2000 ∧ S.1 2 ≤ 40 ∧ S.1 3 ≤ 10 ∧ S.1 4 ≤ 40 ∧ S.1 5 ≤ 60 ∧ S.1 6 ≤ S.1 5 ∧ S.1 1 + S.1 3 ≤ K + S.1 3 * (S.1 0 + 1) + 0 + sAns (if (S.1 0 + 1) % 8 = 0 then va_up S.2 19 (upd (S.2 19) 0 (nI (S.1 1))) else S.2) (S.1 3)
    rw [e3] at q1 ⊢
    rw [ea]
    rw [e3] at q3
    refine ⟨by omega, q2, q3, q4, q5, q6, ?_⟩
    have := Nat.mul_succ (N 3) (S.1 0)
    rw [show S.1 0 + 1 = Nat.succ (S.1 0) from rfl, this]
    omega
  · show S.1 0 + 1 = N 0 + 1
    rw [e0]
theorem sInv_hours {N : Nat → Nat} {T : Nat → Nat → Int32} {K : Nat} (h : sInv N T K 0) : ∀ {k : Nat}, N 0 + k ≤ 2000 → sInv (sHours k N T).1 (sHours k N T).2 K 0 ∧ (sHours k N T).1 0 = N 0 + k
  | 0, _ => ⟨h, rfl⟩
  | k + 1, hk => by
    obtain ⟨h1, h2⟩ := sInv_hours h (show N 0 + k ≤ 2000 by omega)
    obtain ⟨h3, h4⟩ := sInv_hour h1 (by omega)
    exact ⟨h3, h4.trans (by omega)⟩
theorem sHours_keep {N : Nat → Nat} {T : Nat → Nat → Int32} : ∀ {k : Nat}, sKeep N T (sHours k N T)
  | 0 => sKeep.rf
  | _ + 1 => sHours_keep.tr sHour_keep
theorem sTurn_fin {N : Nat → Nat} {T : Nat → Nat → Int32} {a b : Int32} {o : Bool} {i : Nat} : (((sTurn N (va_up T 16 (upd (T 16) i 2)) a b o).1, va_up (sTurn N (va_up T 16 (upd (T 16) i 2)) a b o).2 16 (upd ((sTurn N (va_up T 16 (upd (T 16) i 2)) a b o).2 16) i 1)) : zS) = ((sTurn N T a b o).1, va_up (sTurn N T a b o).2 16 (upd ((sTurn N T a b o).2 16) i 1)) := by
  rw [sTurn_up]
  refine Prod.ext rfl ?_
  funext k
  by_cases hk : k = 16
  · subst hk
    show upd (upd (T 16) i 2) i 1 = upd ((sTurn N T a b o).2 16) i 1
    rw [upd_twice, sTurn_16]
  · show va_up (va_up (sTurn N T a b o).2 16 _) 16 _ k = va_up (sTurn N T a b o).2 16 _ k
    rw [va_up_ne _ _ hk, va_up_ne _ _ hk, va_up_ne _ _ hk]
theorem sOn_0 {N : Nat → Nat} {T : Nat → Nat → Int32} {v : Int32} (h : N 2 ≤ 40) (z : nI (sOn N T v) = 0) : sOn N T v = 0 := by
  have : sOn N T v ≤ N 2 := sCnt_le _ _
  exact (nI_eq (by omega) (by omega)).mp (show nI (sOn N T v) = nI 0 from z)
