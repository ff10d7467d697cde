/-! numbers that the hours want -/
theorem sCnt_lt {f : Nat → Bool} {i : Nat} (hf : f i = false) : ∀ {n : Nat}, i < n → sCnt f n + 1 ≤ n
  | 0, h => absurd h (Nat.not_lt_zero _)
  | n + 1, h => by
    rw [sCnt]
    by_cases c : i = n
    · subst c
      have := sCnt_le f i
      rw [hf]
      simp
      omega
    · have := sCnt_lt hf (n := n) (by omega)
      split <;> omega
theorem sN1_w {N : Nat → Nat} {T : Nat → Nat → Int32} {K a : Nat} (h : sInv N T K a) (hK : K ≤ 511) (ha : a < N 3) (h0 : N 0 < 2000) (h16 : ¬ T 16 a = 1) : N 1 + 1 < 20512 := by
  obtain ⟨⟨-, -, h3, -, -, -, h1⟩, -⟩ := h
  have h2 : sAns T (N 3) + 1 ≤ N 3 := sCnt_lt (i := a) (by simp [h16]) ha
  have h4 : N 3 * N 0 ≤ 10 * 1999 := Nat.mul_le_mul h3 (by omega)
  omega
theorem sN1_c {N : Nat → Nat} {T : Nat → Nat → Int32} {K : Nat} (h : sInv N T K 0) (hK : K ≤ 511) : N 1 < 20512 := by
  obtain ⟨⟨h0, -, h3, -, -, -, h1⟩, -⟩ := h
  have h2 : sAns T (N 3) ≤ N 3 := sCnt_le _ _
  have h4 : N 3 * N 0 ≤ 10 * 2000 := Nat.mul_le_mul h3 h0
  omega
theorem sInv.sm {N : Nat → Nat} {T : Nat → Nat → Int32} {K a : Nat} (h : sInv N T K a) : sSm N := by
  obtain ⟨⟨h0, h2, h3, h4, h5, h6, -⟩, -⟩ := h
  exact ⟨h2, h3, h4, h5, by omega, h0⟩
theorem sMet_eq {T : Nat → Nat → Int32} {a : Nat} (h : T 13 a = 0 ∨ T 13 a = 1) : (if decide (T 13 a = 1) = true then decide (T 12 a ≤ T 6 (T 11 a).toNatClampNeg) else decide (T 6 (T 11 a).toNatClampNeg ≤ T 12 a)) = sMet T a := by
  rw [sMet]
  rcases h with h | h
  · rw [if_pos h, if_neg (by rw [h]; decide)]
  · rw [if_pos (by rw [h]; decide), if_neg (by rw [h]; decide)]
/-- to one who owns none, every tag is another's -/
theorem sBar_m1 {N : Nat → Nat} {T : Nat → Nat → Int32} {v : Int32} (h : ∀ t, t < N 2 → vp_in (T 7 t) 9) : sBar N T (-1) v = !decide (sOn N T v = 0) := by
  have h1 : ∀ n, n ≤ N 2 → sAny (fun t => decide (T 10 t = 0) && decide (T 8 t = v) && !decide (T 7 t = -1)) n = !decide (sCnt (fun t => decide (T 10 t = 0) && decide (T 8 t = v)) n = 0) := by
    intro n
    induction n with
    | zero => intro _; rfl
    | succ n ih =>
      intro hn
      have hne : ¬ T 7 n = -1 := fun z => by
        have := h n (by omega)
        rw [z] at this
        exact this (Or.inl (by decide))
      rw [sAny, sCnt, ih (by omega)]
      by_cases c : (decide (T 10 n = 0) && decide (T 8 n = v)) = true
      · simp [c, hne]
      · have c : (decide (T 10 n = 0) && decide (T 8 n = v)) = false := by simpa using c
        rw [c]
        simp
  exact h1 _ (Nat.le_refl _)
theorem zsub2 (x y : Int32) : x - (x - y) = y := by
  rw [Int32.sub_eq_add_neg x, Int32.neg_sub, Int32.add_comm, Int32.sub_add_cancel]
theorem zmin10 (x : Int32) : (if x < 10 then x else 10) = if x ≤ 10 then x else 10 := by
  by_cases c : x < 10
  · rw [if_pos c, if_pos (Int32.le_of_lt c)]
  · rw [if_neg c]
    by_cases e : x ≤ 10
    · rw [if_pos e]
      exact Int32.le_antisymm (Int32.not_lt.mp c) e
    · rw [if_neg e]
theorem zmin1000 (x : Int32) : (if x < 1000 then x else 1000) = x - (if x ≤ 1000 then 0 else x - 1000) := by
  by_cases c : x < 1000
  · rw [if_pos c, if_pos (Int32.le_of_lt c), Int32.sub_zero]
  · rw [if_neg c]
    by_cases e : x ≤ 1000
    · rw [if_pos e, Int32.sub_zero]
      exact Int32.le_antisymm (Int32.not_lt.mp c) e
    · rw [if_neg e, zsub2]
theorem zEnd3 {v : Int32} (h : sEnd v = true) (hn : sIx v 3 = false) : v = -1 := by
  rw [zEnd_or, hn, Bool.or_false, decide_eq_true_eq] at h
  exact h
theorem zEnd3n {v : Int32} (hn : sIx v 3 = true) : ¬ v = -1 := fun z => by
  rw [z] at hn
  exact absurd hn (by decide)
theorem sTurn_n1 {N : Nat → Nat} {T : Nat → Nat → Int32} {a b : Int32} {o : Bool} (h : ¬ T 3 b.toNatClampNeg = zb o) : (sTurn N T a b o).1 1 = N 1 + 1 := by
  rw [sTurn, if_neg h]
  rfl
theorem sTurn_e {N : Nat → Nat} {T : Nat → Nat → Int32} {a b : Int32} {o : Bool} (h : T 3 b.toNatClampNeg = zb o) : sTurn N T a b o = (N, T) := if_pos h
theorem sTurn_d {N : Nat → Nat} {T : Nat → Nat → Int32} {a b : Int32} {o : Bool} (h : ¬ T 3 b.toNatClampNeg = zb o) : sTurn N T a b o = sNote N (va_up T 3 (upd (T 3) b.toNatClampNeg (zb o))) 0 a (b + if o = true then 10 else 0) := if_neg h
theorem sRaise_n1 {N : Nat → Nat} {T : Nat → Nat → Int32} {a : Nat} : N 1 ≤ (sRaise N T a).1 1 ∧ (sRaise N T a).1 1 ≤ N 1 + 1 := by
  rw [(sRaise_3 (N := N) (T := T) (i := a)).2.2.2]
  split <;> omega
theorem sWatch_n1 {N : Nat → Nat} {T : Nat → Nat → Int32} {a : Nat} : N 1 ≤ (sWatch N T a).1 1 := by
  rw [sWatch]
  split
  · exact Nat.le_refl _
  · split
    · exact Nat.le_refl _
    · have h1 := (sRaise_n1 (N := N) (T := T) (a := a)).1
      rw [sWatch1]
      split
      · exact Nat.le_trans h1 sTurn_1.2.1
      · exact h1
theorem sWatches_n1 {N : Nat → Nat} {T : Nat → Nat → Int32} : ∀ {a : Nat}, N 1 ≤ (sWatches a N T).1 1
  | 0 => Nat.le_refl _
  | a + 1 => Nat.le_trans sWatches_n1 sWatch_n1
theorem va_up_id {α : Type} {f : Nat → α} {k : Nat} : va_up f k (f k) = f := by
  funext j
  by_cases c : j = k
  · rw [c, va_up_self]
  · rw [va_up_ne _ _ c]
theorem va_up_tw {α : Type} {f : Nat → α} {k : Nat} {x y : α} : va_up (va_up f k x) k y = va_up f k y := by
  funext j
  by_cases c : j = k
  · rw [c, va_up_self, va_up_self]
  · rw [va_up_ne _ _ c, va_up_ne _ _ c, va_up_ne _ _ c]
theorem sLeads_s0 {N : Nat → Nat} {T : Nat → Nat → Int32} {i : Nat} (h : (sLeads i N T).2 3 i = 0) : sLeads (i + 1) N T = sLeads i N T := by
  rw [sLeads]
  exact if_pos h
theorem sLeads_s1 {N : Nat → Nat} {T : Nat → Nat → Int32} {i : Nat} (h : ¬ (sLeads i N T).2 3 i = 0) : sLeads (i + 1) N T = sLed (sLeads i N T).1 (sLeads i N T).2 i := by
  rw [sLeads]
  exact if_neg h
theorem sWatch_0 {N : Nat → Nat} {T : Nat → Nat → Int32} {a : Nat} : (sWatch N T a).1 0 = N 0 := by
  rw [sWatch]
  split
  · rfl
  · split
    · rfl
    · have h1 := (sRaise_3 (N := N) (T := T) (i := a)).2.2.1
      rw [sWatch1]
      split
      · exact sTurn_1.1.trans h1
      · exact h1
theorem sWatches_0 {N : Nat → Nat} {T : Nat → Nat → Int32} : ∀ {a : Nat}, (sWatches a N T).1 0 = N 0
  | 0 => rfl
  | a + 1 => sWatch_0.trans sWatches_0
theorem sWatches_m {N : Nat → Nat} {T : Nat → Nat → Int32} {a : Nat} : ∀ {b : Nat}, a ≤ b → (sWatches a N T).1 1 ≤ (sWatches b N T).1 1
  | 0, h => by
    have : a = 0 := by omega
    subst this
    exact Nat.le_refl _
  | b + 1, h => by
    by_cases c : a = b + 1
    · subst c; exact Nat.le_refl _
    · exact Nat.le_trans (sWatches_m (b := b) (by omega)) sWatch_n1
theorem sHour_eq {N : Nat → Nat} {T : Nat → Nat → Int32} : sHour N T = (va_up (sWatches (N 3) N (sLeads 8 N T).2).1 0 ((sWatches (N 3) N (sLeads 8 N T).2).1 0 + 1), if ((sWatches (N 3) N (sLeads 8 N T).2).1 0 + 1) % 8 = 0 then va_up (sWatches (N 3) N (sLeads 8 N T).2).2 19 (upd ((sWatches (N 3) N (sLeads 8 N T).2).2 19) 0 (nI ((sWatches (N 3) N (sLeads 8 N T).2).1 1))) else (sWatches (N 3) N (sLeads 8 N T).2).2) := by
  have h1 : (sLeads 8 N T).1 = N := (sLeads_same (N := N) (T := T) (i := 8)).1
  rw [sHour, h1]
theorem sInv_l8 {N : Nat → Nat} {T : Nat → Nat → Int32} {K : Nat} (h : sInv N T K 0) : sInv N (sLeads 8 N T).2 K 0 := by
  have h2 := sInv_leads (i := 8) h
  rw [(sLeads_same (N := N) (T := T) (i := 8)).1] at h2
  exact h2
theorem zRm8 {n : Nat} (h : n < 2 ^ 31) (z : nI (n % 8) = 0) : n % 8 = 0 := (nI_eq (by omega) (by omega)).mp (show nI (n % 8) = nI 0 from z)
theorem zRm8n {n : Nat} (z : ¬ nI (n % 8) = 0) : ¬ n % 8 = 0 := fun e => z (by rw [e]; rfl)
theorem sHour_n1 {N : Nat → Nat} {T : Nat → Nat → Int32} : (sHour N T).1 1 = (sWatches (N 3) N (sLeads 8 N T).2).1 1 := by
  rw [sHour_eq]
  show va_up (sWatches (N 3) N (sLeads 8 N T).2).1 0 ((sWatches (N 3) N (sLeads 8 N T).2).1 0 + 1) 1 = _
  rw [va_up_ne _ _ (show 1 ≠ 0 by decide)]
theorem sHour_n1l {N : Nat → Nat} {T : Nat → Nat → Int32} : N 1 ≤ (sHour N T).1 1 := by
  rw [sHour_n1]
  exact sWatches_n1
theorem sHours_n1 {N : Nat → Nat} {T : Nat → Nat → Int32} : ∀ {h : Nat}, N 1 ≤ (sHours h N T).1 1
  | 0 => Nat.le_refl _
  | h + 1 => Nat.le_trans sHours_n1 sHour_n1l
theorem cGa_0 {A : Nat → Nat} {n k : Nat} (h : k < n) : cGa A 0 n k = some (A k) := by rw [cGa_p h, Nat.zero_add k]
