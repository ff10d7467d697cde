/-! what an hour keeps, and what holds throughout -/
theorem upd_twice {f : Nat → Int32} {i : Nat} {x y : Int32} : upd (upd f i x) i y = upd f i y := by
  funext k
  by_cases h : k = i <;> simp [upd, h]
theorem zb01 {x : Int32} (h : x = 0 ∨ x = 1) : x = zb (decide (x = 1)) := by
  rcases h with rfl | rfl <;> decide
theorem sEnd_in {v : Int32} (h : sEnd v = true) (hn : ¬ v = -1) : vp_in v 3 := by
  rw [vp_in_iff]
  simp only [sEnd, sIn, Bool.and_eq_true, decide_eq_true_eq, Int32.le_iff_toInt_le, show (-1 : Int32).toInt = -1 from by decide, show (2 : Int32).toInt = 2 from by decide] at h
  have : ¬ v.toInt = -1 := fun z => hn (Int32.toInt_inj.mp (z.trans (by decide)))
  omega
/-- what no hour and no entry touches stays -/
def sKeep (N : Nat → Nat) (T : Nat → Nat → Int32) (S : zS) : Prop := (∀ k, 2 ≤ k → S.1 k = N k) ∧ ∀ k, k ≠ 0 → k ≠ 3 → k ≠ 6 → k ≠ 16 → k ≠ 19 → S.2 k = T k
theorem sKeep.rf {N : Nat → Nat} {T : Nat → Nat → Int32} : sKeep N T (N, T) := ⟨fun _ _ => rfl, fun _ _ _ _ _ _ => rfl⟩
theorem sKeep.tr {N : Nat → Nat} {T : Nat → Nat → Int32} {S S2 : zS} (h : sKeep N T S) (h2 : sKeep S.1 S.2 S2) : sKeep N T S2 :=
  ⟨fun k a => (h2.1 k a).trans (h.1 k a), fun k a b c d e => (h2.2 k a b c d e).trans (h.2 k a b c d e)⟩
theorem sKeep.t {N : Nat → Nat} {T : Nat → Nat → Int32} {S : zS} (h : sKeep N T S) (k : Nat) (f : Nat → Int32) (hk : k = 0 ∨ k = 3 ∨ k = 6 ∨ k = 16 ∨ k = 19) : sKeep N T (S.1, va_up S.2 k f) :=
  ⟨h.1, fun j a b c d e => by rw [show (S.1, va_up S.2 k f).2 j = S.2 j from va_up_ne _ _ (by omega)]; exact h.2 j a b c d e⟩
theorem sNote_keep {N : Nat → Nat} {T : Nat → Nat → Int32} {a b c : Int32} : sKeep N T (sNote N T a b c) :=
  ⟨fun k hk => va_up_ne _ _ (by omega), fun k a _ _ _ _ => va_up_ne _ _ a⟩
theorem sTurn_keep {N : Nat → Nat} {T : Nat → Nat → Int32} {a b : Int32} {o : Bool} : sKeep N T (sTurn N T a b o) := by
  unfold sTurn
  split
  · exact sKeep.rf
  · exact ((sKeep.rf (N := N) (T := T)).t 3 _ (by omega)).tr sNote_keep
theorem sLed_keep {N : Nat → Nat} {T : Nat → Nat → Int32} {i : Nat} : sKeep N T (sLed N T i) := by
  unfold sLed
  split
  · exact (sKeep.rf (N := N) (T := T)).t 6 _ (by omega)
  · exact ((sKeep.rf (N := N) (T := T)).t 6 _ (by omega)).t 19 _ (by omega)
theorem sRaise_keep {N : Nat → Nat} {T : Nat → Nat → Int32} {i : Nat} : sKeep N T (sRaise N T i) := by
  unfold sRaise
  split
  · exact sNote_keep
  · exact sKeep.rf
theorem sWatch1_keep {S : zS} {i : Nat} : sKeep S.1 S.2 (sWatch1 S i) := by
  unfold sWatch1
  split
  · exact (sTurn_keep).t 16 _ (by omega)
  · exact (sKeep.rf).t 16 _ (by omega)
theorem sWatch_keep {N : Nat → Nat} {T : Nat → Nat → Int32} {i : Nat} : sKeep N T (sWatch N T i) := by
  unfold sWatch
  split
  · exact (sKeep.rf (N := N) (T := T)).t 16 _ (by omega)
  · split
    · exact sKeep.rf
    · exact sRaise_keep.tr sWatch1_keep
theorem sLeads_keep {N : Nat → Nat} {T : Nat → Nat → Int32} : ∀ {i : Nat}, sKeep N T (sLeads i N T)
  | 0 => sKeep.rf
  | i + 1 => by
    unfold sLeads
    dsimp only
    split
    · exact sLeads_keep
    · exact sLeads_keep.tr sLed_keep
theorem sWatches_keep {N : Nat → Nat} {T : Nat → Nat → Int32} : ∀ {i : Nat}, sKeep N T (sWatches i N T)
  | 0 => sKeep.rf
  | i + 1 => sWatches_keep.tr sWatch_keep
theorem sMR_keep {N : Nat → Nat} {T : Nat → Nat → Int32} {E E1 : Nat → Int64} {hg ag mn sd tk : Nat → Int32} {S : zS} (h : sMR N T E hg ag mn sd tk) (hk : sKeep N T S) (hE : sRE E1 (S.2 0) (S.1 1)) : sMR S.1 S.2 E1 hg ag mn sd tk := by
  obtain ⟨-, h2, h3, h4, h5⟩ := h
  have a2 := hk.1 2 (by omega)
  have a5 := hk.1 5 (by omega)
  have a6 := hk.1 6 (by omega)
  have t8 := hk.2 8 (by omega) (by omega) (by omega) (by omega) (by omega)
  have t9 := hk.2 9 (by omega) (by omega) (by omega) (by omega) (by omega)
  have t10 := hk.2 10 (by omega) (by omega) (by omega) (by omega) (by omega)
  have t18 := hk.2 18 (by omega) (by omega) (by omega) (by omega) (by omega)
  refine ⟨hE, ?_, ?_, ?_, ?_⟩
  · intro t ht; rw [a2] at ht; rw [t8, t10]; exact h2 t ht
  · intro t ht h0; rw [a2] at ht; rw [t10] at h0; rw [t9]; exact h3 t ht h0
  · intro m hm
    rw [a5] at hm
    rw [hk.1 (20 + m) (by omega), hk.2 (20 + m) (by omega) (by omega) (by omega) (by omega) (by omega)]
    exact h4 m hm
  · intro t ht; rw [a6] at ht; rw [t18]; exact h5 t ht
/-- the invariant but for the numbers of entries -/
def sInvT (N : Nat → Nat) (T : Nat → Nat → Int32) : Prop :=
  (∀ i, (T 2 i = 0 ∨ T 2 i = 1) ∧ (T 3 i = 0 ∨ T 3 i = 1) ∧ (T 10 i = 0 ∨ T 10 i = 1) ∧ (T 13 i = 0 ∨ T 13 i = 1) ∧ (T 15 i = 0 ∨ T 15 i = 1)) ∧
  (∀ v, v < 8 → sEnd (T 4 v) = true ∧ sEnd (T 5 v) = true ∧ ¬ T 4 v = T 5 v) ∧
  (∀ t, t < N 2 → vp_in (T 7 t) 9 ∧ vp_in (T 8 t) 8 ∧ (T 9 t = -1 ∨ vp_in (T 9 t) 9)) ∧
  (∀ a, a < N 3 → vp_in (T 11 a) 3 ∧ vp_in (T 14 a) 8 ∧ (T 16 a = 0 ∨ T 16 a = 1 ∨ T 16 a = 2)) ∧ (∀ a, N 3 ≤ a → T 16 a = 0) ∧
  (∀ m, m < N 5 → N (20 + m) ≤ 40 ∧ sGood (T (20 + m)) (N (20 + m)) = true) ∧
  (∀ t, t < N 6 → T 18 t = -1 ∨ vp_in (T 18 t) 9) ∧ (∀ t, N 6 ≤ t → T 18 t = -1) ∧
  (∀ j, ∃ x : Nat, x < 65536 ∧ T 17 j = nI x)
theorem sInvT_keep {N : Nat → Nat} {T : Nat → Nat → Int32} {S : zS} (h : sInvT N T) (hk : sKeep N T S) (h3 : ∀ i, S.2 3 i = 0 ∨ S.2 3 i = 1) (h16 : (∀ a, a < N 3 → S.2 16 a = 0 ∨ S.2 16 a = 1 ∨ S.2 16 a = 2) ∧ ∀ a, N 3 ≤ a → S.2 16 a = 0) : sInvT S.1 S.2 := by
  obtain ⟨b1, b2, b3, b4, b5, b6, b7, b8, b9⟩ := h
  have e : ∀ k, k ≠ 0 → k ≠ 3 → k ≠ 6 → k ≠ 16 → k ≠ 19 → S.2 k = T k := hk.2
  unfold sInvT
  rw [hk.1 2 (by omega), hk.1 3 (by omega), hk.1 5 (by omega), hk.1 6 (by omega), e 2 (by omega) (by omega) (by omega) (by omega) (by omega), e 4 (by omega) (by omega) (by omega) (by omega) (by omega), e 5 (by omega) (by omega) (by omega) (by omega) (by omega), e 7 (by omega) (by omega) (by omega) (by omega) (by omega), e 8 (by omega) (by omega) (by omega) (by omega) (by omega), e 9 (by omega) (by omega) (by omega) (by omega) (by omega), e 10 (by omega) (by omega) (by omega) (by omega) (by omega), e 11 (by omega) (by omega) (by omega) (by omega) (by omega), e 13 (by omega) (by omega) (by omega) (by omega) (by omega), e 14 (by omega) (by omega) (by omega) (by omega) (by omega), e 15 (by omega) (by omega) (by omega) (by omega) (by omega), e 17 (by omega) (by omega) (by omega) (by omega) (by omega), e 18 (by omega) (by omega) (by omega) (by omega) (by omega)]
  refine ⟨fun i => ⟨(b1 i).1, h3 i, (b1 i).2.2⟩, b2, b3, fun a ha => ⟨(b4 a ha).1, (b4 a ha).2.1, h16.1 a ha⟩, h16.2, fun m hm => ?_, b7, b8, b9⟩
  rw [hk.1 (20 + m) (by omega), e (20 + m) (by omega) (by omega) (by omega) (by omega) (by omega)]
  exact b6 m hm
theorem sTurn_3 {N : Nat → Nat} {T : Nat → Nat → Int32} {a b : Int32} {o : Bool} (h : ∀ i, T 3 i = 0 ∨ T 3 i = 1) : ∀ i, (sTurn N T a b o).2 3 i = 0 ∨ (sTurn N T a b o).2 3 i = 1 := by
  intro i
  unfold sTurn
  split
  · exact h i
  · show upd (T 3) _ (zb o) i = 0 ∨ upd (T 3) _ (zb o) i = 1
    by_cases hi : i = b.toNatClampNeg
    · simp only [upd, hi, if_true]; cases o
      · exact Or.inl rfl
      · exact Or.inr rfl
    · simp only [upd, hi, if_false]; exact h i
theorem sTurn_16 {N : Nat → Nat} {T : Nat → Nat → Int32} {a b : Int32} {o : Bool} : (sTurn N T a b o).2 16 = T 16 := by
  unfold sTurn
  split <;> rfl
theorem sTurn_1 {N : Nat → Nat} {T : Nat → Nat → Int32} {a b : Int32} {o : Bool} : (sTurn N T a b o).1 0 = N 0 ∧ N 1 ≤ (sTurn N T a b o).1 1 ∧ (sTurn N T a b o).1 1 ≤ N 1 + 1 := by
  unfold sTurn
  split
  · exact ⟨rfl, Nat.le_refl _, Nat.le_succ _⟩
  · exact ⟨rfl, Nat.le_succ _, Nat.le_refl _⟩
theorem sTurn_up {N : Nat → Nat} {T : Nat → Nat → Int32} {a b : Int32} {o : Bool} {f : Nat → Int32} : sTurn N (va_up T 16 f) a b o = ((sTurn N T a b o).1, va_up (sTurn N T a b o).2 16 f) := by
  have e3 : va_up T 16 f 3 = T 3 := rfl
  unfold sTurn
  rw [e3]
  split
  · rfl
  · refine Prod.ext rfl ?_
    funext k
    by_cases h0 : k = 0 <;> by_cases h3 : k = 3 <;> by_cases h16 : k = 16 <;> simp_all [sNote, va_up]
