/-! numbers of the face -/
theorem va_up_cm {α : Type} {f : Nat → α} {i j : Nat} {x y : α} (h : i ≠ j) : va_up (va_up f i x) j y = va_up (va_up f j y) i x := by
  funext k
  by_cases c : k = i <;> by_cases e : k = j
  · omega
  · subst c; rw [va_up_ne _ _ e, va_up_self, va_up_self]
  · subst e; rw [va_up_self, va_up_ne _ _ c, va_up_self]
  · rw [va_up_ne _ _ e, va_up_ne _ _ c, va_up_ne _ _ c, va_up_ne _ _ e]
theorem sSm_2 {N : Nat → Nat} (h : sSm N) (hq : N 2 < 40) : sSm (va_up N 2 (N 2 + 1)) := by
  obtain ⟨a1, a2, a3, a4, a5, a6⟩ := h
  exact ⟨by show N 2 + 1 ≤ 40; omega, a2, a3, a4, a5, a6⟩
theorem sHours_m {N : Nat → Nat} {T : Nat → Nat → Int32} {a : Nat} : ∀ {b : Nat}, a ≤ b → (sHours a N T).1 1 ≤ (sHours b N T).1 1
  | 0, h => by
    have : a = 0 := by omega
    subst this
    exact Nat.le_refl _
  | b + 1, h => by
    by_cases c : a = b + 1
    · subst c; exact Nat.le_refl _
    · exact Nat.le_trans (sHours_m (b := b) (by omega)) sHour_n1l
