/-! what the reference keeps, call by call -/
theorem zIn {v : Int32} {n m : Nat} (h : vp_in v n) (hn : n ≤ m) : vp_in v m := by
  rw [vp_in_iff] at h ⊢
  omega
theorem sBars_le {N : Nat → Nat} {T : Nat → Nat → Int32} {p v : Int32} (h : sBars N T p v ≤ 0) : sBars N T p v = 0 := by
  revert h
  unfold sBars
  split
  · intro h; exact absurd h (by decide)
  · split
    · intro h; exact absurd h (by decide)
    · split
      · intro h; exact absurd h (by decide)
      · intro _; rfl
theorem sBars_nle {N : Nat → Nat} {T : Nat → Nat → Int32} {p v : Int32} (h : ¬ sBars N T p v ≤ 0) : ¬ sBars N T p v = 0 := fun z => h (by rw [z]; decide)
theorem sMR_len {N : Nat → Nat} {T : Nat → Nat → Int32} {E : Nat → Int64} {hg ag mn sd tk : Nat → Int32} {x : Nat} (h : sMR N T E hg ag mn sd tk) : sMR (va_up N 4 x) T E hg ag mn sd tk := by
  obtain ⟨h1, h2, h3, h4, h5⟩ := h
  refine ⟨h1, h2, h3, ?_, h5⟩
  intro m hm
  rw [va_up_ne N x (show 20 + m ≠ 4 by omega)]
  exact h4 m hm
theorem sMR_up1 {N : Nat → Nat} {T : Nat → Nat → Int32} {E : Nat → Int64} {hg ag mn sd tk : Nat → Int32} {f : Nat → Int32} (h : sMR N T E hg ag mn sd tk) : sMR N (va_up T 1 f) E hg ag mn sd tk := by
  obtain ⟨h1, h2, h3, h4, h5⟩ := h
  refine ⟨h1, h2, h3, ?_, h5⟩
  intro m hm
  rw [va_up_ne T f (show 20 + m ≠ 1 by omega)]
  exact h4 m hm
